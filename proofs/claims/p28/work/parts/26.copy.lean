/-! copies: the class's takeOver, the reference's rows, the histories -/
theorem cpy_in {f g : Nat → Int32} {n k : Nat} (h : k < n) : va_cpy f g 0 0 n k = f k := by
  unfold va_cpy
  rw [if_pos (by omega)]
  congr 1
  omega
theorem Snd.congr {μ : Mem} {o : Nat} {n : Int} {σ σ' : Nat → Int32} (h : Snd μ o σ) (hf : Wf n σ) (he : ∀ k, k < 166 → σ' k = σ k) : Snd μ o σ' := by
  obtain ⟨h0, h1, h2, h3, h4, h5, h6, h7⟩ := h
  refine ⟨by rw [he 0 (by omega)]; exact h0, by rw [he 1 (by omega)]; exact h1, by rw [he 2 (by omega)]; exact h2, by rw [he 3 (by omega)]; exact h3, by rw [he 4 (by omega)]; exact h4, fun k hk => by rw [he _ (by omega)]; exact h5 k hk, fun k hk => by rw [he _ (by omega)]; exact h6 k hk, fun w hw => (h7 w hw).congr (hf.2.2.2.2.1 w hw).2.2.2.2.2.1 (fun j hj => he _ (by omega))⟩
theorem Wf.congr {n : Int} {σ σ' : Nat → Int32} (hf : Wf n σ) (he : ∀ k, k < 166 → σ' k = σ k) : Wf n σ' := by
  obtain ⟨h0, h1, h2, h3, h4, h5, h6⟩ := hf
  refine ⟨by rw [he 0 (by omega)]; exact h0, by rw [he 1 (by omega)]; exact h1, by rw [he 1 (by omega), he 2 (by omega)]; exact h2, fun k hk => by rw [he _ (by omega)]; exact h3 k hk, fun w hw => (h4 w hw).congr (fun j hj => he _ (by omega)), by rw [he 1 (by omega), he 5 (by omega)]; exact h5, ?_⟩
  have : ((σ 1).toNatClampNeg - 1) % 32 < 32 := Nat.mod_lt _ (by omega)
  rw [he 1 (by omega), he 5 (by omega), he (134 + ((σ 1).toNatClampNeg - 1) % 32) (by omega)]
  exact h6
theorem q4_take {c c' : Nat} {μ : Mem} {K : Mem → Prop} {ω : Nat → Int32} (hd : c + 3 ≤ c' ∨ c' + 3 ≤ c) (hc : Whl μ c' ω) (hf : WfW ω) (hK : ∀ μ', Whl μ' c ω → Fr c (c + 3) μ μ' → K μ') : x_X4_takeOver c c' μ K := by
  obtain ⟨c0, c1, c2, c3, c4, c5, csw, cgo⟩ := hc
  have h5 := hf.2.2.2.2.2.1.2
  unfold x_X4_takeOver
  rintro _ rfl _ rfl _ rfl _ rfl
  simp only [um_s, um_um, um_n (by omega : c' ≠ c)]
  refine ⟨by rw [c4]; exact hf.2.2.2.2.1, ?_⟩
  rintro _ rfl _ rfl _ rfl _ rfl _ rfl _ rfl
  simp only [um_s, um_um, um_n (by omega : c' ≠ c), um_n (by omega : c' + 1 ≠ c), um_n (by omega : c + 1 ≠ c), um_n (by omega : c' + 2 ≠ c + 1), um_n (by omega : c' + 2 ≠ c), um_n (by omega : c + 2 ≠ c + 1), um_n (by omega : c + 2 ≠ c), um_n (by omega : c ≠ c + 2), um_n (by omega : c ≠ c + 1), um_n (by omega : c' ≠ c + 2), um_n (by omega : c' ≠ c + 1)]
  refine hK _ ?_ ((((Fr.rfl.um (by omega) (by omega)).um (by omega) (by omega)).um (by omega) (by omega)).um (by omega) (by omega))
  unfold Whl
  simp only [um_s, um_n (by omega : c + 1 ≠ c), um_n (by omega : c + 2 ≠ c), um_n (by omega : c + 1 ≠ c + 2)]
  refine ⟨by simp [upd, c0], by simp [upd, c1], by simp [upd, c2], by simp [upd, c3], by simp [upd, c4], by simp [upd, c5], fun k hk => ?_, fun h => ?_⟩
  · rw [cpy_in (by omega), cpy_in (by omega)]
    exact csw k hk
  · obtain ⟨a, b⟩ := cgo h
    exact ⟨by simp [upd, a], by simp [upd, b]⟩
theorem q3_take {o o' : Nat} {n : Int} {μ : Mem} {K : Mem → Prop} {σ : Nat → Int32} (hd : o + 16 ≤ o' ∨ o' + 16 ≤ o) (hs : Snd μ o' σ) (hf : Wf n σ) (hK : ∀ μ', Snd μ' o σ → Fr o (o + 16) μ μ' → K μ') : x_X3_takeOver o o' μ K := by
  have loop : ∀ (k i : Nat) (μ1 : Mem), i + k = 4 → Fr o (o + 16) μ μ1 → μ1 o 0 = σ 0 → (∀ k, k < 64 → μ1 (o + 1) k = σ (6 + k)) → (∀ w, w < i → Whl μ1 (o + 4 + 3 * w) (wl σ w)) → x_X3_takeOver_L25 K (k + 1) o o' (nI i) μ1 := by
    intro k
    induction k with
    | zero =>
      intro i μ1 hi hfr h0 h5 h7
      obtain rfl : i = 4 := by omega
      have hs1 := hs.off hfr (by omega)
      obtain ⟨s0, s1, s2, s3, s4, s5, s6, s7⟩ := hs1
      show xb_X3_takeOver_L25 _ _ _ _ _ _
      unfold xb_X3_takeOver_L25
      refine ⟨fun _ => ?_, fun h => absurd (nI_le (a := 4) (b := 4) (by omega) (by omega)) h⟩
      rintro _ rfl _ rfl _ rfl _ rfl _ rfl
      simp only [um_s, um_um, um_n (by omega : o' ≠ o), um_n (by omega : o' + 3 ≠ o), um_n (by omega : o + 3 ≠ o)]
      refine hK _ ?_ ((hfr.um (by omega) (by omega)).um (by omega) (by omega))
      unfold Snd
      simp only [um_s, um_n (by omega : o ≠ o + 3), um_n (by omega : o + 1 ≠ o + 3), um_n (by omega : o + 1 ≠ o)]
      refine ⟨by simp [upd, h0], by simp [upd, s1], by simp [upd, s2], by simp [upd, s3], by simp [upd, s4], h5, fun k hk => ?_, fun w hw => ?_⟩
      · rw [cpy_in hk]
        exact s6 k hk
      · refine (h7 w hw).fr ?_ ?_ ?_
        · rw [um_n (by omega), um_n (by omega)]
        · rw [um_n (by omega), um_n (by omega)]
        · rw [um_n (by omega), um_n (by omega)]
    | succ k ih =>
      intro i μ1 hi hfr h0 h5 h7
      have hi4 : i < 4 := by omega
      have hs1 := hs.off hfr (by omega)
      show xb_X3_takeOver_L25 _ _ _ _ _ _
      unfold xb_X3_takeOver_L25
      refine ⟨fun h => absurd h (nI_ge (a := i) (b := 4) (by omega) (by omega)), fun _ => ?_⟩
      simp (disch := omega) only [nI_clamp, vp_nI, true_and]
      refine q4_take (by omega) (hs1.2.2.2.2.2.2.2 i hi4) (hf.2.2.2.2.1 i hi4) (fun μ2 hc2 hfr2 => ?_)
      rintro _ rfl
      rw [show nI i + 1 = nI (i + 1) from (nI_succ i).symm]
      refine ih (i + 1) μ2 (by omega) (hfr.trans (hfr2.mono (by omega) (by omega))) (by rw [hfr2 o (by omega)]; exact h0) (fun k hk => by rw [hfr2 (o + 1) (by omega)]; exact h5 k hk) (fun w hw => ?_)
      by_cases hwi : w = i
      · subst hwi
        exact hc2
      · exact (h7 w (by omega)).fr (hfr2 _ (by omega)) (hfr2 _ (by omega)) (hfr2 _ (by omega))
  obtain ⟨s0, s1, s2, s3, s4, s5, s6, s7⟩ := id hs
  unfold x_X3_takeOver
  rintro _ rfl _ rfl
  refine ⟨5, loop 4 0 _ (by omega) ((Fr.rfl.um (by omega) (by omega)).um (by omega) (by omega)) ?_ (fun k hk => ?_) (fun w hw => absurd hw (by omega))⟩
  · rw [um_n (by omega), um_s, upd_s]
    exact s0
  · rw [um_s, cpy_in hk, um_n (by omega)]
    exact s5 k hk
/-- the class's history: S states, the oldest first -/
def HC (ct : Nat) (μ : Mem) (S : Nat) (hl : Nat → Nat → Int32) : Prop := ∃ nx, nx + ct ≤ 5000 ∧ S ≤ nx ∧ μ 33 1 = nI nx ∧ μ 33 2 = nI S ∧ ∀ j, j < S → Snd μ (35 + 16 * ((nx + 6 - S + j) % 6)) (hl j)
/-- one more is recorded -/
def hS (S : Nat) : Nat := if S < 6 then S + 1 else 6
def hL (S : Nat) (hl : Nat → Nat → Int32) (σ : Nat → Int32) : Nat → Nat → Int32 := fun j => if j + (S + 1 - hS S) = S then σ else hl (j + (S + 1 - hS S))
theorem HC.fr {ct : Nat} {μ μ' : Mem} {S : Nat} {hl : Nat → Nat → Int32} (h : HC ct μ S hl) (hq : ∀ q, 33 ≤ q → q < 131 → μ' q = μ q) : HC ct μ' S hl := by
  obtain ⟨nx, h0, h1, h2, h3, h4⟩ := h
  refine ⟨nx, h0, h1, by rw [hq 33 (by omega) (by omega)]; exact h2, by rw [hq 33 (by omega) (by omega)]; exact h3, fun j hj => (h4 j hj).fr (fun q a b => hq q (by omega) (by omega))⟩
theorem HC.dn {ct : Nat} {μ : Mem} {S : Nat} {hl : Nat → Nat → Int32} (h : HC (ct + 1) μ S hl) : HC ct μ S hl := by
  obtain ⟨nx, h0, h1, h2, h3, h4⟩ := h
  exact ⟨nx, by omega, h1, h2, h3, h4⟩
theorem qJ_fm6 {a : Nat} (ha : a < 2 ^ 31) {μ : Mem} {K : Int32 → Mem → Prop} (hK : K (nI (a % 6)) μ) : x_J9_floorMod_7cf53 (nI a) 6 μ K := by
  unfold x_J9_floorMod_7cf53
  refine ⟨by decide, ?_⟩
  rintro _ rfl
  refine ⟨fun _ => ?_, fun h => absurd ?_ h⟩
  · rw [n_6, pk_rem (a := a) (d := 6) ha (by omega) (by omega)]
    exact hK
  · rw [n_6, nI_xor]
    exact nI_pos' (Nat.xor_lt_two_pow ha (by omega))
theorem q0_keep {ct : Nat} {n : Int} {μ : Mem} {S : Nat} {hl : Nat → Nat → Int32} {σ : Nat → Int32} {K : Mem → Prop} (hc : HC (ct + 1) μ S hl) (hS6 : S ≤ 6) (hs : Snd μ 1 σ) (hf : Wf n σ) (hK : ∀ μ', HC ct μ' (hS S) (hL S hl σ) → Snd μ' 1 σ → Fr 33 131 μ μ' → K μ') : x_X0_keep 1 μ K := by
  obtain ⟨nx, hnx, hSn, e1, e2, h4⟩ := hc
  unfold x_X0_keep
  rw [e1]
  apply qJ_fm6 (by omega)
  have hm6 : nx % 6 < 6 := Nat.mod_lt _ (by omega)
  refine ⟨vp_in_nI hm6 (by omega), ?_⟩
  rw [nI_clamp (by omega)]
  refine q3_take (by omega) hs hf (fun μ1 hs1 hfr => ?_)
  have f33 : μ1 33 = μ 33 := hfr 33 (by omega)
  rintro _ rfl _ rfl _ rfl
  rw [um_s, um_um, f33, upd_n (by omega), e1, e2, nI_1, nI_1, n_6]
  have ek : (if nI 6 < nI (S + 1) then nI 6 else nI (S + 1)) = nI (hS S) := by
    unfold hS
    by_cases h : S < 6
    · rw [if_pos h, if_neg (nI_nlt (by omega) (by omega))]
    · rw [if_neg h]
      by_cases h2 : nI 6 < nI (S + 1)
      · rw [if_pos h2]
      · rw [if_neg h2]
        exact absurd (nI_lt (by omega) (by omega)) h2
  rw [ek]
  have hd : (S < 6 ∧ hS S = S + 1) ∨ (S = 6 ∧ hS S = 6) := by
    unfold hS
    by_cases h : S < 6
    · rw [if_pos h]; exact Or.inl ⟨h, rfl⟩
    · rw [if_neg h]; exact Or.inr ⟨by omega, rfl⟩
  refine hK _ ⟨nx + 1, by omega, by omega, ?_, ?_, fun j hj => ?_⟩ ?_ ((hfr.mono (by omega) (by omega)).um (by omega) (by omega))
  · rw [um_s, upd_n (by omega), upd_s]
  · rw [um_s, upd_s]
  · unfold hL
    by_cases hj2 : j + (S + 1 - hS S) = S
    · have hi : (nx + 1 + 6 - hS S + j) % 6 = nx % 6 := by
        rcases hd with ⟨d1, d2⟩ | ⟨d1, d2⟩ <;> rw [d2] at hj hj2 ⊢ <;> omega
      rw [if_pos hj2, hi]
      exact hs1.fr (fun q a b => um_n (by omega))
    · rw [if_neg hj2]
      have hlt : j + (S + 1 - hS S) < S := by
        rcases hd with ⟨d1, d2⟩ | ⟨d1, d2⟩ <;> rw [d2] at hj hj2 ⊢ <;> omega
      have := h4 (j + (S + 1 - hS S)) hlt
      have hi : (nx + 1 + 6 - hS S + j) % 6 = (nx + 6 - S + (j + (S + 1 - hS S))) % 6 := by
        rcases hd with ⟨d1, d2⟩ | ⟨d1, d2⟩ <;> rw [d2] at hj hj2 ⊢ <;> omega
      rw [hi]
      have hne : (nx + 6 - S + (j + (S + 1 - hS S))) % 6 ≠ nx % 6 := by
        rcases hd with ⟨d1, d2⟩ | ⟨d1, d2⟩ <;> rw [d2] at hj hj2 hlt ⊢ <;> omega
      obtain ⟨ix, hix⟩ : ∃ ix, ix = (nx + 6 - S + (j + (S + 1 - hS S))) % 6 := ⟨_, rfl⟩
      rw [← hix] at this hne ⊢
      refine this.fr (fun q a b => ?_)
      rw [um_n (by omega)]
      exact hfr q (by omega)
  · refine hs.fr (fun q a b => ?_)
    rw [um_n (by omega)]
    exact hfr q (by omega)
