/-! the reference records; what holds between two calls -/
theorem um_self {μ : Mem} {o : Nat} : um μ o (μ o) = μ := by
  funext q
  by_cases hq : q = o
  · subst hq; rw [um_s]
  · rw [um_n hq]
theorem upd_upd {f : Nat → Int32} {k : Nat} {x y : Int32} : upd (upd f k x) k y = upd f k y := by
  funext j
  by_cases h : j = k
  · subst h; rw [upd_s, upd_s]
  · rw [upd_n h, upd_n h, upd_n h]
def HMb (b : Nat → Int32) (S : Nat) (hl : Nat → Nat → Int32) : Prop := ∀ j, j < S → ∀ k, k < 166 → b (166 * j + k) = hl j k
theorem q6_rec54 {T : Nat} {M : Mem} {σ : Nat → Int32} {res : Int32} {K : Int32 → Mem → Prop} (hT : M 168 9 = nI T) (hT5 : T ≤ 5) (hsp : ∀ k, k < 166 → M 170 k = σ k) (hK : ∀ b', (∀ p, p < 166 * T → b' p = M 172 p) → (∀ k, k < 166 → b' (166 * T + k) = σ k) → K res (um (um M 172 b') 168 (upd (M 168) 9 (nI (T + 1))))) : x_X6_recorded_L54 K res M := by
  have loop : ∀ (k i : Nat) (b : Nat → Int32), i + k = 166 → (∀ p, p < 166 * T → b p = M 172 p) → (∀ k, k < i → b (166 * T + k) = σ k) → x_X6_recorded_L56 K (k + 1) res (nI i) (um M 172 b) := by
    intro k
    induction k with
    | zero =>
      intro i b hi h1 h2
      show xb_X6_recorded_L56 _ _ _ _ _
      unfold xb_X6_recorded_L56
      refine ⟨fun _ => ?_, fun h => absurd (nI_le (a := 166) (b := i) (by omega) (by omega)) h⟩
      rintro _ rfl
      rw [um_n (by omega : 168 ≠ 172), hT, nI_1]
      exact hK b h1 (fun k hk => h2 k (by omega))
    | succ k ih =>
      intro i b hi h1 h2
      show xb_X6_recorded_L56 _ _ _ _ _
      unfold xb_X6_recorded_L56
      refine ⟨fun h => absurd h (nI_ge (a := i) (b := 166) (by omega) (by omega)), fun _ => ?_⟩
      rw [um_n (by omega : 168 ≠ 172), um_n (by omega : 170 ≠ 172), hT, n_166, pk_mul, nI_add, um_s, um_um]
      simp (disch := omega) only [nI_clamp, vp_nI, true_and]
      rintro _ rfl _ rfl
      rw [show nI i + 1 = nI (i + 1) from (nI_succ i).symm]
      refine ih (i + 1) _ (by omega) (fun p hp => ?_) (fun j hj => ?_)
      · rw [upd_n (by omega)]
        exact h1 p hp
      · by_cases hji : j = i
        · subst hji
          rw [upd_s]
          exact hsp j (by omega)
        · rw [upd_n (by omega)]
          exact h2 j (by omega)
  unfold x_X6_recorded_L54
  refine ⟨167, ?_⟩
  have := loop 166 0 (M 172) (by omega) (fun _ _ => rfl) (fun _ h => absurd h (by omega))
  rw [um_self] at this
  exact this
theorem q6_recorded {S : Nat} {μ : Mem} {hl : Nat → Nat → Int32} {σ : Nat → Int32} {res : Int32} {K : Int32 → Mem → Prop} (hS9 : μ 168 9 = nI S) (hm : HMb (μ 172) S hl) (hS6 : S ≤ 6) (hsp : ∀ k, k < 166 → μ 170 k = σ k) (hres : ¬ res < 0) (hK : ∀ b', HMb b' (hS S) (hL S hl σ) → K res (um (um μ 172 b') 168 (upd (μ 168) 9 (nI (hS S))))) : x_X6_recorded res μ K := by
  unfold x_X6_recorded
  refine ⟨fun h => absurd h hres, fun _ => ?_⟩
  rw [hS9]
  by_cases h6 : S = 6
  · subst h6
    refine ⟨fun _ => ?_, fun h => absurd rfl h⟩
    have loop : ∀ (k i : Nat) (b : Nat → Int32), i + k = 830 → (∀ p, p < i → b p = μ 172 (p + 166)) → (∀ p, i ≤ p → b p = μ 172 p) → x_X6_recorded_L15 K (k + 1) res (nI i) (um μ 172 b) := by
      intro k
      induction k with
      | zero =>
        intro i b hi h1 h2
        show xb_X6_recorded_L15 _ _ _ _ _
        unfold xb_X6_recorded_L15
        refine ⟨fun _ => ?_, fun h => absurd (nI_le (a := 830) (b := i) (by omega) (by omega)) h⟩
        rintro _ rfl
        rw [um_n (by omega : 168 ≠ 172), hS9, show nI 6 - 1 = nI 5 from nI_pred 5]
        refine q6_rec54 (T := 5) (σ := σ) (by rw [um_s, upd_s]) (by omega) (fun k hk => by rw [um_n (by omega), um_n (by omega)]; exact hsp k hk) (fun b' hb1 hb2 => ?_)
        rw [um_s, upd_upd]
        have e : um (um (um (um μ 172 b) 168 (upd (μ 168) 9 (nI 5))) 172 b') 168 (upd (μ 168) 9 (nI (5 + 1))) = um (um μ 172 b') 168 (upd (μ 168) 9 (nI 6)) := by
          funext q
          by_cases q1 : q = 168
          · subst q1; rw [um_s, um_s]
          · rw [um_n q1, um_n q1]
            by_cases q2 : q = 172
            · subst q2; rw [um_s, um_s]
            · rw [um_n q2, um_n q2, um_n q1, um_n q2]
        rw [e]
        refine hK b' (fun j hj k hk => ?_)
        have e6 : hS 6 = 6 := rfl
        unfold hL
        rw [e6] at hj ⊢
        have e1 : 6 + 1 - 6 = 1 := rfl
        rw [e1]
        by_cases hj5 : j = 5
        · subst hj5
          rw [if_pos rfl]
          exact hb2 k hk
        · rw [if_neg (by omega), hb1 _ (by omega), um_n (by omega), um_s, h1 _ (by omega), show 166 * j + k + 166 = 166 * (j + 1) + k by omega]
          exact hm (j + 1) (by omega) k hk
      | succ k ih =>
        intro i b hi h1 h2
        show xb_X6_recorded_L15 _ _ _ _ _
        unfold xb_X6_recorded_L15
        refine ⟨fun h => absurd h (nI_ge (a := i) (b := 830) (by omega) (by omega)), fun _ => ?_⟩
        rw [n_166, nI_add, um_s, um_um]
        simp (disch := omega) only [nI_clamp, vp_nI, true_and]
        rintro _ rfl _ rfl
        rw [show nI i + 1 = nI (i + 1) from (nI_succ i).symm]
        refine ih (i + 1) _ (by omega) (fun p hp => ?_) (fun p hp => ?_)
        · by_cases hpi : p = i
          · subst hpi
            rw [upd_s, h2 _ (by omega), Nat.add_comm]
          · rw [upd_n hpi]
            exact h1 p (by omega)
        · rw [upd_n (by omega)]
          exact h2 p (by omega)
    refine ⟨831, ?_⟩
    have := loop 830 0 (μ 172) (by omega) (fun _ h => absurd h (by omega)) (fun _ _ => rfl)
    rw [um_self] at this
    exact this
  · have hlt : S < 6 := by omega
    refine ⟨fun h => absurd ((nI_eq (by omega) (by omega)).mp (show nI S = nI 6 from h)) h6, fun _ => ?_⟩
    have e6 : hS S = S + 1 := if_pos hlt
    refine q6_rec54 (σ := σ) hS9 (by omega) hsp (fun b' hb1 hb2 => ?_)
    rw [← e6]
    refine hK b' (fun j hj k hk => ?_)
    unfold hL
    rw [e6] at hj ⊢
    rw [Nat.sub_self, Nat.add_zero]
    by_cases hjS : j = S
    · subst hjS
      rw [if_pos rfl]
      exact hb2 k hk
    · rw [if_neg hjS, hb1 _ (by omega)]
      exact hm j (by omega) k hk
theorem q6_rec_neg {μ : Mem} {res : Int32} {K : Int32 → Mem → Prop} (hres : res < 0) (hK : K res μ) : x_X6_recorded res μ K := by
  unfold x_X6_recorded
  exact ⟨fun _ => hK, fun h => absurd hres h⟩
/-- the slots -/
def SL (μ : Mem) (sl : Nat → Nat → Int32) : Prop := ∀ j, j < 2 → zb (μ 133 j) ∧ μ 174 j = μ 133 j ∧ (μ 133 j = 1 → Snd μ (134 + 16 * j) (sl j) ∧ (∀ k, k < 166 → μ 173 (166 * j + k) = sl j k) ∧ Wf 999999 (sl j))
/-- the pads -/
def PD (μ : Mem) : Prop := ∃ n, n ≤ 60 ∧ μ 166 1 = nI n ∧ μ 168 8 = nI n ∧ ∀ k, k < n → μ 167 k = μ 176 k ∧ rg (μ 167 k) 33 126
/-- what holds between two calls -/
def InvX (ct : Nat) (μ : Mem) (S : Nat) (hl sl : Nat → Nat → Int32) : Prop := Snd μ 1 (μ 169) ∧ Wf 999999 (μ 169) ∧ S ≤ 6 ∧ HC ct μ S hl ∧ (μ 168 9 = nI S ∧ HMb (μ 172) S hl) ∧ (∀ j, j < S → Wf 999999 (hl j)) ∧ SL μ sl ∧ PD μ
def Inv (ct : Nat) (μ : Mem) : Prop := ∃ S hl sl, InvX ct μ S hl sl
theorem Inv.dn {ct : Nat} {μ : Mem} (h : Inv (ct + 1) μ) : Inv ct μ := by
  obtain ⟨S, hl, sl, a1, a2, a3, a4, a5⟩ := h
  exact ⟨S, hl, sl, a1, a2, a3, a4.dn, a5⟩
theorem SL.fr {μ μ' : Mem} {sl : Nat → Nat → Int32} (h : SL μ sl) (h1 : ∀ q, 133 ≤ q → q < 166 → μ' q = μ q) (h3 : μ' 173 = μ 173) (h4 : μ' 174 = μ 174) : SL μ' sl := by
  intro j hj
  obtain ⟨a, b, c⟩ := h j hj
  rw [h1 133 (by omega) (by omega), h4, h3]
  refine ⟨a, b, fun z => ?_⟩
  obtain ⟨c1, c2, c3⟩ := c z
  exact ⟨c1.fr (fun q q1 q2 => h1 q (by omega) (by omega)), c2, c3⟩
theorem PD.fr {μ μ' : Mem} (h : PD μ) (h1 : μ' 166 1 = μ 166 1) (h2 : μ' 167 = μ 167) (h3 : μ' 168 8 = μ 168 8) (h4 : μ' 176 = μ 176) : PD μ' := by
  obtain ⟨n, a, b, c, d⟩ := h
  exact ⟨n, a, by rw [h1]; exact b, by rw [h3]; exact c, by rw [h2, h4]; exact d⟩
/-- what a change by the reference leaves -/
def MF (μ1 μ2 : Mem) : Prop := (∀ q, q < 168 → μ2 q = μ1 q) ∧ μ2 173 = μ1 173 ∧ μ2 174 = μ1 174 ∧ μ2 176 = μ1 176 ∧ μ2 168 8 = μ1 168 8
theorem hL_wf {S : Nat} {hl : Nat → Nat → Int32} {σ : Nat → Int32} {n : Int} (hS6 : S ≤ 6) (h : ∀ j, j < S → Wf n (hl j)) (hσ : Wf n σ) : ∀ j, j < hS S → Wf n (hL S hl σ j) := by
  intro j hj
  unfold hL
  by_cases h1 : j + (S + 1 - hS S) = S
  · rw [if_pos h1]; exact hσ
  · rw [if_neg h1]
    apply h
    unfold hS at hj h1 ⊢
    by_cases h6 : S < 6
    · rw [if_pos h6] at hj h1 ⊢; omega
    · rw [if_neg h6] at hj h1 ⊢; omega
theorem hS_le (S : Nat) : hS S ≤ 6 := by
  unfold hS
  by_cases h6 : S < 6
  · rw [if_pos h6]; omega
  · rw [if_neg h6]; omega
/-- a change of both sides -/
theorem inv_chg {ct : Nat} {μ μ1 μ2 : Mem} {S : Nat} {hl sl : Nat → Nat → Int32} (h : InvX (ct + 1) μ S hl sl) (hC : Snd μ1 1 (μ2 169)) (hW : Wf 999999 (μ2 169)) (hH : HC ct μ1 (hS S) (hL S hl (μ 169))) (hF : Fr 1 131 μ μ1) (hM : MF μ1 μ2) (h9 : μ2 168 9 = nI (hS S)) (hB : HMb (μ2 172) (hS S) (hL S hl (μ 169))) : Inv ct μ2 := by
  obtain ⟨a1, a2, a3, a4, a5, a6, a7, a8⟩ := h
  obtain ⟨m1, m2, m3, m4, m5⟩ := hM
  refine ⟨hS S, hL S hl (μ 169), sl, hC.fr (fun q _ q2 => m1 q (by omega)), hW, hS_le S, hH.fr (fun q _ q2 => m1 q (by omega)), ⟨h9, hB⟩, hL_wf a3 a6 a2, a7.fr (fun q q1 q2 => ?_) ?_ ?_, a8.fr ?_ ?_ ?_ ?_⟩
  · rw [m1 q (by omega), hF q (by omega)]
  · rw [m2, hF _ (by omega)]
  · rw [m3, hF _ (by omega)]
  · rw [m1 _ (by omega), hF _ (by omega)]
  · rw [m1 _ (by omega), hF _ (by omega)]
  · rw [m5, hF _ (by omega)]
  · rw [m4, hF _ (by omega)]
/-- the rows that no one looks at -/
theorem inv_170 {ct : Nat} {μ : Mem} {r : Nat → Int32} (h : Inv ct μ) : Inv ct (um μ 170 r) := by
  obtain ⟨S, hl, sl, a1, a2, a3, a4, a5, a6, a7, a8⟩ := h
  refine ⟨S, hl, sl, ?_, ?_, a3, a4.fr (fun q _ q2 => um_n (by omega)), ?_, a6, a7.fr (fun q _ q2 => um_n (by omega)) (um_n (by omega)) (um_n (by omega)), a8.fr (by rw [um_n (by omega)]) (um_n (by omega)) (by rw [um_n (by omega)]) (um_n (by omega))⟩
  · rw [um_n (by omega : 169 ≠ 170)]
    exact a1.fr (fun q _ q2 => um_n (by omega))
  · rw [um_n (by omega : 169 ≠ 170)]
    exact a2
  · rw [um_n (by omega : 168 ≠ 170), um_n (by omega : 172 ≠ 170)]
    exact a5
