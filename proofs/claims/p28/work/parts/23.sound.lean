/-! the whole sound: the class's object (16 cells from o on) and the reference's row -/
def Snd (μ : Mem) (o : Nat) (σ : Nat → Int32) : Prop := μ o 0 = σ 0 ∧ μ o 3 = σ 1 ∧ μ o 4 = σ 2 ∧ μ o 5 = σ 3 ∧ μ o 6 = σ 4 ∧ (∀ k, k < 64 → μ (o + 1) k = σ (6 + k)) ∧ (∀ k, k < 32 → μ (o + 3) k = σ (134 + k)) ∧ ∀ w, w < 4 → Whl μ (o + 4 + 3 * w) (wl σ w)
theorem Snd.fr {μ μ' : Mem} {o : Nat} {σ : Nat → Int32} (h : Snd μ o σ) (hq : ∀ q, o ≤ q → q < o + 16 → μ' q = μ q) : Snd μ' o σ := by
  obtain ⟨h0, h1, h2, h3, h4, h5, h6, h7⟩ := h
  refine ⟨by rw [hq o (by omega) (by omega)]; exact h0, by rw [hq o (by omega) (by omega)]; exact h1, by rw [hq o (by omega) (by omega)]; exact h2, by rw [hq o (by omega) (by omega)]; exact h3, by rw [hq o (by omega) (by omega)]; exact h4, fun k hk => ?_, fun k hk => ?_, fun w hw => ?_⟩
  · rw [hq (o + 1) (by omega) (by omega)]; exact h5 k hk
  · rw [hq (o + 3) (by omega) (by omega)]; exact h6 k hk
  · exact (h7 w hw).fr (hq _ (by omega) (by omega)) (hq _ (by omega) (by omega)) (hq _ (by omega) (by omega))
theorem Snd.off {μ μ' : Mem} {o a b : Nat} {σ : Nat → Int32} (h : Snd μ o σ) (hf : Fr a b μ μ') (hq : o + 16 ≤ a ∨ b ≤ o) : Snd μ' o σ := h.fr (fun q h1 h2 => hf q (by omega))
def Wf (n : Int) (σ : Nat → Int32) : Prop := rg (σ 0) 1 960 ∧ rg (σ 1) 0 n ∧ (0 ≤ (σ 2).toInt ∧ (σ 2).toInt ≤ (σ 1).toInt) ∧ (∀ k, k < 64 → rg (σ (6 + k)) 0 15) ∧ (∀ w, w < 4 → WfW (wl σ w)) ∧ (σ 1 = 0 → σ 5 = -1) ∧ (¬ σ 1 = 0 → rg (σ 5) 0 960 ∧ σ 5 = σ (134 + ((σ 1).toNatClampNeg - 1) % 32))
theorem Wf.mono {n m : Int} {σ : Nat → Int32} (h : Wf n σ) (hn : n ≤ m) : Wf m σ := ⟨h.1, ⟨h.2.1.1, Int.le_trans h.2.1.2 hn⟩, h.2.2⟩
theorem Whl.congr {μ : Mem} {c : Nat} {ω ω' : Nat → Int32} (h : Whl μ c ω) (h5 : rg (ω 5) 0 4) (he : ∀ j, j < 16 → ω' j = ω j) : Whl μ c ω' := by
  obtain ⟨c0, c1, c2, c3, c4, c5, csw, cgo⟩ := h
  have := h5.2
  refine ⟨by rw [he 0 (by omega)]; exact c0, by rw [he 1 (by omega)]; exact c1, by rw [he 2 (by omega)]; exact c2, by rw [he 3 (by omega)]; exact c3, by rw [he 4 (by omega)]; exact c4, by rw [he 5 (by omega)]; exact c5, fun k hk => ?_, fun h => ?_⟩
  · rw [he 5 (by omega)] at hk
    rw [he _ (by omega), he _ (by omega)]
    exact csw k hk
  · rw [he 5 (by omega)] at h
    rw [he 6 (by omega), he 7 (by omega)]
    exact cgo h
theorem WfW.congr {ω ω' : Nat → Int32} (h : WfW ω) (he : ∀ j, j < 16 → ω' j = ω j) : WfW ω' := by
  obtain ⟨h0, h1, h2, h3, h4, h5, hsw, hz, hgo⟩ := h
  have := h5.2
  refine ⟨by rw [he 0 (by omega)]; exact h0, by rw [he 1 (by omega)]; exact h1, by rw [he 2 (by omega)]; exact h2, by rw [he 3 (by omega)]; exact h3, by rw [he 4 (by omega)]; exact h4, by rw [he 5 (by omega)]; exact h5, fun k hk => ?_, fun h => ?_, fun h => ?_⟩
  · rw [he 5 (by omega)] at hk
    rw [he _ (by omega), he _ (by omega)]
    exact hsw k hk
  · rw [he 5 (by omega)] at h
    rw [he 6 (by omega)]
    exact hz h
  · rw [he 5 (by omega)] at h
    rw [he 6 (by omega), he 7 (by omega), he 9 (by omega)]
    exact hgo h
theorem wl_putw {σ ω : Nat → Int32} {w w' j : Nat} (hj : j < 16) : wl (putw σ w ω) w' j = if w' = w then ω j else wl σ w' j := by
  unfold wl putw
  by_cases h : w' = w
  · subst h
    rw [if_pos (by omega), if_pos rfl]
    congr 1
    omega
  · rw [if_neg (by omega), if_neg h]
theorem putw_lo {σ ω : Nat → Int32} {w i : Nat} (h : i < 70) : putw σ w ω i = σ i := by
  unfold putw
  rw [if_neg (by omega)]
theorem putw_hi {σ ω : Nat → Int32} {w i : Nat} (hw : w < 4) (h : 134 ≤ i) : putw σ w ω i = σ i := by
  unfold putw
  rw [if_neg (by omega)]
theorem Wf.putw {n : Int} {σ ω : Nat → Int32} {w : Nat} (h : Wf n σ) (hw : w < 4) (hω : WfW ω) : Wf n (putw σ w ω) := by
  obtain ⟨h0, h1, h2, h3, h4, h5, h6⟩ := h
  unfold Wf
  rw [putw_lo (by omega), putw_lo (by omega), putw_lo (by omega), putw_lo (by omega)]
  refine ⟨h0, h1, h2, fun k hk => ?_, fun w' hw' => ?_, h5, fun h => ?_⟩
  · rw [putw_lo (by omega)]; exact h3 k hk
  · by_cases hh : w' = w
    · subst hh
      exact hω.congr (fun j hj => by rw [wl_putw hj, if_pos rfl])
    · exact (h4 w' hw').congr (fun j hj => by rw [wl_putw hj, if_neg hh])
  · rw [putw_hi hw (by omega)]
    exact h6 h
theorem Snd.putw {μ μ' : Mem} {o w : Nat} {σ ω : Nat → Int32} {n : Int} (h : Snd μ o σ) (hf : Wf n σ) (hw : w < 4) (h5 : rg (ω 5) 0 4) (hc : Whl μ' (o + 4 + 3 * w) ω) (hfr : Fr (o + 4 + 3 * w) (o + 4 + 3 * w + 3) μ μ') : Snd μ' o (putw σ w ω) := by
  obtain ⟨h0, h1, h2, h3, h4, h6, h7, h8⟩ := h
  unfold Snd
  rw [putw_lo (by omega), putw_lo (by omega), putw_lo (by omega), putw_lo (by omega), putw_lo (by omega), hfr o (by omega), hfr (o + 1) (by omega), hfr (o + 3) (by omega)]
  refine ⟨h0, h1, h2, h3, h4, fun k hk => ?_, fun k hk => ?_, fun w' hw' => ?_⟩
  · rw [putw_lo (by omega)]; exact h6 k hk
  · rw [putw_hi hw (by omega)]; exact h7 k hk
  · by_cases hh : w' = w
    · subst hh
      exact hc.congr h5 (fun j hj => by rw [wl_putw hj, if_pos rfl])
    · refine ((h8 w' hw').congr (hf.2.2.2.2.1 w' hw').2.2.2.2.2.1 (ω' := wl (Jvm.Pilot.@@N@@.putw σ w ω) w') (fun j hj => by rw [wl_putw hj, if_neg hh])).fr (hfr _ (by omega)) (hfr _ (by omega)) (hfr _ (by omega))
theorem nI_xor (a b : Nat) : nI a ^^^ nI b = nI (a ^^^ b) := by
  apply Int32.toBitVec_inj.mp
  show BitVec.ofNat 32 a ^^^ BitVec.ofNat 32 b = BitVec.ofNat 32 (a ^^^ b)
  apply BitVec.eq_of_getLsbD_eq
  intro i hi
  simp [BitVec.getLsbD_ofNat, hi]
theorem qJ_fm {a : Nat} (ha : a < 2 ^ 31) {μ : Mem} {K : Int32 → Mem → Prop} (hK : K (nI (a % 32)) μ) : x_J9_floorMod_7cf53 (nI a) 32 μ K := by
  unfold x_J9_floorMod_7cf53
  refine ⟨by decide, ?_⟩
  rintro _ rfl
  refine ⟨fun _ => ?_, fun h => absurd ?_ h⟩
  · rw [n_32, pk_rem (a := a) (d := 32) ha (by omega) (by omega)]
    exact hK
  · rw [n_32, nI_xor]
    exact nI_pos' (Nat.xor_lt_two_pow ha (by omega))
theorem q3_ago {o m g : Nat} {μ : Mem} {σ : Nat → Int32} {K : Int32 → Mem → Prop} (hs : Snd μ o σ) (hm : σ 1 = nI m) (hm2 : m < 2 ^ 30) (hg : g < m) (hK : K (σ (134 + (m - 1 - g) % 32)) μ) : x_X3_mixtureAgo o (nI g) μ K := by
  obtain ⟨h0, h1, h2, h3, h4, h6, h7, h8⟩ := hs
  unfold x_X3_mixtureAgo
  rw [h1, hm, n_1, pk_sub (by omega), pk_sub (by omega)]
  apply qJ_fm (by omega)
  have : (m - 1 - g) % 32 < 32 := Nat.mod_lt _ (by omega)
  refine ⟨vp_in_nI this (by omega), ?_⟩
  rw [nI_clamp (by omega), h7 _ this]
  exact hK
def mxT (σ : Nat → Int32) : Nat → Int32
  | 0 => 0
  | i + 1 => mxT σ i + (if wl σ i 4 = 1 then gv σ i else 0)
def mix (σ : Nat → Int32) : Int32 := mxT σ 4
theorem gv_rg {n : Int} {σ : Nat → Int32} {w : Nat} (hf : Wf n σ) (hw : w < 4) : rg (gv σ w) 0 240 := by
  obtain ⟨-, -, -, h3, h4, -⟩ := hf
  obtain ⟨g0, -, g2, g3, -⟩ := h4 w hw
  obtain ⟨f, hf, ef⟩ := rg_nI (n := 65535) g0
  obtain ⟨t, ht, et⟩ := rg_nI (n := 3) g2
  obtain ⟨v, hv, ev⟩ := rg_nI (n := 16) g3
  unfold gv
  rw [ef, et, ev, nI_clamp (by omega), nI_clamp (by omega)]
  have := h3 (16 * t + f / 4096) (by omega)
  rw [show 6 + (16 * t + f / 4096) = 6 + 16 * t + f / 4096 by omega] at this
  obtain ⟨x, hx, ex⟩ := rg_nI (n := 15) this
  rw [ex, pk_mul]
  have hb : x * v ≤ 15 * 16 := Nat.mul_le_mul hx hv
  exact rg_of (by omega) (by omega) (by omega)
theorem mxT_rg {n : Int} {σ : Nat → Int32} (hf : Wf n σ) : ∀ i, i ≤ 4 → rg (mxT σ i) 0 (240 * i)
  | 0, _ => ⟨by show (0 : Int) ≤ (0 : Int32).toInt; simp, by show (0 : Int32).toInt ≤ _; simp⟩
  | i + 1, hi => by
    obtain ⟨a1, a2⟩ := mxT_rg hf i (by omega)
    unfold mxT
    by_cases h : wl σ i 4 = 1
    · rw [if_pos h]
      obtain ⟨b1, b2⟩ := gv_rg hf (w := i) (by omega)
      have e : (mxT σ i + gv σ i).toInt = (mxT σ i).toInt + (gv σ i).toInt := ii_add (by omega) (by omega)
      exact ⟨by rw [e]; omega, by rw [e]; omega⟩
    · rw [if_neg h, Int32.add_zero]
      exact ⟨a1, by omega⟩
theorem q3_value {o w : Nat} {n : Int} {μ : Mem} {σ : Nat → Int32} {K : Int32 → Mem → Prop} (hw : w < 4) (hs : Snd μ o σ) (hf : Wf n σ) (hK : K (gv σ w) μ) : x_X3_valueGivenBy o (o + 4 + 3 * w) μ K := by
  obtain ⟨-, -, -, -, -, h6, -, h8⟩ := hs
  obtain ⟨c0, -, c2, c3, -⟩ := h8 w hw
  obtain ⟨g0, -, g2, -⟩ := hf.2.2.2.2.1 w hw
  obtain ⟨f, hf, ef⟩ := rg_nI (n := 65535) g0
  obtain ⟨t, ht, et⟩ := rg_nI (n := 3) g2
  unfold gv at hK
  rw [ef, et, nI_clamp (by omega), nI_clamp (by omega)] at hK
  unfold x_X3_valueGivenBy
  rintro _ rfl
  rw [c0, c2, c3, ef, et, n_0, n_16, n_64, n_4096]
  simp (disch := omega) only [pk_mul, pk_div, nI_add, nI_clamp, vp_nI, true_and]
  refine ⟨fun h => absurd h (nI_nlt (by omega) (by omega)), fun _ => ⟨fun h => absurd h (nI_ge (by omega) (by omega)), fun _ => ?_⟩⟩
  rw [h6 _ (by omega), show 6 + (t * 16 + f / 4096) = 6 + 16 * t + f / 4096 by omega]
  exact hK
theorem q3_sum {o : Nat} {n : Int} {μ : Mem} {σ : Nat → Int32} {K : Int32 → Mem → Prop} (hs : Snd μ o σ) (hf : Wf n σ) (hK : K (mix σ) μ) : x_X3_sumOfOn o μ K := by
  have key : ∀ (k i : Nat), i + k = 4 → x_X3_sumOfOn_L4 K (k + 1) o (mxT σ i) (nI i) μ := by
    intro k
    induction k with
    | zero =>
      intro i hi
      obtain rfl : i = 4 := by omega
      show xb_X3_sumOfOn_L4 _ _ _ _ _ _
      unfold xb_X3_sumOfOn_L4
      exact ⟨fun _ => hK, fun h => absurd (nI_le (a := 4) (b := 4) (by omega) (by omega)) h⟩
    | succ k ih =>
      intro i hi
      have hi4 : i < 4 := by omega
      have hz := (hf.2.2.2.2.1 i hi4).2.2.2.2.1
      have hc := (hs.2.2.2.2.2.2.2 i hi4).2.2.2.2.1
      show xb_X3_sumOfOn_L4 _ _ _ _ _ _
      unfold xb_X3_sumOfOn_L4
      refine ⟨fun h => absurd h (nI_ge (a := i) (b := 4) (by omega) (by omega)), fun _ => ?_⟩
      have := ih (i + 1) (by omega)
      unfold mxT at this
      rw [nI_succ] at this
      simp (disch := omega) only [nI_clamp, vp_nI, true_and, hc]
      refine ⟨fun h => ?_, fun h => ?_⟩
      · unfold x_X3_sumOfOn_L34
        rintro _ rfl
        rw [if_neg (by rw [h]; decide), Int32.add_zero] at this
        exact this
      · apply q3_value hi4 hs hf
        rintro _ rfl
        unfold x_X3_sumOfOn_L34
        rintro _ rfl
        rw [if_pos (hz.resolve_left h)] at this
        exact this
  unfold x_X3_sumOfOn
  exact ⟨5, key 4 0 (by omega)⟩
