/-! a sample is made -/
def mkm (σ : Nat → Int32) : Int32 := if mix σ ≤ σ 0 then mix σ else σ 0
def ror (σ : Nat → Int32) : Nat := 134 + (σ 1).toNatClampNeg % 32
def mk1 (σ : Nat → Int32) : Nat → Int32 := fun i => if i = ror σ then mkm σ else if i = 1 then σ 1 + 1 else if i = 2 then σ 2 + (if mix σ ≤ σ 0 then 0 else 1) else if i = 3 then (σ 3 + mkm σ) - (σ 3 + mkm σ) / 1000003 * 1000003 else if i = 4 then σ 4 + (if σ 5 < 0 then 0 else if mkm σ ≤ σ 5 then 0 else 1) else if i = 5 then mkm σ else σ i
def goT (σ : Nat → Int32) : Nat → Nat → Int32
  | 0 => σ
  | i + 1 => if wl (goT σ i) i 4 = 1 then putw (goT σ i) i (gw (wl (goT σ i) i)) else goT σ i
def mks (σ : Nat → Int32) : Nat → Int32 := goT (mk1 σ) 4
theorem mkm_rg {n : Int} {σ : Nat → Int32} (hf : Wf n σ) : rg (mkm σ) 0 960 := by
  have h0 := hf.1
  have hm := mxT_rg hf 4 (by omega)
  unfold mkm
  by_cases h : mix σ ≤ σ 0
  · rw [if_pos h]
    have h1 := ii_le.mp h
    have h2 := h0.2
    exact ⟨hm.1, by omega⟩
  · rw [if_neg h]
    exact ⟨by have := h0.1; omega, h0.2⟩
theorem mk1_lo {σ : Nat → Int32} {i : Nat} (h : 5 < i) (h2 : i < 134) : mk1 σ i = σ i := by
  unfold mk1 ror
  rw [if_neg (by omega), if_neg (by omega), if_neg (by omega), if_neg (by omega), if_neg (by omega), if_neg (by omega)]
theorem mk1_0 {σ : Nat → Int32} : mk1 σ 0 = σ 0 := by
  unfold mk1 ror
  rw [if_neg (by omega), if_neg (by omega), if_neg (by omega), if_neg (by omega), if_neg (by omega), if_neg (by omega)]
theorem mk1_1 {σ : Nat → Int32} : mk1 σ 1 = σ 1 + 1 := by
  unfold mk1 ror
  rw [if_neg (by omega), if_pos rfl]
theorem mk1_2 {σ : Nat → Int32} : mk1 σ 2 = σ 2 + (if mix σ ≤ σ 0 then 0 else 1) := by
  unfold mk1 ror
  rw [if_neg (by omega), if_neg (by omega), if_pos rfl]
theorem mk1_3 {σ : Nat → Int32} : mk1 σ 3 = (σ 3 + mkm σ) - (σ 3 + mkm σ) / 1000003 * 1000003 := by
  unfold mk1 ror
  rw [if_neg (by omega), if_neg (by omega), if_neg (by omega), if_pos rfl]
theorem mk1_4 {σ : Nat → Int32} : mk1 σ 4 = σ 4 + (if σ 5 < 0 then 0 else if mkm σ ≤ σ 5 then 0 else 1) := by
  unfold mk1 ror
  rw [if_neg (by omega), if_neg (by omega), if_neg (by omega), if_neg (by omega), if_pos rfl]
theorem mk1_5 {σ : Nat → Int32} : mk1 σ 5 = mkm σ := by
  unfold mk1 ror
  rw [if_neg (by omega), if_neg (by omega), if_neg (by omega), if_neg (by omega), if_neg (by omega), if_pos rfl]
theorem mk1_wl {σ : Nat → Int32} {w j : Nat} (hw : w < 4) (hj : j < 16) : wl (mk1 σ) w j = wl σ w j := mk1_lo (by omega) (by omega)
theorem mk1_wf {n : Int} {σ : Nat → Int32} (hf : Wf n σ) (hn : n < 1073741824) : Wf (n + 1) (mk1 σ) := by
  have hm := mkm_rg hf
  obtain ⟨h0, h1, h2, h3, h4, h5, h6⟩ := hf
  obtain ⟨h11, h12⟩ := h1
  have e1 : (σ 1 + 1).toInt = (σ 1).toInt + 1 := by rw [ii_add] <;> simp <;> omega
  refine ⟨by rw [mk1_0]; exact h0, by rw [mk1_1]; exact ⟨by omega, by omega⟩, ?_, fun k hk => by rw [mk1_lo (by omega) (by omega)]; exact h3 k hk, fun w hw => (h4 w hw).congr (fun j hj => mk1_wl hw hj), fun h => ?_, fun _ => ?_⟩
  · rw [mk1_1, mk1_2, e1]
    by_cases hc : mix σ ≤ σ 0
    · rw [if_pos hc, Int32.add_zero]
      omega
    · rw [if_neg hc]
      have : (σ 2 + 1).toInt = (σ 2).toInt + 1 := by rw [ii_add] <;> simp <;> omega
      omega
  · exfalso
    rw [mk1_1] at h
    rw [h] at e1
    simp at e1
    omega
  · rw [mk1_5, mk1_1]
    refine ⟨hm, ?_⟩
    have e : (σ 1 + 1).toNatClampNeg - 1 = (σ 1).toNatClampNeg := by
      show (σ 1 + 1).toInt.toNat - 1 = (σ 1).toInt.toNat
      omega
    rw [e]
    show mkm σ = mk1 σ (ror σ)
    unfold mk1
    rw [if_pos rfl]
theorem goT_wf {n : Int} {σ : Nat → Int32} (hf : Wf n σ) : ∀ i, i ≤ 4 → Wf n (goT σ i)
  | 0, _ => hf
  | i + 1, hi => by
    have h := goT_wf hf i (by omega)
    unfold goT
    by_cases hc : wl (goT σ i) i 4 = 1
    · rw [if_pos hc]
      exact h.putw (by omega) (gw_wf (h.2.2.2.2.1 i (by omega)))
    · rw [if_neg hc]
      exact h
theorem mks_wf {n : Int} {σ : Nat → Int32} (hf : Wf n σ) (hn : n < 1073741824) : Wf (n + 1) (mks σ) := goT_wf (mk1_wf hf hn) 4 (by omega)
theorem goT_lo {σ : Nat → Int32} {j : Nat} (h : j < 70) : ∀ i, goT σ i j = σ j
  | 0 => rfl
  | i + 1 => by
    unfold goT
    by_cases hc : wl (goT σ i) i 4 = 1
    · rw [if_pos hc, putw_lo h]; exact goT_lo h i
    · rw [if_neg hc]; exact goT_lo h i
theorem goT_hi {σ : Nat → Int32} {j : Nat} (h : 134 ≤ j) : ∀ i, i ≤ 4 → goT σ i j = σ j
  | 0, _ => rfl
  | i + 1, hi => by
    unfold goT
    by_cases hc : wl (goT σ i) i 4 = 1
    · rw [if_pos hc, putw_hi (by omega) h]; exact goT_hi h i (by omega)
    · rw [if_neg hc]; exact goT_hi h i (by omega)
theorem q6_makes {n : Int} {μ : Mem} {K : Int32 → Mem → Prop} (hf : Wf n (μ 169)) (hn : n < 1073741824) (hK : K (mkm (μ 169)) (um μ 169 (mks (μ 169)))) : x_X6_makes μ K := by
  obtain ⟨σ, hσ⟩ : ∃ σ, σ = μ 169 := ⟨_, rfl⟩
  have hw1 := mk1_wf hf hn
  rw [← hσ] at hK hf hw1
  have loop : ∀ (k i : Nat), i + k = 4 → x_X6_makes_L138 K (k + 1) (mkm σ) (nI i) (um μ 169 (goT (mk1 σ) i)) := by
    intro k
    induction k with
    | zero =>
      intro i hi
      obtain rfl : i = 4 := by omega
      show xb_X6_makes_L138 _ _ _ _ _
      unfold xb_X6_makes_L138
      exact ⟨fun _ => hK, fun h => absurd (nI_le (a := 4) (b := 4) (by omega) (by omega)) h⟩
    | succ k ih =>
      intro i hi
      have hi4 : i < 4 := by omega
      have hwi := goT_wf hw1 i (by omega)
      have hnx := ih (i + 1) (by omega)
      unfold goT at hnx
      rw [nI_succ] at hnx
      show xb_X6_makes_L138 _ _ _ _ _
      unfold xb_X6_makes_L138
      refine ⟨fun h => absurd h (nI_ge (a := i) (b := 4) (by omega) (by omega)), fun _ => ?_⟩
      apply q6_w
      simp (disch := omega) only [n_4, nI_add, nI_clamp, vp_nI, true_and, um_s]
      refine ⟨fun h => ?_, fun h => ?_⟩
      · rw [if_pos (show wl (goT (mk1 σ) i) i 4 = 1 from h)] at hnx
        apply q6_goesOn hi4
        · rw [um_s]
          exact hwi.2.2.2.2.1 i hi4
        · rw [um_s, um_um]
          unfold x_X6_makes_L163
          rintro _ rfl
          exact hnx
      · rw [if_neg (show ¬ wl (goT (mk1 σ) i) i 4 = 1 from h)] at hnx
        unfold x_X6_makes_L163
        rintro _ rfl
        exact hnx
  obtain ⟨h0, h1, h2, h3, h4, h5, h6⟩ := hf
  obtain ⟨m, hm⟩ : ∃ m : Nat, σ 1 = nI m ∧ m < 2 ^ 30 := by
    refine ⟨(σ 1).toNatClampNeg, (nI_tn h1.1).symm, ?_⟩
    have := h1.2
    show (σ 1).toInt.toNat < 2 ^ 30
    omega
  obtain ⟨hm, hmb⟩ := hm
  have hror : ror σ = 134 + m % 32 := by unfold ror; rw [hm, nI_clamp (by omega)]
  have l98 : ∀ ρ : Nat → Int32, ∀ a0 a1 : Int32, (∀ i, i ≠ 2 → i ≠ 3 → ρ i = σ i) → ρ 2 = mk1 σ 2 → ρ 3 = mk1 σ 3 → a1 + a0 = mk1 σ 4 → x_X6_makes_L98 K (mkm σ) a0 a1 4 (um μ 169 ρ) := by
    intro ρ a0 a1 g g2 g3 g4
    unfold x_X6_makes_L98
    refine ⟨by rw [n_4]; exact vp_in_nI (by omega) (by omega), ?_⟩
    rintro _ rfl _ rfl
    simp only [um_s, um_um]
    have e1 : upd (upd ρ (4 : Int32).toNatClampNeg (a1 + a0)) 5 (mkm σ) 1 = nI m := by
      rw [n_4, nI_clamp (by omega), upd_n (by omega), upd_n (by omega), g 1 (by omega) (by omega), hm]
    rw [e1, n_32, pk_rem (a := m) (d := 32) (by omega) (by omega) (by omega), n_134, nI_add]
    have hlt : m % 32 < 32 := Nat.mod_lt _ (by omega)
    refine ⟨vp_in_nI (by omega) (by omega), ?_⟩
    rintro _ rfl _ rfl
    simp only [um_s, um_um]
    refine ⟨5, ?_⟩
    have := loop 4 0 (by omega)
    unfold goT at this
    refine Eq.mp (congrArg (fun r => x_X6_makes_L138 K 5 (mkm σ) (nI 0) (um μ 169 r)) ?_) this
    funext i
    rw [n_4, nI_clamp (by omega), nI_clamp (by omega)]
    have hr : mk1 σ (134 + m % 32) = mkm σ := by rw [← hror]; unfold mk1; rw [if_pos rfl]
    by_cases i1 : i = 1
    · subst i1
      rw [upd_s, mk1_1, upd_n (by omega), upd_n (by omega), upd_n (by omega), g 1 (by omega) (by omega)]
    rw [upd_n i1]
    by_cases ir : i = 134 + m % 32
    · subst ir
      rw [upd_s, hr]
    rw [upd_n ir]
    by_cases i5 : i = 5
    · subst i5
      rw [upd_s, mk1_5]
    rw [upd_n i5]
    by_cases i4 : i = 4
    · subst i4
      rw [upd_s, g4]
    rw [upd_n i4]
    by_cases i2 : i = 2
    · subst i2
      rw [g2]
    by_cases i3 : i = 3
    · subst i3
      rw [g3]
    rw [g i i2 i3]
    unfold mk1
    rw [hror, if_neg ir, if_neg i1, if_neg i2, if_neg i3, if_neg i4, if_neg i5]
  have l48 : ∀ a0 : Int32, σ 2 + a0 = mk1 σ 2 → x_X6_makes_L48 K (mkm σ) a0 (σ 2) 2 μ := by
    intro a0 g2
    unfold x_X6_makes_L48
    refine ⟨by rw [n_2]; exact vp_in_nI (by omega) (by omega), ?_⟩
    rintro _ rfl _ rfl
    simp only [um_s, um_um, ← hσ]
    rw [n_2, nI_clamp (by omega)]
    have e3 : upd σ 2 (σ 2 + a0) 3 = σ 3 := upd_n (by omega)
    rw [e3]
    have e5 : upd (upd σ 2 (σ 2 + a0)) 3 (σ 3 + mkm σ - (σ 3 + mkm σ) / 1000003 * 1000003) 5 = σ 5 := by rw [upd_n (by omega), upd_n (by omega)]
    have e4 : upd (upd σ 2 (σ 2 + a0)) 3 (σ 3 + mkm σ - (σ 3 + mkm σ) / 1000003 * 1000003) 4 = σ 4 := by rw [upd_n (by omega), upd_n (by omega)]
    rw [e5, e4]
    have gi : ∀ i, i ≠ 2 → i ≠ 3 → upd (upd σ 2 (σ 2 + a0)) 3 (σ 3 + mkm σ - (σ 3 + mkm σ) / 1000003 * 1000003) i = σ i := fun i i2 i3 => by rw [upd_n i3, upd_n i2]
    have gg2 : upd (upd σ 2 (σ 2 + a0)) 3 (σ 3 + mkm σ - (σ 3 + mkm σ) / 1000003 * 1000003) 2 = mk1 σ 2 := by rw [upd_n (by omega), upd_s, g2]
    have gg3 : upd (upd σ 2 (σ 2 + a0)) 3 (σ 3 + mkm σ - (σ 3 + mkm σ) / 1000003 * 1000003) 3 = mk1 σ 3 := by rw [upd_s, mk1_3]
    refine ⟨fun h => ?_, fun h => ⟨fun g => ?_, fun g => ?_⟩⟩
    · unfold x_X6_makes_L97
      exact l98 _ _ _ gi gg2 gg3 (by rw [mk1_4, if_pos h])
    · unfold x_X6_makes_L97
      exact l98 _ _ _ gi gg2 gg3 (by rw [mk1_4, if_neg h, if_pos g])
    · exact l98 _ _ _ gi gg2 gg3 (by rw [mk1_4, if_neg h, if_neg g])
  unfold x_X6_makes
  apply q6_mix (n := n)
  · rw [← hσ]; exact ⟨h0, h1, h2, h3, h4, h5, h6⟩
  · rw [← hσ]
    have l25 : x_X6_makes_L25 K (mix σ) (mkm σ) μ := by
      unfold x_X6_makes_L25
      rw [← hσ]
      exact ⟨fun h => l48 0 (by rw [mk1_2, if_pos h]), fun h => l48 1 (by rw [mk1_2, if_neg h])⟩
    refine ⟨fun h => ?_, fun h => ?_⟩
    · have e : mkm σ = mix σ := if_pos h
      rw [e] at l25
      exact l25
    · have e : mkm σ = σ 0 := if_neg h
      rw [e] at l25
      exact l25
