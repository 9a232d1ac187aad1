/-! a sample is made -/
def mkm (σ : Nat → Int32) : Int32 := if mix σ ≤ σ 0 then mix σ else σ 0
def ror (σ : Nat → Int32) : Nat := 134 + (σ 1).toNatClampNeg % 32
def mk1 (σ : Nat → Int32) : Nat → Int32 := fun i => if i = ror σ then mkm σ else if i = 1 then σ 1 + 1 else if i = 2 then σ 2 + (if mix σ ≤ σ 0 then 0 else 1) else if i = 3 then (σ 3 + mkm σ) - (σ 3 + mkm σ) / 1000003 * 1000003 else if i = 4 then σ 4 + (if σ 5 < 0 then 0 else if mkm σ ≤ σ 5 then 0 else 1) else if i = 5 then mkm σ else σ i
def goT (σ : Nat → Int32) : Nat → Nat → Int32
  | 0 => σ
  | i + 1 => if wl (goT σ i) i 4 = 1 then putw (goT σ i) i (gw (wl (goT σ i) i)) else goT σ i
def mks (σ : Nat → Int32) : Nat → Int32 := goT (mk1 σ) 4
theorem mkm_rg {n : Int} {σ : Nat → Int32} (hf : Wf n σ) : rg (mkm σ) 0 960 := by
  have h0 := hf.1
  have hm := mxT_rg hf 4 (by omega)
  unfold mkm
  by_cases h : mix σ ≤ σ 0
  · rw [if_pos h]
    have h1 := ii_le.mp h
    have h2 := h0.2
    exact ⟨hm.1, by omega⟩
  · rw [if_neg h]
    exact ⟨by have := h0.1; omega, h0.2⟩
theorem mk1_lo {σ : Nat → Int32} {i : Nat} (h : 5 < i) (h2 : i < 134) : mk1 σ i = σ i := by
  unfold mk1 ror
  rw [if_neg (by omega), if_neg (by omega), if_neg (by omega), if_neg (by omega), if_neg (by omega), if_neg (by omega)]
theorem mk1_0 {σ : Nat → Int32} : mk1 σ 0 = σ 0 := by
  unfold mk1 ror
  rw [if_neg (by omega), if_neg (by omega), if_neg (by omega), if_neg (by omega), if_neg (by omega), if_neg (by omega)]
theorem mk1_1 {σ : Nat → Int32} : mk1 σ 1 = σ 1 + 1 := by
  unfold mk1 ror
  rw [if_neg (by omega), if_pos rfl]
theorem mk1_2 {σ : Nat → Int32} : mk1 σ 2 = σ 2 + (if mix σ ≤ σ 0 then 0 else 1) := by
  unfold mk1 ror
  rw [if_neg (by omega), if_neg (by omega), if_pos rfl]
theorem mk1_3 {σ : Nat → Int32} : mk1 σ 3 = (σ 3 + mkm σ) - (σ 3 + mkm σ) / 1000003 * 1000003 := by
  unfold mk1 ror
  rw [if_neg (by omega), if_neg (by omega), if_neg (by omega), if_pos rfl]
theorem mk1_4 {σ : Nat → Int32} : mk1 σ 4 = σ 4 + (if σ 5 < 0 then 0 else if mkm σ ≤ σ 5 then 0 else 1) := by
  unfold mk1 ror
  rw [if_neg (by omega), if_neg (by omega), if_neg (by omega), if_neg (by omega), if_pos rfl]
theorem mk1_5 {σ : Nat → Int32} : mk1 σ 5 = mkm σ := by
  unfold mk1 ror
  rw [if_neg (by omega), if_neg (by omega), if_neg (by omega), if_neg (by omega), if_neg (by omega), if_pos rfl]
theorem mk1_wl {σ : Nat → Int32} {w j : Nat} (hw : w < 4) (hj : j < 16) : wl (mk1 σ) w j = wl σ w j := mk1_lo (by omega) (by omega)
theorem mk1_wf {n : Int} {σ : Nat → Int32} (hf : Wf n σ) (hn : n < 1073741824) : Wf (n + 1) (mk1 σ) := by
  have hm := mkm_rg hf
  obtain ⟨h0, h1, h2, h3, h4, h5, h6⟩ := hf
  obtain ⟨h11, h12⟩ := h1
  have e1 : (σ 1 + 1).toInt = (σ 1).toInt + 1 := by rw [ii_add] <;> simp <;> omega
  refine ⟨by rw [mk1_0]; exact h0, by rw [mk1_1]; exact ⟨by omega, by omega⟩, ?_, fun k hk => by rw [mk1_lo (by omega) (by omega)]; exact h3 k hk, fun w hw => (h4 w hw).congr (fun j hj => mk1_wl hw hj), fun h => ?_, fun _ => ?_⟩
  · rw [mk1_1, mk1_2, e1]
    by_cases hc : mix σ ≤ σ 0
    · rw [if_pos hc, Int32.add_zero]
      omega
    · rw [if_neg hc]
      have : (σ 2 + 1).toInt = (σ 2).toInt + 1 := by rw [ii_add] <;> simp <;> omega
      omega
  · exfalso
    rw [mk1_1] at h
    rw [h] at e1
    simp at e1
    omega
  · rw [mk1_5, mk1_1]
    refine ⟨hm, ?_⟩
    have e : (σ 1 + 1).toNatClampNeg - 1 = (σ 1).toNatClampNeg := by
      show (σ 1 + 1).toInt.toNat - 1 = (σ 1).toInt.toNat
      omega
    rw [e]
    show mkm σ = mk1 σ (ror σ)
    unfold mk1
    rw [if_pos rfl]
theorem goT_wf {n : Int} {σ : Nat → Int32} (hf : Wf n σ) : ∀ i, i ≤ 4 → Wf n (goT σ i)
  | 0, _ => hf
  | i + 1, hi => by
    have h := goT_wf hf i (by omega)
    unfold goT
    by_cases hc : wl (goT σ i) i 4 = 1
    · rw [if_pos hc]
      exact h.putw (by omega) (gw_wf (h.2.2.2.2.1 i (by omega)))
    · rw [if_neg hc]
      exact h
theorem mks_wf {n : Int} {σ : Nat → Int32} (hf : Wf n σ) (hn : n < 1073741824) : Wf (n + 1) (mks σ) := goT_wf (mk1_wf hf hn) 4 (by omega)
theorem goT_lo {σ : Nat → Int32} {j : Nat} (h : j < 70) : ∀ i, goT σ i j = σ j
  | 0 => rfl
  | i + 1 => by
    unfold goT
    by_cases hc : wl (goT σ i) i 4 = 1
    · rw [if_pos hc, putw_lo h]; exact goT_lo h i
    · rw [if_neg hc]; exact goT_lo h i
theorem goT_hi {σ : Nat → Int32} {j : Nat} (h : 134 ≤ j) : ∀ i, i ≤ 4 → goT σ i j = σ j
  | 0, _ => rfl
  | i + 1, hi => by
    unfold goT
    by_cases hc : wl (goT σ i) i 4 = 1
    · rw [if_pos hc, putw_hi (by omega) h]; exact goT_hi h i (by omega)
    · rw [if_neg hc]; exact goT_hi h i (by omega)
