/-! turn, sweep, make -/
theorem msk_same {σ : Nat → Int32} (h : ∀ i, i < 4 → zb (wl σ i 4)) {μ : Mem} {K : Int32 → Mem → Prop} (hK : K ((((mskT σ 4 &&& 1) + ((mskT σ 4 >>> ((1 : Int32) &&& 31)) &&& 1)) + ((mskT σ 4 >>> ((2 : Int32) &&& 31)) &&& 1)) + (mskT σ 4 >>> ((3 : Int32) &&& 31))) μ) : x_J6_bitCount_0f7a4 (mskT σ 4) μ K := by
  have h0 := h 0 (by omega)
  have h1 := h 1 (by omega)
  have h2 := h 2 (by omega)
  have h3 := h 3 (by omega)
  unfold x_J6_bitCount_0f7a4
  rintro _ rfl _ rfl _ rfl _ rfl _ rfl
  refine Eq.mp (congrArg (fun z => K z μ) ?_) hK
  simp only [mskT]
  rcases h0 with e0 | e0 <;> rcases h1 with e1 | e1 <;> rcases h2 with e2 | e2 <;> rcases h3 with e3 | e3 <;> rw [e0, e1, e2, e3] <;> decide +kernel
theorem msk_nn {σ : Nat → Int32} (h : ∀ i, i < 4 → zb (wl σ i 4)) : ¬ ((((mskT σ 4 &&& 1) + ((mskT σ 4 >>> ((1 : Int32) &&& 31)) &&& 1)) + ((mskT σ 4 >>> ((2 : Int32) &&& 31)) &&& 1)) + (mskT σ 4 >>> ((3 : Int32) &&& 31))) < 0 := by
  have h0 := h 0 (by omega)
  have h1 := h 1 (by omega)
  have h2 := h 2 (by omega)
  have h3 := h 3 (by omega)
  simp only [mskT]
  rcases h0 with e0 | e0 <;> rcases h1 with e1 | e1 <;> rcases h2 with e2 | e2 <;> rcases h3 with e3 | e3 <;> rw [e0, e1, e2, e3] <;> decide +kernel
theorem zb_rg {x : Int32} (h : zb x) : rg x 0 1 := by
  rcases h with rfl | rfl
  · exact ⟨by simp, by simp⟩
  · exact ⟨by simp, by simp⟩
/-- a sweep is added behind m others -/
def addw (ω : Nat → Int32) (m : Nat) (e s : Int32) : Nat → Int32 := fun j => if j = 8 + 2 * m then e else if j = 9 + 2 * m then s else if j = 5 then nI (m + 1) else if j = 6 ∧ m = 0 then 0 else if j = 7 ∧ m = 0 then ω 1 else ω j
theorem addw_wf {ω : Nat → Int32} {m : Nat} {e s : Int32} (h : WfW ω) (hm : ω 5 = nI m) (hm4 : m < 4) (he : rg e 0 65535) (hs : rg s 1 999) : WfW (addw ω m e s) := by
  obtain ⟨h0, h1, h2, h3, h4, h5, hsw, hz, hgo⟩ := h
  have g : ∀ j, j < 5 → addw ω m e s j = ω j := fun j hj => by
    unfold addw
    rw [if_neg (by omega), if_neg (by omega), if_neg (by omega), if_neg (by omega), if_neg (by omega)]
  have g5 : addw ω m e s 5 = nI (m + 1) := by
    unfold addw
    rw [if_neg (by omega), if_neg (by omega), if_pos rfl]
  have gb : ∀ j, 8 ≤ j → j ≠ 8 + 2 * m → j ≠ 9 + 2 * m → addw ω m e s j = ω j := fun j hj j1 j2 => by
    unfold addw
    rw [if_neg j1, if_neg j2, if_neg (by omega), if_neg (by omega), if_neg (by omega)]
  have ge : addw ω m e s (8 + 2 * m) = e := if_pos rfl
  have gs : addw ω m e s (9 + 2 * m) = s := by
    unfold addw
    rw [if_neg (by omega), if_pos rfl]
  refine ⟨by rw [g 0 (by omega)]; exact h0, by rw [g 1 (by omega)]; exact h1, by rw [g 2 (by omega)]; exact h2, by rw [g 3 (by omega)]; exact h3, by rw [g 4 (by omega)]; exact h4, by rw [g5]; exact rg_of (by omega) (by omega) (by omega), fun k hk => ?_, fun hh => ?_, fun _ => ?_⟩
  · rw [g5, nI_toInt (by omega)] at hk
    by_cases hkm : k = m
    · subst hkm
      rw [ge, gs]
      exact ⟨he, hs⟩
    · rw [gb _ (by omega) (by omega) (by omega), gb _ (by omega) (by omega) (by omega)]
      exact hsw k (by rw [hm, nI_toInt (by omega)]; omega)
  · rw [g5] at hh
    exact absurd hh (nI_ne0 (by omega) (by omega))
  · by_cases hm0 : m = 0
    · subst hm0
      have g6 : addw ω 0 e s 6 = 0 := by simp [addw]
      have g7 : addw ω 0 e s 7 = ω 1 := by simp [addw]
      have g9 : addw ω 0 e s 9 = s := gs
      rw [g6, g7, g9]
      exact ⟨by simp, by have := hs.1; simp; omega, h1⟩
    · have g6 : addw ω m e s 6 = ω 6 := by
        unfold addw
        rw [if_neg (by omega), if_neg (by omega), if_neg (by omega), if_neg (by omega), if_neg (by omega)]
      have g7 : addw ω m e s 7 = ω 7 := by
        unfold addw
        rw [if_neg (by omega), if_neg (by omega), if_neg (by omega), if_neg (by omega), if_neg (by omega)]
      rw [g6, g7, gb 9 (by omega) (by omega) (by omega)]
      exact hgo (by rw [hm]; exact nI_ne0 (by omega) (by omega))
theorem q4_addSweep {c m : Nat} {e s : Int32} {μ : Mem} {K : Int32 → Mem → Prop} {ω : Nat → Int32} (hc : Whl μ c ω) (hm : ω 5 = nI m) (hm4 : m < 4) (hK : ∀ μ', Whl μ' c (addw ω m e s) → Fr c (c + 3) μ μ' → K 1 μ') : x_X4_addSweep c e s μ K := by
  obtain ⟨c0, c1, c2, c3, c4, c5, csw, cgo⟩ := hc
  rw [hm] at c5 csw
  have l28 : ∀ ρ : Nat → Int32, ρ 0 = ω 0 → ρ 1 = ω 1 → ρ 2 = ω 2 → ρ 3 = ω 3 → ρ 4 = ω 4 → ρ 5 = nI m → ρ 9 = addw ω m e s 6 → ρ 8 = addw ω m e s 7 → x_X4_addSweep_L28 K c e s (um μ c ρ) := by
    intro ρ r0 r1 r2 r3 r4 r5 r9 r8
    unfold x_X4_addSweep_L28
    rw [um_s, r5]
    refine ⟨vp_in_nI hm4 (by omega), ?_⟩
    rw [nI_clamp (by omega)]
    rintro _ rfl
    rw [um_n (by omega : c ≠ c + 1), um_s, r5]
    refine ⟨vp_in_nI hm4 (by omega), ?_⟩
    rw [nI_clamp (by omega)]
    rintro _ rfl _ rfl
    simp only [um_s, um_n (by omega : c ≠ c + 1), um_n (by omega : c ≠ c + 2), um_n (by omega : c + 1 ≠ c), um_n (by omega : c + 2 ≠ c + 1), um_n (by omega : c + 2 ≠ c)]
    rw [r5, nI_1]
    refine hK _ ?_ ((((Fr.rfl.um (by omega) (by omega)).um (by omega) (by omega)).um (by omega) (by omega)).um (by omega) (by omega))
    have g : ∀ j, j < 5 → addw ω m e s j = ω j := fun j hj => by
      unfold addw
      rw [if_neg (by omega), if_neg (by omega), if_neg (by omega), if_neg (by omega), if_neg (by omega)]
    have g5 : addw ω m e s 5 = nI (m + 1) := by
      unfold addw
      rw [if_neg (by omega), if_neg (by omega), if_pos rfl]
    unfold Whl
    simp only [um_s, um_n (by omega : c + 1 ≠ c), um_n (by omega : c + 2 ≠ c), um_n (by omega : c + 1 ≠ c + 2)]
    refine ⟨by rw [upd_n (by omega), r0, g 0 (by omega)], by rw [upd_n (by omega), r1, g 1 (by omega)], by rw [upd_n (by omega), r2, g 2 (by omega)], by rw [upd_n (by omega), r3, g 3 (by omega)], by rw [upd_n (by omega), r4, g 4 (by omega)], by rw [upd_s, g5], fun k hk => ?_, fun _ => ⟨by rw [upd_n (by omega), r9], by rw [upd_n (by omega), r8]⟩⟩
    rw [g5, nI_toInt (by omega)] at hk
    by_cases hkm : k = m
    · subst hkm
      rw [upd_s, upd_s]
      unfold addw
      rw [if_pos rfl, if_neg (by omega), if_pos rfl]
      exact ⟨rfl, rfl⟩
    · rw [upd_n hkm, upd_n hkm]
      have := csw k (by rw [nI_toInt (by omega)]; omega)
      rw [this.1, this.2]
      unfold addw
      rw [if_neg (by omega), if_neg (by omega), if_neg (by omega), if_neg (by omega), if_neg (by omega), if_neg (by omega), if_neg (by omega), if_neg (by omega), if_neg (by omega), if_neg (by omega)]
      exact ⟨rfl, rfl⟩
  unfold x_X4_addSweep
  rw [c5]
  refine ⟨fun h => absurd h (nI_nlt (a := m) (b := 0) (by omega) (by omega)), fun _ => ⟨fun _ => ⟨fun h0 => ?_, fun h0 => ?_⟩, fun h => absurd (nI_lt (a := m) (b := 4) hm4 (by omega)) h⟩⟩
  · have hm0 : m = 0 := (nI_eq (by omega) (by omega)).mp (show nI m = nI 0 from h0)
    unfold x_X4_beginSweep
    rintro _ rfl _ rfl
    rw [um_s, um_um]
    refine l28 _ ?_ ?_ ?_ ?_ ?_ ?_ ?_ ?_
    · rw [upd_n (by omega), upd_n (by omega), c0]
    · rw [upd_n (by omega), upd_n (by omega), c1]
    · rw [upd_n (by omega), upd_n (by omega), c2]
    · rw [upd_n (by omega), upd_n (by omega), c3]
    · rw [upd_n (by omega), upd_n (by omega), c4]
    · rw [upd_n (by omega), upd_n (by omega), c5]
    · rw [upd_s]
      simp [addw, hm0]
    · rw [upd_n (by omega), upd_s, c1]
      simp [addw, hm0]
  · have hm0 : m ≠ 0 := fun z => h0 (by rw [z]; rfl)
    obtain ⟨d1, d2⟩ := cgo (by rw [hm]; exact h0)
    have := l28 (μ c) c0 c1 c2 c3 c4 c5 (by
      rw [d1]
      unfold addw
      rw [if_neg (by omega), if_neg (by omega), if_neg (by omega), if_neg (by omega), if_neg (by omega)]) (by
      rw [d2]
      unfold addw
      rw [if_neg (by omega), if_neg (by omega), if_neg (by omega), if_neg (by omega), if_neg (by omega)])
    rw [um_self] at this
    exact this
