/-! turn, sweep, make -/
theorem msk_same {σ : Nat → Int32} (h : ∀ i, i < 4 → zb (wl σ i 4)) {μ : Mem} {K : Int32 → Mem → Prop} (hK : K ((((mskT σ 4 &&& 1) + ((mskT σ 4 >>> ((1 : Int32) &&& 31)) &&& 1)) + ((mskT σ 4 >>> ((2 : Int32) &&& 31)) &&& 1)) + (mskT σ 4 >>> ((3 : Int32) &&& 31))) μ) : x_J6_bitCount_0f7a4 (mskT σ 4) μ K := by
  have h0 := h 0 (by omega)
  have h1 := h 1 (by omega)
  have h2 := h 2 (by omega)
  have h3 := h 3 (by omega)
  unfold x_J6_bitCount_0f7a4
  rintro _ rfl _ rfl _ rfl _ rfl _ rfl
  refine Eq.mp (congrArg (fun z => K z μ) ?_) hK
  simp only [mskT]
  rcases h0 with e0 | e0 <;> rcases h1 with e1 | e1 <;> rcases h2 with e2 | e2 <;> rcases h3 with e3 | e3 <;> rw [e0, e1, e2, e3] <;> decide +kernel
theorem msk_nn {σ : Nat → Int32} (h : ∀ i, i < 4 → zb (wl σ i 4)) : ¬ ((((mskT σ 4 &&& 1) + ((mskT σ 4 >>> ((1 : Int32) &&& 31)) &&& 1)) + ((mskT σ 4 >>> ((2 : Int32) &&& 31)) &&& 1)) + (mskT σ 4 >>> ((3 : Int32) &&& 31))) < 0 := by
  have h0 := h 0 (by omega)
  have h1 := h 1 (by omega)
  have h2 := h 2 (by omega)
  have h3 := h 3 (by omega)
  simp only [mskT]
  rcases h0 with e0 | e0 <;> rcases h1 with e1 | e1 <;> rcases h2 with e2 | e2 <;> rcases h3 with e3 | e3 <;> rw [e0, e1, e2, e3] <;> decide +kernel
theorem zb_rg {x : Int32} (h : zb x) : rg x 0 1 := by
  rcases h with rfl | rfl
  · exact ⟨by simp, by simp⟩
  · exact ⟨by simp, by simp⟩
theorem q6_turns {w : Nat} {v : Int32} {n : Int} {μ : Mem} {K : Int32 → Mem → Prop} (hw : w < 4) (hf : Wf n (μ 169)) (hv : zb v) (hne : ¬ wl (μ 169) w 4 = v) (hK : ∀ res, (∀ μ' K', K' res μ' → x_J6_bitCount_0f7a4 (mskT (putw (μ 169) w (upd (wl (μ 169) w) 4 v)) 4) μ' K') → ¬ res < 0 → K res (um μ 169 (putw (μ 169) w (upd (wl (μ 169) w) 4 v)))) : x_X6_turns (nI w) v μ K := by
  have hw' := hf.putw hw ((hf.2.2.2.2.1 w hw).put (j := 4) (v := v) (Or.inr (Or.inr (Or.inr ⟨rfl, hv⟩))))
  have hz : ∀ i, i < 4 → zb (wl (putw (μ 169) w (upd (wl (μ 169) w) 4 v)) i 4) := fun i hi => (hw'.2.2.2.2.1 i hi).2.2.2.2.1
  unfold x_X6_turns
  apply i6_one hw
  apply if1
  apply q6_w
  simp (disch := omega) only [n_4, nI_add, nI_clamp, vp_nI, true_and]
  refine ⟨fun z => absurd z hne, fun _ => ?_⟩
  apply q6_w
  simp (disch := omega) only [nI_add, nI_clamp, vp_nI, true_and]
  rintro _ rfl
  rw [upd_putw (by omega)]
  apply q6_onWheels
  rw [um_s]
  exact hK _ (fun μ' K' hk => msk_same hz hk) (msk_nn hz)
theorem op_turn {ct : Nat} {μ : Mem} {a v : Int32} (h : Inv (ct + 1) μ) (hv : zb v) : x_X5_turn a v μ (fun r μ1 => x_X6_turn a v μ1 (fun r' μ2 => r = r' ∧ Inv ct μ2)) := by
  obtain ⟨S, hl, sl, hx⟩ := id h
  obtain ⟨a1, a2, a3, a4, a5, a6, a7, a8⟩ := id hx
  have hsel : ∀ μ K, x_X6_turn_L16 K v a μ → (v = 0 → x_X6_turn_L16 K 0 a μ) ∧ (¬ v = 0 → x_X6_turn_L16 K 1 a μ) := by
    intro μ K hk
    rcases hv with rfl | rfl
    · exact ⟨fun _ => hk, fun z => absurd rfl z⟩
    · exact ⟨fun z => absurd z (by decide), fun _ => hk⟩
  unfold x_X5_turn
  apply q5_wheel
  · rintro w hw rfl
    apply if0
    rw [nI_clamp (by omega)]
    refine ⟨vp_in_nI hw (by omega), ?_⟩
    have e4 : μ (5 + 3 * w) 4 = wl (μ 169) w 4 := (a1.2.2.2.2.2.2.2 w hw).2.2.2.2.1
    rw [e4]
    refine ⟨fun z => ?_, fun hne => ?_⟩
    · unfold x_X6_turn
      apply q6_hold
      intro r hr
      apply hsel
      unfold x_X6_turn_L16 x_X6_turns
      apply i6_one hw
      apply if1
      apply q6_w
      simp (disch := omega) only [n_4, nI_add, nI_clamp, vp_nI, true_and]
      rw [um_n (by omega : 169 ≠ 170)]
      exact ⟨fun _ => neg_fin h (by decide), fun z2 => absurd z z2⟩
    · refine q0_keep a4 a3 a1 a2 (fun μ4 hH hs hF => ?_)
      refine ⟨vp_in_nI hw (by omega), hv, ?_⟩
      rintro _ rfl
      have hcw : Whl μ4 (5 + 3 * w) (wl (μ 169) w) := hs.2.2.2.2.2.2.2 w hw
      have hω := (a2.2.2.2.2.1 w hw).put (j := 4) (v := v) (Or.inr (Or.inr (Or.inr ⟨rfl, hv⟩)))
      have hcv := hcw.put (j := 4) (v := v) (by omega)
      have hfr : Fr (5 + 3 * w) (5 + 3 * w + 3) μ4 (um μ4 (5 + 3 * w) (upd (μ4 (5 + 3 * w)) 4 v)) := Fr.rfl.um (by omega) (by omega)
      have hs5 : Snd (um μ4 (5 + 3 * w) (upd (μ4 (5 + 3 * w)) 4 v)) 1 (putw (μ 169) w (upd (wl (μ 169) w) 4 v)) := Snd.putw (o := 1) hs a2 hw hω.2.2.2.2.2.1 hcv hfr
      have e169 : ∀ r, um (um μ4 (5 + 3 * w) (upd (μ4 (5 + 3 * w)) 4 v)) 170 r 169 = μ 169 := fun r => by rw [um_n (by omega), um_n (by omega), hF _ (by omega)]
      apply q3_mask hs5 (a2.putw hw hω)
      have hz : ∀ i, i < 4 → zb (wl (putw (μ 169) w (upd (wl (μ 169) w) 4 v)) i 4) := fun i hi => ((a2.putw hw hω).2.2.2.2.1 i hi).2.2.2.2.1
      refine msk_same hz ?_
      unfold x_X6_turn
      apply q6_hold
      intro r hr
      apply hsel
      unfold x_X6_turn_L16 x_X6_turns
      apply i6_one hw
      apply if1
      apply q6_w
      simp (disch := omega) only [n_4, nI_add, nI_clamp, vp_nI, true_and]
      rw [e169]
      refine ⟨fun z => absurd z hne, fun _ => ?_⟩
      apply q6_w
      simp (disch := omega) only [nI_add, nI_clamp, vp_nI, true_and]
      rintro _ rfl
      rw [e169, upd_putw (by omega)]
      apply q6_onWheels
      rw [um_s]
      exact rec_wheel hx hw hH hs hF hcv hfr hω hr (msk_nn hz)
  · intro hn
    apply if1
    unfold x_X6_turn
    apply q6_hold
    intro r hr
    apply hsel
    unfold x_X6_turn_L16 x_X6_turns
    apply i6_no hn
    exact if0 (neg_fin h (by decide))
/-- a sweep is added behind m others -/
def addw (ω : Nat → Int32) (m : Nat) (e s : Int32) : Nat → Int32 := fun j => if j = 8 + 2 * m then e else if j = 9 + 2 * m then s else if j = 5 then nI (m + 1) else if j = 6 ∧ m = 0 then 0 else if j = 7 ∧ m = 0 then ω 1 else ω j
theorem addw_wf {ω : Nat → Int32} {m : Nat} {e s : Int32} (h : WfW ω) (hm : ω 5 = nI m) (hm4 : m < 4) (he : rg e 0 65535) (hs : rg s 1 999) : WfW (addw ω m e s) := by
  obtain ⟨h0, h1, h2, h3, h4, h5, hsw, hz, hgo⟩ := h
  have g : ∀ j, j < 5 → addw ω m e s j = ω j := fun j hj => by
    unfold addw
    rw [if_neg (by omega), if_neg (by omega), if_neg (by omega), if_neg (by omega), if_neg (by omega)]
  have g5 : addw ω m e s 5 = nI (m + 1) := by
    unfold addw
    rw [if_neg (by omega), if_neg (by omega), if_pos rfl]
  have gb : ∀ j, 8 ≤ j → j ≠ 8 + 2 * m → j ≠ 9 + 2 * m → addw ω m e s j = ω j := fun j hj j1 j2 => by
    unfold addw
    rw [if_neg j1, if_neg j2, if_neg (by omega), if_neg (by omega), if_neg (by omega)]
  have ge : addw ω m e s (8 + 2 * m) = e := if_pos rfl
  have gs : addw ω m e s (9 + 2 * m) = s := by
    unfold addw
    rw [if_neg (by omega), if_pos rfl]
  refine ⟨by rw [g 0 (by omega)]; exact h0, by rw [g 1 (by omega)]; exact h1, by rw [g 2 (by omega)]; exact h2, by rw [g 3 (by omega)]; exact h3, by rw [g 4 (by omega)]; exact h4, by rw [g5]; exact rg_of (by omega) (by omega) (by omega), fun k hk => ?_, fun hh => ?_, fun _ => ?_⟩
  · rw [g5, nI_toInt (by omega)] at hk
    by_cases hkm : k = m
    · subst hkm
      rw [ge, gs]
      exact ⟨he, hs⟩
    · rw [gb _ (by omega) (by omega) (by omega), gb _ (by omega) (by omega) (by omega)]
      exact hsw k (by rw [hm, nI_toInt (by omega)]; omega)
  · rw [g5] at hh
    exact absurd hh (nI_ne0 (by omega) (by omega))
  · by_cases hm0 : m = 0
    · subst hm0
      have g6 : addw ω 0 e s 6 = 0 := by simp [addw]
      have g7 : addw ω 0 e s 7 = ω 1 := by simp [addw]
      have g9 : addw ω 0 e s 9 = s := gs
      rw [g6, g7, g9]
      exact ⟨by simp, by have := hs.1; simp; omega, h1⟩
    · have g6 : addw ω m e s 6 = ω 6 := by
        unfold addw
        rw [if_neg (by omega), if_neg (by omega), if_neg (by omega), if_neg (by omega), if_neg (by omega)]
      have g7 : addw ω m e s 7 = ω 7 := by
        unfold addw
        rw [if_neg (by omega), if_neg (by omega), if_neg (by omega), if_neg (by omega), if_neg (by omega)]
      rw [g6, g7, gb 9 (by omega) (by omega) (by omega)]
      exact hgo (by rw [hm]; exact nI_ne0 (by omega) (by omega))
theorem q4_addSweep {c m : Nat} {e s : Int32} {μ : Mem} {K : Int32 → Mem → Prop} {ω : Nat → Int32} (hc : Whl μ c ω) (hm : ω 5 = nI m) (hm4 : m < 4) (hK : ∀ μ', Whl μ' c (addw ω m e s) → Fr c (c + 3) μ μ' → K 1 μ') : x_X4_addSweep c e s μ K := by
  obtain ⟨c0, c1, c2, c3, c4, c5, csw, cgo⟩ := hc
  rw [hm] at c5 csw
  have l28 : ∀ ρ : Nat → Int32, ρ 0 = ω 0 → ρ 1 = ω 1 → ρ 2 = ω 2 → ρ 3 = ω 3 → ρ 4 = ω 4 → ρ 5 = nI m → ρ 9 = addw ω m e s 6 → ρ 8 = addw ω m e s 7 → x_X4_addSweep_L28 K c e s (um μ c ρ) := by
    intro ρ r0 r1 r2 r3 r4 r5 r9 r8
    unfold x_X4_addSweep_L28
    rw [um_s, r5]
    refine ⟨vp_in_nI hm4 (by omega), ?_⟩
    rw [nI_clamp (by omega)]
    rintro _ rfl
    rw [um_n (by omega : c ≠ c + 1), um_s, r5]
    refine ⟨vp_in_nI hm4 (by omega), ?_⟩
    rw [nI_clamp (by omega)]
    rintro _ rfl _ rfl
    simp only [um_s, um_n (by omega : c ≠ c + 1), um_n (by omega : c ≠ c + 2), um_n (by omega : c + 1 ≠ c), um_n (by omega : c + 2 ≠ c + 1), um_n (by omega : c + 2 ≠ c)]
    rw [r5, nI_1]
    refine hK _ ?_ ((((Fr.rfl.um (by omega) (by omega)).um (by omega) (by omega)).um (by omega) (by omega)).um (by omega) (by omega))
    have g : ∀ j, j < 5 → addw ω m e s j = ω j := fun j hj => by
      unfold addw
      rw [if_neg (by omega), if_neg (by omega), if_neg (by omega), if_neg (by omega), if_neg (by omega)]
    have g5 : addw ω m e s 5 = nI (m + 1) := by
      unfold addw
      rw [if_neg (by omega), if_neg (by omega), if_pos rfl]
    unfold Whl
    simp only [um_s, um_n (by omega : c + 1 ≠ c), um_n (by omega : c + 2 ≠ c), um_n (by omega : c + 1 ≠ c + 2)]
    refine ⟨by rw [upd_n (by omega), r0, g 0 (by omega)], by rw [upd_n (by omega), r1, g 1 (by omega)], by rw [upd_n (by omega), r2, g 2 (by omega)], by rw [upd_n (by omega), r3, g 3 (by omega)], by rw [upd_n (by omega), r4, g 4 (by omega)], by rw [upd_s, g5], fun k hk => ?_, fun _ => ⟨by rw [upd_n (by omega), r9], by rw [upd_n (by omega), r8]⟩⟩
    rw [g5, nI_toInt (by omega)] at hk
    by_cases hkm : k = m
    · subst hkm
      rw [upd_s, upd_s]
      unfold addw
      rw [if_pos rfl, if_neg (by omega), if_pos rfl]
      exact ⟨rfl, rfl⟩
    · rw [upd_n hkm, upd_n hkm]
      have := csw k (by rw [nI_toInt (by omega)]; omega)
      rw [this.1, this.2]
      unfold addw
      rw [if_neg (by omega), if_neg (by omega), if_neg (by omega), if_neg (by omega), if_neg (by omega), if_neg (by omega), if_neg (by omega), if_neg (by omega), if_neg (by omega), if_neg (by omega)]
      exact ⟨rfl, rfl⟩
  unfold x_X4_addSweep
  rw [c5]
  refine ⟨fun h => absurd h (nI_nlt (a := m) (b := 0) (by omega) (by omega)), fun _ => ⟨fun _ => ⟨fun h0 => ?_, fun h0 => ?_⟩, fun h => absurd (nI_lt (a := m) (b := 4) hm4 (by omega)) h⟩⟩
  · have hm0 : m = 0 := (nI_eq (by omega) (by omega)).mp (show nI m = nI 0 from h0)
    unfold x_X4_beginSweep
    rintro _ rfl _ rfl
    rw [um_s, um_um]
    refine l28 _ ?_ ?_ ?_ ?_ ?_ ?_ ?_ ?_
    · rw [upd_n (by omega), upd_n (by omega), c0]
    · rw [upd_n (by omega), upd_n (by omega), c1]
    · rw [upd_n (by omega), upd_n (by omega), c2]
    · rw [upd_n (by omega), upd_n (by omega), c3]
    · rw [upd_n (by omega), upd_n (by omega), c4]
    · rw [upd_n (by omega), upd_n (by omega), c5]
    · rw [upd_s]
      simp [addw, hm0]
    · rw [upd_n (by omega), upd_s, c1]
      simp [addw, hm0]
  · have hm0 : m ≠ 0 := fun z => h0 (by rw [z]; rfl)
    obtain ⟨d1, d2⟩ := cgo (by rw [hm]; exact h0)
    have := l28 (μ c) c0 c1 c2 c3 c4 c5 (by
      rw [d1]
      unfold addw
      rw [if_neg (by omega), if_neg (by omega), if_neg (by omega), if_neg (by omega), if_neg (by omega)]) (by
      rw [d2]
      unfold addw
      rw [if_neg (by omega), if_neg (by omega), if_neg (by omega), if_neg (by omega), if_neg (by omega)])
    rw [um_self] at this
    exact this
theorem q6_sweeps {w m : Nat} {e s : Int32} {μ : Mem} {K : Int32 → Mem → Prop} (hw : w < 4) (hm : wl (μ 169) w 5 = nI m) (hm4 : m < 4) (he1 : (0 : Int32) ≤ e) (he2 : e ≤ 65535) (hs1 : (1 : Int32) ≤ s) (hs2 : s ≤ 999) (hK : K (nI (m + 1)) (um μ 169 (putw (μ 169) w (addw (wl (μ 169) w) m e s)))) : x_X6_sweeps (nI w) e s μ K := by
  obtain ⟨q, hq⟩ : ∃ q, q = 70 + 16 * w := ⟨_, rfl⟩
  unfold x_X6_sweeps
  apply i6_one hw
  apply if1
  apply i6_in he1 he2
  apply if1
  apply i6_in hs1 hs2
  apply if1
  apply q6_w
  have hm' : μ 169 (q + 5) = nI m := by rw [hq]; exact hm
  rw [← hq]
  simp (disch := omega) only [n_1, n_2, n_5, n_6, n_7, n_8, nI_add, nI_clamp, vp_nI, true_and]
  rintro _ rfl
  rw [hm', pk_mul, nI_add]
  refine ⟨fun z => absurd ((nI_eq (by omega) (by omega)).mp (show nI m = nI 4 from z)) (by omega), fun _ => ?_⟩
  simp (disch := omega) only [nI_add, nI_clamp, vp_nI, true_and]
  rintro _ rfl _ rfl _ rfl
  simp only [um_s, um_um]
  have e5 : upd (upd (μ 169) (q + 8 + 2 * m) e) (q + 8 + 2 * m + 1) s (q + 5) = nI m := by rw [upd_n (by omega), upd_n (by omega), hm']
  rw [e5, nI_add]
  have key : ∀ r : Nat → Int32, (∀ j, j < 16 → r (q + j) = addw (wl (μ 169) w) m e s j) → (∀ i, (i < q ∨ q + 16 ≤ i) → r i = μ 169 i) → K (nI (m + 1)) (um μ 169 r) := by
    intro r h1 h2
    rw [putw_of (σ := μ 169) (w := w) (r := r) (ω := addw (wl (μ 169) w) m e s) (fun j hj => by rw [← hq]; exact h1 j hj) (fun i hi => h2 i (by omega))]
    exact hK
  have ew : ∀ j, μ 169 (q + j) = wl (μ 169) w j := fun j => by rw [hq]; rfl
  refine ⟨fun h0 => ?_, fun h0 => ?_⟩
  · have hm0 : m = 0 := (nI_eq (by omega) (by omega)).mp (show nI m = nI 0 from h0)
    rintro _ rfl _ rfl
    simp only [um_s, um_um]
    refine key _ (fun j hj => ?_) (fun i hi => ?_)
    · unfold addw
      subst hm0
      by_cases j7 : j = 7
      · subst j7
        rw [upd_s, upd_n (by omega), upd_n (by omega), upd_n (by omega), upd_n (by omega), ew]
        simp
      rw [upd_n (by omega)]
      by_cases j6 : j = 6
      · subst j6
        rw [upd_s]
        simp
      rw [upd_n (by omega)]
      by_cases j5 : j = 5
      · subst j5
        rw [upd_s]
        simp
      rw [upd_n (by omega)]
      by_cases j9 : j = 9
      · subst j9
        rw [show q + 9 = q + 8 + 2 * 0 + 1 by omega, upd_s]
        simp
      rw [upd_n (by omega)]
      by_cases j8 : j = 8
      · subst j8
        rw [show q + 8 = q + 8 + 2 * 0 by omega, upd_s]
        simp
      rw [upd_n (by omega), ew, if_neg (by omega), if_neg (by omega), if_neg (by omega), if_neg (by omega), if_neg (by omega)]
    · rw [upd_n (by omega), upd_n (by omega), upd_n (by omega), upd_n (by omega), upd_n (by omega)]
  · have hm0 : m ≠ 0 := fun z => h0 (by rw [z]; rfl)
    refine key _ (fun j hj => ?_) (fun i hi => ?_)
    · unfold addw
      by_cases j5 : j = 5
      · subst j5
        rw [upd_s, if_neg (by omega), if_neg (by omega), if_pos rfl]
      rw [upd_n (by omega)]
      by_cases j9 : j = 9 + 2 * m
      · subst j9
        rw [show q + (9 + 2 * m) = q + 8 + 2 * m + 1 by omega, upd_s, if_neg (by omega), if_pos rfl]
      rw [upd_n (by omega)]
      by_cases j8 : j = 8 + 2 * m
      · subst j8
        rw [show q + (8 + 2 * m) = q + 8 + 2 * m by omega, upd_s, if_pos rfl]
      rw [upd_n (by omega), ew, if_neg (by omega), if_neg (by omega), if_neg (by omega), if_neg (by omega), if_neg (by omega)]
    · rw [upd_n (by omega), upd_n (by omega), upd_n (by omega)]
theorem q6_sweeps4 {w : Nat} {e s : Int32} {μ : Mem} {K : Int32 → Mem → Prop} (hw : w < 4) (hm : wl (μ 169) w 5 = nI 4) (he1 : (0 : Int32) ≤ e) (he2 : e ≤ 65535) (hs1 : (1 : Int32) ≤ s) (hs2 : s ≤ 999) (hK : K (-4) μ) : x_X6_sweeps (nI w) e s μ K := by
  unfold x_X6_sweeps
  apply i6_one hw
  apply if1
  apply i6_in he1 he2
  apply if1
  apply i6_in hs1 hs2
  apply if1
  apply q6_w
  rw [n_5, nI_add]
  refine ⟨vp_in_nI (by omega) (by omega), ?_⟩
  rintro _ rfl
  rw [nI_clamp (by omega), show μ 169 (70 + 16 * w + 5) = nI 4 from hm]
  exact ⟨fun _ => hK, fun z => absurd rfl z⟩
theorem op_sweep {ct : Nat} {μ : Mem} {a e s : Int32} (h : Inv (ct + 1) μ) : x_X5_sweep a e s μ (fun r μ1 => x_X6_sweep a e s μ1 (fun r' μ2 => r = r' ∧ Inv ct μ2)) := by
  obtain ⟨S, hl, sl, hx⟩ := id h
  obtain ⟨a1, a2, a3, a4, a5, a6, a7, a8⟩ := id hx
  unfold x_X5_sweep
  apply q5_wheel
  · rintro w hw rfl
    apply if0
    apply q5_out
    · intro l1 l2
      apply if0
      apply q5_out
      · intro k1 k2
        apply if0
        rw [nI_clamp (by omega)]
        refine ⟨vp_in_nI hw (by omega), ?_⟩
        obtain ⟨m, hm, em⟩ := rg_nI (n := 4) (a2.2.2.2.2.1 w hw).2.2.2.2.2.1
        have e5 : μ (5 + 3 * w) 5 = nI m := (a1.2.2.2.2.2.2.2 w hw).2.2.2.2.2.1.trans em
        rw [e5]
        refine ⟨fun hlt => ?_, fun hge => ?_⟩
        · have hm4 : m < 4 := by
            rcases Nat.lt_or_ge m 4 with z | z
            · exact z
            · exact absurd hlt (nI_nlt (a := m) (b := 4) z (by omega))
          refine q0_keep a4 a3 a1 a2 (fun μ4 hH hs hF => ?_)
          refine ⟨vp_in_nI hw (by omega), ?_⟩
          have hcw : Whl μ4 (5 + 3 * w) (wl (μ 169) w) := hs.2.2.2.2.2.2.2 w hw
          have hω := addw_wf (a2.2.2.2.2.1 w hw) em hm4 (rg_le rfl rfl l1 l2) (rg_le rfl rfl k1 k2)
          refine q4_addSweep hcw em hm4 (fun μ5 hc hfr => ?_)
          refine ⟨vp_in_nI hw (by omega), ?_⟩
          have r5 : μ5 (5 + 3 * w) 5 = nI (m + 1) := by
            rw [hc.2.2.2.2.2.1]
            unfold addw
            rw [if_neg (by omega), if_neg (by omega), if_pos rfl]
          rw [r5]
          unfold x_X6_sweep
          apply q6_hold
          intro r hr
          have e169 : um μ5 170 r 169 = μ 169 := by rw [um_n (by omega), hfr _ (by omega), hF _ (by omega)]
          refine q6_sweeps (m := m) hw (by rw [e169]; exact em) hm4 l1 l2 k1 k2 ?_
          rw [e169]
          exact rec_wheel hx hw hH hs hF hc hfr hω hr (nI_nlt (a := m + 1) (b := 0) (by omega) (by omega))
        · have hm4 : m = 4 := by
            rcases Nat.lt_or_ge m 4 with z | z
            · exact absurd (nI_lt (a := m) (b := 4) z (by omega)) hge
            · omega
          subst hm4
          unfold x_X6_sweep
          apply q6_hold
          intro r hr
          refine q6_sweeps4 hw (by rw [um_n (by omega)]; exact em) l1 l2 k1 k2 (neg_fin h (by decide))
      · intro k
        apply if1
        unfold x_X6_sweep
        apply q6_hold
        intro r hr
        unfold x_X6_sweeps
        apply i6_one hw
        apply if1
        apply i6_in l1 l2
        apply if1
        apply i6_out k
        exact if0 (neg_fin h (by decide))
    · intro l
      apply if1
      unfold x_X6_sweep
      apply q6_hold
      intro r hr
      unfold x_X6_sweeps
      apply i6_one hw
      apply if1
      apply i6_out l
      exact if0 (neg_fin h (by decide))
  · intro hv
    apply if1
    unfold x_X6_sweep
    apply q6_hold
    intro r hr
    unfold x_X6_sweeps
    apply i6_no hv
    exact if0 (neg_fin h (by decide))
