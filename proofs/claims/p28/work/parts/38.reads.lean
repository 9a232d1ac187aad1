/-! the class alone: what its questions answer -/
section KR
variable {ct : Nat} {μ : Mem} {S : Nat} {hl sl : Nat → Nat → Int32} {z : Nat → Int32} {σ : Nat → Int32} {K : Int32 → Mem → Prop}
def imv (v : Int32) : Int32 := if 32768 < v then 65536 - v else v
theorem k_w0 {w : Nat} (h : CI ct μ S hl σ z sl) (hw : w < 4) (hK : K (wl σ w 0) μ) : x_X5_wheel (nI w) 0 μ K := by
  obtain ⟨a1, a2, -⟩ := id h
  have hcw : Whl μ (5 + 3 * w) (wl σ w) := a1.2.2.2.2.2.2.2 w hw
  have hfw := k_whl hw h
  obtain ⟨c0, c1, c2, c3, c4, c5, csw, cgo⟩ := id hcw
  unfold x_X5_wheel
  apply q5_wheel
  · intro _ _ _
    apply if0
    rw [nI_clamp (by omega)]
    refine ⟨vp_in_nI hw (by omega), ?_⟩
    refine ⟨fun _ => ?_, fun z => absurd rfl z⟩
    rw [c0]
    exact hK
  · intro z
    exact absurd rfl (z w hw)
theorem k_w1 {w : Nat} (h : CI ct μ S hl σ z sl) (hw : w < 4) (hK : K (wl σ w 1) μ) : x_X5_wheel (nI w) 1 μ K := by
  obtain ⟨a1, a2, -⟩ := id h
  have hcw : Whl μ (5 + 3 * w) (wl σ w) := a1.2.2.2.2.2.2.2 w hw
  have hfw := k_whl hw h
  obtain ⟨c0, c1, c2, c3, c4, c5, csw, cgo⟩ := id hcw
  unfold x_X5_wheel
  apply q5_wheel
  · intro _ _ _
    apply if0
    rw [nI_clamp (by omega)]
    refine ⟨vp_in_nI hw (by omega), ?_⟩
    refine ⟨fun z => absurd z (by decide), fun _ => ⟨fun _ => ?_, fun z => absurd rfl z⟩⟩
    rw [c1]
    exact hK
  · intro z
    exact absurd rfl (z w hw)
theorem k_w2 {w : Nat} (h : CI ct μ S hl σ z sl) (hw : w < 4) (hK : K (wl σ w 2) μ) : x_X5_wheel (nI w) 2 μ K := by
  obtain ⟨a1, a2, -⟩ := id h
  have hcw : Whl μ (5 + 3 * w) (wl σ w) := a1.2.2.2.2.2.2.2 w hw
  have hfw := k_whl hw h
  obtain ⟨c0, c1, c2, c3, c4, c5, csw, cgo⟩ := id hcw
  unfold x_X5_wheel
  apply q5_wheel
  · intro _ _ _
    apply if0
    rw [nI_clamp (by omega)]
    refine ⟨vp_in_nI hw (by omega), ?_⟩
    refine ⟨fun z => absurd z (by decide), fun _ => ⟨fun z => absurd z (by decide), fun _ => ⟨fun _ => ?_, fun z => absurd rfl z⟩⟩⟩
    rw [c2]
    exact hK
  · intro z
    exact absurd rfl (z w hw)
theorem k_w3 {w : Nat} (h : CI ct μ S hl σ z sl) (hw : w < 4) (hK : K (wl σ w 3) μ) : x_X5_wheel (nI w) 3 μ K := by
  obtain ⟨a1, a2, -⟩ := id h
  have hcw : Whl μ (5 + 3 * w) (wl σ w) := a1.2.2.2.2.2.2.2 w hw
  have hfw := k_whl hw h
  obtain ⟨c0, c1, c2, c3, c4, c5, csw, cgo⟩ := id hcw
  unfold x_X5_wheel
  apply q5_wheel
  · intro _ _ _
    apply if0
    rw [nI_clamp (by omega)]
    refine ⟨vp_in_nI hw (by omega), ?_⟩
    refine ⟨fun z => absurd z (by decide), fun _ => ⟨fun z => absurd z (by decide), fun _ => ⟨fun z => absurd z (by decide), fun _ => ⟨fun _ => ?_, fun z => absurd rfl z⟩⟩⟩⟩
    rw [c3]
    exact hK
  · intro z
    exact absurd rfl (z w hw)
theorem k_w4 {w : Nat} (h : CI ct μ S hl σ z sl) (hw : w < 4) (hK : K (wl σ w 4) μ) : x_X5_wheel (nI w) 4 μ K := by
  obtain ⟨a1, a2, -⟩ := id h
  have hcw : Whl μ (5 + 3 * w) (wl σ w) := a1.2.2.2.2.2.2.2 w hw
  have hfw := k_whl hw h
  obtain ⟨c0, c1, c2, c3, c4, c5, csw, cgo⟩ := id hcw
  unfold x_X5_wheel
  apply q5_wheel
  · intro _ _ _
    apply if0
    rw [nI_clamp (by omega)]
    refine ⟨vp_in_nI hw (by omega), ?_⟩
    refine ⟨fun z => absurd z (by decide), fun _ => ⟨fun z => absurd z (by decide), fun _ => ⟨fun z => absurd z (by decide), fun _ => ⟨fun z => absurd z (by decide), fun _ => ⟨fun _ => ?_, fun z => absurd rfl z⟩⟩⟩⟩⟩
    rw [c4]
    refine ⟨fun z => ?_, fun z => ?_⟩
    · rw [z] at hK; exact hK
    · rw [hfw.2.2.2.2.1.resolve_left z] at hK; exact hK
  · intro z
    exact absurd rfl (z w hw)
theorem k_w5 {w : Nat} (h : CI ct μ S hl σ z sl) (hw : w < 4) (hK : K (wl σ w 5) μ) : x_X5_wheel (nI w) 5 μ K := by
  obtain ⟨a1, a2, -⟩ := id h
  have hcw : Whl μ (5 + 3 * w) (wl σ w) := a1.2.2.2.2.2.2.2 w hw
  have hfw := k_whl hw h
  obtain ⟨c0, c1, c2, c3, c4, c5, csw, cgo⟩ := id hcw
  unfold x_X5_wheel
  apply q5_wheel
  · intro _ _ _
    apply if0
    rw [nI_clamp (by omega)]
    refine ⟨vp_in_nI hw (by omega), ?_⟩
    refine ⟨fun z => absurd z (by decide), fun _ => ⟨fun z => absurd z (by decide), fun _ => ⟨fun z => absurd z (by decide), fun _ => ⟨fun z => absurd z (by decide), fun _ => ⟨fun z => absurd z (by decide), fun _ => ⟨fun _ => ?_, fun z => absurd rfl z⟩⟩⟩⟩⟩⟩
    rw [c5]
    exact hK
  · intro z
    exact absurd rfl (z w hw)
theorem k_w6 {w : Nat} (h : CI ct μ S hl σ z sl) (hw : w < 4) (hK : K (gv σ w) μ) : x_X5_wheel (nI w) 6 μ K := by
  obtain ⟨a1, a2, -⟩ := id h
  have hcw : Whl μ (5 + 3 * w) (wl σ w) := a1.2.2.2.2.2.2.2 w hw
  have hfw := k_whl hw h
  obtain ⟨c0, c1, c2, c3, c4, c5, csw, cgo⟩ := id hcw
  unfold x_X5_wheel
  apply q5_wheel
  · intro _ _ _
    apply if0
    rw [nI_clamp (by omega)]
    refine ⟨vp_in_nI hw (by omega), ?_⟩
    refine ⟨fun z => absurd z (by decide), fun _ => ⟨fun z => absurd z (by decide), fun _ => ⟨fun z => absurd z (by decide), fun _ => ⟨fun z => absurd z (by decide), fun _ => ⟨fun z => absurd z (by decide), fun _ => ⟨fun z => absurd z (by decide), fun _ => ⟨fun _ => ?_, fun z => absurd rfl z⟩⟩⟩⟩⟩⟩⟩
    exact q3_value (o := 1) hw a1 a2 hK
  · intro z
    exact absurd rfl (z w hw)
theorem k_w7 {w : Nat} (h : CI ct μ S hl σ z sl) (hw : w < 4) (hK : K (imv (wl σ w 1)) μ) : x_X5_wheel (nI w) 7 μ K := by
  obtain ⟨a1, a2, -⟩ := id h
  have hcw : Whl μ (5 + 3 * w) (wl σ w) := a1.2.2.2.2.2.2.2 w hw
  have hfw := k_whl hw h
  obtain ⟨c0, c1, c2, c3, c4, c5, csw, cgo⟩ := id hcw
  unfold x_X5_wheel
  apply q5_wheel
  · intro _ _ _
    apply if0
    rw [nI_clamp (by omega)]
    refine ⟨vp_in_nI hw (by omega), ?_⟩
    refine ⟨fun z => absurd z (by decide), fun _ => ⟨fun z => absurd z (by decide), fun _ => ⟨fun z => absurd z (by decide), fun _ => ⟨fun z => absurd z (by decide), fun _ => ⟨fun z => absurd z (by decide), fun _ => ⟨fun z => absurd z (by decide), fun _ => ⟨fun z => absurd z (by decide), fun _ => ⟨fun _ => ?_, fun z => absurd rfl z⟩⟩⟩⟩⟩⟩⟩⟩
    exact im_same (w := w) c1 hK
  · intro z
    exact absurd rfl (z w hw)
theorem k_w8 {w : Nat} (h : CI ct μ S hl σ z sl) (hw : w < 4) {v : Nat} (ev : wl σ w 1 = nI v) (hv : v < 65536) (hK : K (nI (arN v)) μ) : x_X5_wheel (nI w) 8 μ K := by
  obtain ⟨a1, a2, -⟩ := id h
  have hcw : Whl μ (5 + 3 * w) (wl σ w) := a1.2.2.2.2.2.2.2 w hw
  have hfw := k_whl hw h
  obtain ⟨c0, c1, c2, c3, c4, c5, csw, cgo⟩ := id hcw
  unfold x_X5_wheel
  apply q5_wheel
  · intro _ _ _
    apply if0
    rw [nI_clamp (by omega)]
    refine ⟨vp_in_nI hw (by omega), ?_⟩
    refine ⟨fun z => absurd z (by decide), fun _ => ⟨fun z => absurd z (by decide), fun _ => ⟨fun z => absurd z (by decide), fun _ => ⟨fun z => absurd z (by decide), fun _ => ⟨fun z => absurd z (by decide), fun _ => ⟨fun z => absurd z (by decide), fun _ => ⟨fun z => absurd z (by decide), fun _ => ⟨fun z => absurd z (by decide), fun _ => ⟨fun _ => ?_, fun z => absurd rfl z⟩⟩⟩⟩⟩⟩⟩⟩⟩
    exact q4_around (c1.trans ev) hv hK
  · intro z
    exact absurd rfl (z w hw)
theorem k_w9 {w : Nat} (h : CI ct μ S hl σ z sl) (hw : w < 4) {m : Nat} (em : wl σ w 5 = nI m) (hm : m ≤ 4) (hK : K (stT (wl σ w) m - wl σ w 6) μ) : x_X5_wheel (nI w) 9 μ K := by
  obtain ⟨a1, a2, -⟩ := id h
  have hcw : Whl μ (5 + 3 * w) (wl σ w) := a1.2.2.2.2.2.2.2 w hw
  have hfw := k_whl hw h
  obtain ⟨c0, c1, c2, c3, c4, c5, csw, cgo⟩ := id hcw
  unfold x_X5_wheel
  apply q5_wheel
  · intro _ _ _
    apply if0
    rw [nI_clamp (by omega)]
    refine ⟨vp_in_nI hw (by omega), ?_⟩
    refine ⟨fun z => absurd z (by decide), fun _ => ⟨fun z => absurd z (by decide), fun _ => ⟨fun z => absurd z (by decide), fun _ => ⟨fun z => absurd z (by decide), fun _ => ⟨fun z => absurd z (by decide), fun _ => ⟨fun z => absurd z (by decide), fun _ => ⟨fun z => absurd z (by decide), fun _ => ⟨fun z => absurd z (by decide), fun _ => ⟨fun z => absurd z (by decide), fun _ => ⟨fun _ => ?_, fun z => absurd rfl z⟩⟩⟩⟩⟩⟩⟩⟩⟩⟩
    exact q4_take9 hcw em hm hfw.2.2.2.2.2.2.2.1 hK
  · intro z
    exact absurd rfl (z w hw)
theorem k_w10 {w : Nat} (h : CI ct μ S hl σ z sl) (hw : w < 4) {m : Nat} (em : wl σ w 5 = nI m) (hm : m ≤ 4) (hK : K (if m = 0 then wl σ w 1 else wl σ w (8 + 2 * (m - 1))) μ) : x_X5_wheel (nI w) 10 μ K := by
  obtain ⟨a1, a2, -⟩ := id h
  have hcw : Whl μ (5 + 3 * w) (wl σ w) := a1.2.2.2.2.2.2.2 w hw
  have hfw := k_whl hw h
  obtain ⟨c0, c1, c2, c3, c4, c5, csw, cgo⟩ := id hcw
  unfold x_X5_wheel
  apply q5_wheel
  · intro _ _ _
    apply if0
    rw [nI_clamp (by omega)]
    refine ⟨vp_in_nI hw (by omega), ?_⟩
    refine ⟨fun z => absurd z (by decide), fun _ => ⟨fun z => absurd z (by decide), fun _ => ⟨fun z => absurd z (by decide), fun _ => ⟨fun z => absurd z (by decide), fun _ => ⟨fun z => absurd z (by decide), fun _ => ⟨fun z => absurd z (by decide), fun _ => ⟨fun z => absurd z (by decide), fun _ => ⟨fun z => absurd z (by decide), fun _ => ⟨fun z => absurd z (by decide), fun _ => ⟨fun z => absurd z (by decide), fun _ => ⟨fun _ => ?_, fun z => absurd rfl z⟩⟩⟩⟩⟩⟩⟩⟩⟩⟩⟩
    unfold x_X4_lastStep
    rw [c5, em]
    refine ⟨fun hle => ?_, fun hgt => ⟨fun z => absurd z (nI_nlt (a := 4) (b := m) hm (by omega)), fun _ => ?_⟩⟩
    · have hm0 : m = 0 := by
        rcases Nat.eq_zero_or_pos m with z | z
        · exact z
        · exact absurd hle (nI_nle z (by omega))
      rw [if_pos hm0] at hK
      rw [c1]
      exact hK
    · have hm0 : 0 < m := by
        rcases Nat.eq_zero_or_pos m with z | z
        · exact absurd (by rw [z]; exact Int32.le_refl _) hgt
        · exact z
      rw [if_neg (by omega)] at hK
      rw [n_1, pk_sub (by omega)]
      refine ⟨vp_in_nI (by omega) (by omega), ?_⟩
      rw [nI_clamp (by omega), (csw (m - 1) (by rw [em, nI_toInt (by omega)]; omega)).1]
      exact hK
  · intro z
    exact absurd rfl (z w hw)
theorem k_wno (hK : K (-1) μ) : x_X5_wheel 4 0 μ K := by
  unfold x_X5_wheel
  apply q5_wheel
  · intro w hw e
    exact absurd ((nI_eq (a := 4) (b := w) (by omega) (by omega)).mp e) (by omega)
  · intro _
    exact if1 hK
theorem k_wbad (hK : K (-2) μ) : x_X5_wheel 0 11 μ K := by
  unfold x_X5_wheel
  apply q5_wheel
  · intro _ _ _
    apply if0
    refine ⟨vp_in_nI (n := 0) (N := 4) (by omega) (by omega), ?_⟩
    exact ⟨fun z => absurd z (by decide), fun _ => ⟨fun z => absurd z (by decide), fun _ => ⟨fun z => absurd z (by decide), fun _ => ⟨fun z => absurd z (by decide), fun _ => ⟨fun z => absurd z (by decide), fun _ => ⟨fun z => absurd z (by decide), fun _ => ⟨fun z => absurd z (by decide), fun _ => ⟨fun z => absurd z (by decide), fun _ => ⟨fun z => absurd z (by decide), fun _ => ⟨fun z => absurd z (by decide), fun _ => ⟨fun z => absurd z (by decide), fun _ => hK⟩⟩⟩⟩⟩⟩⟩⟩⟩⟩⟩
  · intro z
    exact absurd rfl (z 0 (by omega))
theorem k_valueOf {t p : Nat} (h : CI ct μ S hl σ z sl) (ht : t < 4) (hp : p < 16) (hK : K (σ (6 + (t * 16 + p))) μ) : x_X5_valueOf (nI t) (nI p) μ K := by
  obtain ⟨a1, a2, -⟩ := id h
  unfold x_X5_valueOf
  apply q5_table
  · intro _ _ _
    apply if0
    apply q5_place
    · intro _ _ _
      apply if0
      rw [n_16, pk_mul, nI_add]
      refine ⟨vp_in_nI (by omega) (by omega), ?_⟩
      rw [nI_clamp (by omega), show μ 2 (t * 16 + p) = σ (6 + (t * 16 + p)) from a1.2.2.2.2.2.1 _ (by omega)]
      exact hK
    · intro z
      exact absurd rfl (z p hp)
  · intro z
    exact absurd rfl (z t ht)
theorem k_sampleNo {g : Nat} (h : CI ct μ S hl σ z sl) (hg : g < 32) (hm : σ 1 = 0) (hK : K (-6) μ) : x_X5_sample (nI g) μ K := by
  obtain ⟨a1, a2, -⟩ := id h
  unfold x_X5_sample
  apply q5_out
  · intro _ _
    apply if0
    rw [show μ 1 3 = nI 0 from a1.2.1.trans hm]
    exact ⟨fun _ => hK, fun z => absurd (nI_le (a := 0) (b := g) (by omega) (by omega)) z⟩
  · intro z
    exact absurd ⟨nI_pos' (by omega), nI_le (a := g) (b := 31) (by omega) (by omega)⟩ z
theorem k_sample {g m : Nat} (h : CI ct μ S hl σ z sl) (hg : g < 32) (hm : σ 1 = nI m) (hm2 : m < 2 ^ 30) (hlt : g < m) (hK : K (σ (134 + (m - 1 - g) % 32)) μ) : x_X5_sample (nI g) μ K := by
  obtain ⟨a1, a2, -⟩ := id h
  unfold x_X5_sample
  apply q5_out
  · intro _ _
    apply if0
    rw [show μ 1 3 = nI m from a1.2.1.trans hm]
    refine ⟨fun z => absurd z (nI_ge hlt (by omega)), fun _ => ?_⟩
    exact q3_ago (m := m) a1 hm hm2 hlt hK
  · intro z
    exact absurd ⟨nI_pos' (by omega), nI_le (a := g) (b := 31) (by omega) (by omega)⟩ z
theorem k_beat {w u : Nat} (h : CI ct μ S hl σ z sl) (hw : w < 4) (hu : u < 4) (hK : ∀ r, r = (if 0 ≤ imv (wl σ w 1) - imv (wl σ u 1) then imv (wl σ w 1) - imv (wl σ u 1) else 0 - (imv (wl σ w 1) - imv (wl σ u 1))) → K r μ) : x_X5_beat (nI w) (nI u) μ K := by
  obtain ⟨a1, a2, -⟩ := id h
  unfold x_X5_beat
  apply q5_wheel
  · intro _ _ _
    apply if0
    apply q5_wheel
    · intro _ _ _
      apply if0
      rw [nI_clamp (by omega), nI_clamp (by omega)]
      refine ⟨vp_in_nI hw (by omega), ?_⟩
      refine im_same (w := w) (v := wl σ w 1) (a1.2.2.2.2.2.2.2 w hw).2.1 ?_
      refine ⟨vp_in_nI hu (by omega), ?_⟩
      refine im_same (w := u) (v := wl σ u 1) (a1.2.2.2.2.2.2.2 u hu).2.1 ?_
      intro r hr
      exact hK r hr
    · intro z
      exact absurd rfl (z u hu)
  · intro z
    exact absurd rfl (z w hw)
theorem k_c0 (h : CI ct μ S hl σ z sl) (hK : K (σ 0) μ) : x_X5_count 0 μ K := by
  obtain ⟨a1, a2, -⟩ := id h
  obtain ⟨s0, s1, s2, s3, s4, s5, s6, s7⟩ := id a1
  unfold x_X5_count
  refine ⟨fun _ => ?_, fun z => absurd rfl z⟩
  rw [s0]
  exact hK
theorem k_c1 (h : CI ct μ S hl σ z sl) (hK : K (σ 1) μ) : x_X5_count 1 μ K := by
  obtain ⟨a1, a2, -⟩ := id h
  obtain ⟨s0, s1, s2, s3, s4, s5, s6, s7⟩ := id a1
  unfold x_X5_count
  refine ⟨fun z => absurd z (by decide), fun _ => ⟨fun _ => ?_, fun z => absurd rfl z⟩⟩
  rw [s1]
  exact hK
theorem k_c2 (h : CI ct μ S hl σ z sl) (hK : K (σ 2) μ) : x_X5_count 2 μ K := by
  obtain ⟨a1, a2, -⟩ := id h
  obtain ⟨s0, s1, s2, s3, s4, s5, s6, s7⟩ := id a1
  unfold x_X5_count
  refine ⟨fun z => absurd z (by decide), fun _ => ⟨fun z => absurd z (by decide), fun _ => ⟨fun _ => ?_, fun z => absurd rfl z⟩⟩⟩
  rw [s2]
  exact hK
theorem k_c3 (h : CI ct μ S hl σ z sl) (hK : K (mskT σ 4) μ) : x_X5_count 3 μ K := by
  obtain ⟨a1, a2, -⟩ := id h
  obtain ⟨s0, s1, s2, s3, s4, s5, s6, s7⟩ := id a1
  unfold x_X5_count
  refine ⟨fun z => absurd z (by decide), fun _ => ⟨fun z => absurd z (by decide), fun _ => ⟨fun z => absurd z (by decide), fun _ => ⟨fun _ => ?_, fun z => absurd rfl z⟩⟩⟩⟩
  exact q3_mask a1 a2 hK
theorem k_c4 (h : CI ct μ S hl σ z sl) (hK : K (mkm σ) μ) : x_X5_count 4 μ K := by
  obtain ⟨a1, a2, -⟩ := id h
  obtain ⟨s0, s1, s2, s3, s4, s5, s6, s7⟩ := id a1
  unfold x_X5_count
  refine ⟨fun z => absurd z (by decide), fun _ => ⟨fun z => absurd z (by decide), fun _ => ⟨fun z => absurd z (by decide), fun _ => ⟨fun z => absurd z (by decide), fun _ => ⟨fun _ => ?_, fun z => absurd rfl z⟩⟩⟩⟩⟩
  refine q3_sum a1 a2 ?_
  rintro _ rfl
  rw [s0]
  unfold mkm at hK
  by_cases z : mix σ ≤ σ 0
  · rw [if_pos z] at hK
    rw [if_neg (Int32.not_lt.mpr z)]
    exact hK
  · rw [if_neg z] at hK
    rw [if_pos (Int32.not_le.mp z)]
    exact hK
theorem k_c5 (h : CI ct μ S hl σ z sl) (hK : K (σ 3) μ) : x_X5_count 5 μ K := by
  obtain ⟨a1, a2, -⟩ := id h
  obtain ⟨s0, s1, s2, s3, s4, s5, s6, s7⟩ := id a1
  unfold x_X5_count
  refine ⟨fun z => absurd z (by decide), fun _ => ⟨fun z => absurd z (by decide), fun _ => ⟨fun z => absurd z (by decide), fun _ => ⟨fun z => absurd z (by decide), fun _ => ⟨fun z => absurd z (by decide), fun _ => ⟨fun _ => ?_, fun z => absurd rfl z⟩⟩⟩⟩⟩⟩
  rw [s3]
  exact hK
theorem k_c6 (h : CI ct μ S hl σ z sl) (hK : K (σ 4) μ) : x_X5_count 6 μ K := by
  obtain ⟨a1, a2, -⟩ := id h
  obtain ⟨s0, s1, s2, s3, s4, s5, s6, s7⟩ := id a1
  unfold x_X5_count
  refine ⟨fun z => absurd z (by decide), fun _ => ⟨fun z => absurd z (by decide), fun _ => ⟨fun z => absurd z (by decide), fun _ => ⟨fun z => absurd z (by decide), fun _ => ⟨fun z => absurd z (by decide), fun _ => ⟨fun z => absurd z (by decide), fun _ => ⟨fun _ => ?_, fun z => absurd rfl z⟩⟩⟩⟩⟩⟩⟩
  rw [s4]
  exact hK
theorem k_c7 (h : CI ct μ S hl σ z sl) (hK : K (arT σ 4) μ) : x_X5_count 7 μ K := by
  obtain ⟨a1, a2, -⟩ := id h
  obtain ⟨s0, s1, s2, s3, s4, s5, s6, s7⟩ := id a1
  unfold x_X5_count
  refine ⟨fun z => absurd z (by decide), fun _ => ⟨fun z => absurd z (by decide), fun _ => ⟨fun z => absurd z (by decide), fun _ => ⟨fun z => absurd z (by decide), fun _ => ⟨fun z => absurd z (by decide), fun _ => ⟨fun z => absurd z (by decide), fun _ => ⟨fun z => absurd z (by decide), fun _ => ⟨fun _ => ?_, fun z => absurd rfl z⟩⟩⟩⟩⟩⟩⟩⟩
  exact q3_together a1 a2 hK
theorem k_untilClip (h : CI ct μ S hl σ z sl) (hK : ∀ r μ', FS (fun i => ¬ mkN σ i 2 ≤ σ 2) 2000 r → CI ct μ' S hl σ z sl → K r μ') : x_X5_untilClip μ K := by
  obtain ⟨a1, a2, -⟩ := id h
  let P : Nat → Prop := fun i => ¬ mkN σ i 2 ≤ σ 2
  unfold x_X5_untilClip
  refine q3_take (by omega) a1 a2 (fun μ0 hs0 hF0 => ?_)
  have fin : ∀ μ1 r, Fr 17 33 μ μ1 → FS P 2000 r → K r μ1 := fun μ1 r hF hr => hK r μ1 hr (h.what hF)
  have loop : ∀ (k i : Nat) (μ1 : Mem), i + k = 2001 → 1 ≤ i → Snd μ1 17 (mkN σ (i - 1)) → Fr 17 33 μ μ1 → (∀ j, 1 ≤ j → j < i → ¬ P j) → x_X5_untilClip_L13 K (k + 1) (nI i) μ1 := by
    intro k
    induction k with
    | zero =>
      intro i μ1 hi hi1 hs hF hj
      obtain rfl : i = 2001 := by omega
      refine s5_uc ?_
      unfold xb_X5_untilClip_L13
      refine ⟨fun _ => fin μ1 _ hF (Or.inr ⟨fun j j1 j2 => hj j j1 (by omega), rfl⟩), fun z => absurd (nI_lt (a := 2000) (b := 2001) (by omega) (by omega)) z⟩
    | succ k ih =>
      intro i μ1 hi hi1 hs hF hj
      refine s5_uc ?_
      unfold xb_X5_untilClip_L13
      refine ⟨fun z => absurd z (nI_nlt (a := 2000) (b := i) (by omega) (by omega)), fun _ => ?_⟩
      refine q3_makeOne hs (mkN_wf a2 (i - 1) (by omega)) (by omega) (fun μ2 hs2 hF2 => ?_)
      have hs2 : Snd μ2 17 (mkN σ i) := by
        obtain ⟨j, rfl⟩ : ∃ j, i = j + 1 := ⟨i - 1, by omega⟩
        exact hs2
      have hF3 := hF.trans hF2
      rw [hs2.2.2.1, hF3 1 (by omega), a1.2.2.1]
      refine ⟨fun z => ?_, fun z => ?_⟩
      · rintro _ rfl
        rw [nI_1]
        refine ih (i + 1) μ2 (by omega) (by omega) hs2 hF3 (fun j j1 j2 => ?_)
        rcases Nat.lt_or_ge j i with w | w
        · exact hj j j1 w
        · obtain rfl : j = i := by omega
          exact fun hp => hp z
      · exact fin μ2 _ hF3 (Or.inl ⟨i, hi1, by omega, z, hj, rfl⟩)
  exact ⟨2001, loop 2000 1 μ0 (by omega) (by omega) hs0 hF0 (fun j j1 j2 => absurd j2 (by omega))⟩
theorem k_untilRound {w : Nat} (h : CI ct μ S hl σ z sl) (hw : w < 4) (hK : ∀ r μ', FS (LtP (wl σ w)) 70000 r → CI ct μ' S hl σ z sl → K r μ') : x_X5_untilRound (nI w) μ K := by
  obtain ⟨a1, a2, -⟩ := id h
  unfold x_X5_untilRound
  apply q5_wheel
  · intro _ _ _
    apply if0
    refine q3_take (by omega) a1 a2 (fun μ0 hs0 hF0 => ?_)
    rw [nI_clamp (by omega)]
    refine ⟨vp_in_nI hw (by omega), ?_⟩
    refine q4_round (ω := wl σ w) (hs0.2.2.2.2.2.2.2 w hw) (k_whl hw h) (fun r μ1 hr hfr => ?_)
    have hF : Fr 17 33 μ μ1 := hF0.trans (hfr.mono (by omega) (by omega))
    exact hK r μ1 hr (h.what hF)
  · intro z
    exact absurd rfl (z w hw)
theorem k_ifMade {c m : Nat} {v : Int32} (h : CI ct μ S hl σ z sl) (hm : σ 1 = nI m) (hm2 : m ≤ 999999) (hc1 : 1 ≤ c) (hc : c ≤ 2000) (k1 : 0 ≤ v) (k2 : v ≤ 3) (hK : ∀ r μ', ((v = 0 → r = ggT σ c) ∧ (¬ v = 0 → (v = 1 → r = leT 1000 σ c) ∧ (¬ v = 1 → (v = 2 → r = mkN σ c 2 - σ 2) ∧ (¬ v = 2 → r = lstm σ c)))) → CI ct μ' S hl σ z sl → K r μ') : x_X5_ifMade (nI c) v μ K := by
  obtain ⟨a1, a2, -⟩ := id h
  have ht := a2.tight hm (by omega)
  have hM : ∀ μ1 : Mem, Fr 17 33 μ μ1 → ∀ r, ((v = 0 → r = ggT σ c) ∧ (¬ v = 0 → (v = 1 → r = leT 1000 σ c) ∧ (¬ v = 1 → (v = 2 → r = mkN σ c 2 - σ 2) ∧ (¬ v = 2 → r = lstm σ c)))) → K r μ1 := fun μ1 hF r hr => hK r μ1 hr (h.what hF)
  unfold x_X5_ifMade
  apply q5_out
  · intro _ _
    apply if0
    apply q5_out
    · intro _ _
      apply if0
      refine q3_take (by omega) a1 a2 (fun μ0 hs0 hF0 => ?_)
      have loop : ∀ (k i : Nat) (μ1 : Mem), i + k = c → Snd μ1 17 (mkN σ i) → Fr 17 33 μ μ1 → x_X5_ifMade_L44 K (k + 1) (nI c) v (ggT σ i) (leT 960 σ i) (nI i) μ1 := by
        intro k
        induction k with
        | zero =>
          intro i μ1 hi hs hF
          obtain rfl : i = c := by omega
          refine s5_im ?_
          unfold xb_X5_ifMade_L44
          refine ⟨fun _ => ?_, fun z => absurd (Int32.le_refl _) z⟩
          rw [hs.2.2.1, hF 1 (by omega), a1.2.2.1]
          refine ⟨fun z0 => hM μ1 hF _ ⟨fun _ => rfl, fun z => absurd z0 z⟩, fun z0 => ⟨fun z1 => hM μ1 hF _ ⟨fun z => absurd z z0, fun _ => ⟨fun _ => leT_same (mkm_rg a2) i hc1, fun z => absurd z1 z⟩⟩, fun z1 => ⟨fun z2 => hM μ1 hF _ ⟨fun z => absurd z z0, fun _ => ⟨fun z => absurd z z1, fun _ => ⟨fun _ => rfl, fun z => absurd z2 z⟩⟩⟩, fun z2 => ?_⟩⟩⟩
          have hl := lst_last a2 hm (c := i) (by omega) hc1
          refine q3_ago (m := m + i) (g := 0) hs (mkN_1 hm i) (by omega) (by omega) ?_
          rw [hl.1]
          exact hM μ1 hF _ ⟨fun z => absurd z z0, fun _ => ⟨fun z => absurd z z1, fun _ => ⟨fun z => absurd z z2, fun _ => rfl⟩⟩⟩
        | succ k ih =>
          intro i μ1 hi hs hF
          refine s5_im ?_
          unfold xb_X5_ifMade_L44
          refine ⟨fun z => absurd z (nI_ge (a := i) (b := c) (by omega) (by omega)), fun _ => ?_⟩
          refine q3_makeOne hs (mkN_wf ht i (by omega)) (by omega) (fun μ2 hs2 hF2 => ?_)
          have hl := lst_last a2 hm (c := i + 1) (by omega) (by omega)
          refine q3_ago (m := m + (i + 1)) (g := 0) hs2 (mkN_1 hm (i + 1)) (by omega) (by omega) ?_
          rw [show mks (mkN σ i) (134 + (m + (i + 1) - 1 - 0) % 32) = mkm (mkN σ i) from hl.1]
          rintro _ rfl
          refine q3_ago (m := m + (i + 1)) (g := 0) hs2 (mkN_1 hm (i + 1)) (by omega) (by omega) ?_
          rw [show mks (mkN σ i) (134 + (m + (i + 1) - 1 - 0) % 32) = mkm (mkN σ i) from hl.1]
          rintro _ rfl _ rfl
          rw [nI_1]
          exact ih (i + 1) μ2 (by omega) hs2 (hF.trans hF2)
      exact ⟨c + 1, loop c 0 μ0 (by omega) hs0 hF0⟩
    · intro z
      exact absurd ⟨k1, k2⟩ z
  · intro z
    exact absurd ⟨nI_le (a := 1) (b := c) hc1 (by omega), nI_le (a := c) (b := 2000) hc (by omega)⟩ z
end KR
