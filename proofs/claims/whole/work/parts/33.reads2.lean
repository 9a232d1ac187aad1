/-! reading: wheel, valueOf, sample, beat, count -/
theorem im_same {c w : Nat} {μ : Mem} {K : Int32 → Mem → Prop} {v : Int32} (h1 : μ c 1 = v) (hK : K (if 32768 < v then 65536 - v else v) μ) : x_X4_image c μ K := by
  unfold x_X4_image
  rw [h1]
  refine ⟨fun h => ?_, fun h => ?_⟩
  · rw [if_pos h] at hK; exact hK
  · rw [if_neg h] at hK; exact hK
theorem q6_image {μ : Mem} {K : Int32 → Mem → Prop} {v : Int32} (hK : K (if 32768 < v then 65536 - v else v) μ) : x_X6_image v μ K := by
  unfold x_X6_image
  refine ⟨fun h => ?_, fun h => ?_⟩
  · rw [if_pos h] at hK; exact hK
  · rw [if_neg h] at hK; exact hK
def stT (ω : Nat → Int32) : Nat → Int32
  | 0 => 0
  | i + 1 => stT ω i + ω (9 + 2 * i)
theorem q4_take9 {c : Nat} {μ : Mem} {K : Int32 → Mem → Prop} {ω : Nat → Int32} {m : Nat} (hc : Whl μ c ω) (hm : ω 5 = nI m) (hm4 : m ≤ 4) (hz : ω 5 = 0 → ω 6 = 0) (hK : K (stT ω m - ω 6) μ) : x_X4_samplesOfSweeps c μ K := by
  obtain ⟨c0, c1, c2, c3, c4, c5, csw, cgo⟩ := hc
  have l32 : x_X4_samplesOfSweeps_L32 K c (stT ω m) μ := by
    unfold x_X4_samplesOfSweeps_L32
    rw [c5, hm]
    refine ⟨fun h => ?_, fun h => ?_⟩
    · have hm0 : m = 0 := by
        rcases Nat.eq_zero_or_pos m with z | z
        · exact z
        · exact absurd h (nI_nle z (by omega))
      subst hm0
      rw [hz hm, show stT ω 0 - 0 = 0 by show (0 : Int32) - 0 = 0; decide] at hK
      exact hK
    · have : ¬ ω 5 = 0 := by
        rw [hm]
        intro z
        exact h (by rw [z]; exact Int32.le_refl _)
      rw [(cgo this).1]
      exact hK
  have key : ∀ (k i : Nat), i + k = m → x_X4_samplesOfSweeps_L4 K (k + 1) c (stT ω i) (nI i) μ := by
    intro k
    induction k with
    | zero =>
      intro i hi
      obtain rfl : i = m := by omega
      show xb_X4_samplesOfSweeps_L4 _ _ _ _ _ _
      unfold xb_X4_samplesOfSweeps_L4
      rw [c5, hm]
      exact ⟨fun _ => l32, fun h => absurd (Int32.le_refl _) h⟩
    | succ k ih =>
      intro i hi
      show xb_X4_samplesOfSweeps_L4 _ _ _ _ _ _
      unfold xb_X4_samplesOfSweeps_L4
      rw [c5, hm]
      refine ⟨fun h => absurd h (nI_ge (a := i) (b := m) (by omega) (by omega)), fun _ => ⟨fun h => absurd h (nI_ge (a := i) (b := 4) (by omega) (by omega)), fun _ => ?_⟩⟩
      simp (disch := omega) only [nI_clamp, vp_nI, true_and]
      rintro _ rfl _ rfl
      rw [(csw i (by rw [hm, nI_toInt (by omega)]; omega)).2, nI_1]
      exact ih (i + 1) (by omega)
  unfold x_X4_samplesOfSweeps
  exact ⟨m + 1, key m 0 (by omega)⟩
theorem q6_take9 {w m : Nat} {μ : Mem} {K : Int32 → Mem → Prop} (hw : w < 4) (hm : wl (μ 169) w 5 = nI m) (hm4 : m ≤ 4) (hK : K (stT (wl (μ 169) w) m - wl (μ 169) w 6) μ) : x_X6_sweepsTake (nI w) μ K := by
  obtain ⟨q, hq⟩ : ∃ q, q = 70 + 16 * w := ⟨_, rfl⟩
  have key : ∀ (k i : Nat), i + k = m → x_X6_sweepsTake_L19 K (k + 1) (nI q) (stT (wl (μ 169) w) i - wl (μ 169) w 6) (nI i) μ := by
    intro k
    induction k with
    | zero =>
      intro i hi
      obtain rfl : i = m := by omega
      show xb_X6_sweepsTake_L19 _ _ _ _ _ _
      unfold xb_X6_sweepsTake_L19
      rw [n_5, nI_add]
      refine ⟨vp_in_nI (by omega) (by omega), ?_⟩
      rw [nI_clamp (by omega), hq, show μ 169 (70 + 16 * w + 5) = nI i from hm]
      exact ⟨fun _ => hK, fun h => absurd (Int32.le_refl _) h⟩
    | succ k ih =>
      intro i hi
      show xb_X6_sweepsTake_L19 _ _ _ _ _ _
      unfold xb_X6_sweepsTake_L19
      rw [n_5, nI_add]
      refine ⟨vp_in_nI (by omega) (by omega), ?_⟩
      rw [nI_clamp (by omega), hq, show μ 169 (70 + 16 * w + 5) = nI m from hm]
      refine ⟨fun h => absurd h (nI_ge (a := i) (b := m) (by omega) (by omega)), fun _ => ?_⟩
      rw [n_8, n_2, n_1, pk_mul, nI_add, nI_add, nI_add]
      simp (disch := omega) only [nI_clamp, vp_nI, true_and]
      rintro _ rfl _ rfl
      have := ih (i + 1) (by omega)
      unfold stT at this
      rw [nI_add]
      rw [hq] at this
      refine Eq.mp (congrArg (fun z => x_X6_sweepsTake_L19 K (k + 1) (nI (70 + 16 * w)) z (nI (i + 1)) μ) ?_) this
      have e : wl (μ 169) w (9 + 2 * i) = μ 169 (70 + 16 * w + 8 + 2 * i + 1) := by
        show μ 169 (70 + 16 * w + (9 + 2 * i)) = _
        congr 1
        omega
      rw [e, Int32.sub_eq_add_neg, Int32.sub_eq_add_neg, Int32.add_assoc, Int32.add_assoc, Int32.add_comm (μ 169 _)]
  unfold x_X6_sweepsTake
  apply q6_w
  rw [n_6, nI_add]
  refine ⟨vp_in_nI (by omega) (by omega), ?_⟩
  rw [nI_clamp (by omega)]
  rintro _ rfl
  refine ⟨m + 1, ?_⟩
  have := key m 0 (by omega)
  rw [← hq]
  refine Eq.mp (congrArg (fun z => x_X6_sweepsTake_L19 K (m + 1) (nI q) z (nI 0) μ) ?_) this
  show 0 - wl (μ 169) w 6 = -(μ 169 (q + 6))
  rw [Int32.zero_sub, hq]
  rfl
theorem op_wheel {ct : Nat} {μ : Mem} {a v : Int32} (h : Inv ct μ) : x_X5_wheel a v μ (fun r μ1 => x_X6_wheel a v μ1 (fun r' μ2 => r = r' ∧ Inv ct μ2)) := by
  obtain ⟨S, hl, sl, hx⟩ := id h
  obtain ⟨a1, a2, a3, a4, a5, a6, a7, a8⟩ := id hx
  unfold x_X5_wheel
  apply q5_wheel
  · rintro w hw rfl
    apply if0
    rw [nI_clamp (by omega)]
    refine ⟨vp_in_nI hw (by omega), ?_⟩
    have hcw : Whl μ (5 + 3 * w) (wl (μ 169) w) := a1.2.2.2.2.2.2.2 w hw
    have hfw := a2.2.2.2.2.1 w hw
    obtain ⟨c0, c1, c2, c3, c4, c5, csw, cgo⟩ := id hcw
    obtain ⟨w0, w1, w2, w3, w4, w5, wsw, wz, wgo⟩ := id hfw
    obtain ⟨st, hst, est⟩ := rg_nI (n := 65535) w1
    obtain ⟨m, hm, em⟩ := rg_nI (n := 4) w5
    have lo : ∀ (j : Nat) (r : Int32), j ≤ 5 → r = wl (μ 169) w j → x_X6_wheel (nI w) (nI j) μ (fun r' μ2 => r = r' ∧ Inv ct μ2) := by
      intro j r hj hr
      unfold x_X6_wheel
      apply i6_one hw
      apply if1
      apply q6_w
      apply i6_in (nI_pos' (by omega)) (nI_le (a := j) (b := 5) hj (by omega))
      apply if1
      rw [nI_add]
      refine ⟨vp_in_nI (by omega) (by omega), ?_⟩
      rw [nI_clamp (by omega)]
      exact ⟨hr, h⟩
    have st2 : ∀ (v : Int32) (K : Int32 → Mem → Prop), ¬ (0 ≤ v ∧ v ≤ 5) → (∀ hh : True, ((v = 6 → x_X6_gives (nI w) μ (fun r11 μ10 => K r11 μ10)) ∧ (¬ (v = 6) → (v = 7 → vp_in (nI (70 + 16 * w) + 1) 166 ∧ x_X6_image (μ 169 (nI (70 + 16 * w) + 1).toNatClampNeg) μ (fun r15 μ14 => K r15 μ14)) ∧ (¬ (v = 7) → (v = 8 → vp_in (nI (70 + 16 * w) + 1) 166 ∧ x_X6_around (μ 169 (nI (70 + 16 * w) + 1).toNatClampNeg) μ (fun r19 μ18 => K r19 μ18)) ∧ (¬ (v = 8) → (v = 9 → x_X6_sweepsTake (nI w) μ (fun r22 μ21 => K r22 μ21)) ∧ (¬ (v = 9) → (v = 10 → vp_in (nI (70 + 16 * w) + 5) 166 ∧ ((μ 169 (nI (70 + 16 * w) + 5).toNatClampNeg) = 0 → vp_in (nI (70 + 16 * w) + 1) 166 ∧ K (μ 169 (nI (70 + 16 * w) + 1).toNatClampNeg) μ) ∧ (¬ ((μ 169 (nI (70 + 16 * w) + 5).toNatClampNeg) = 0) → vp_in (nI (70 + 16 * w) + 5) 166 ∧ vp_in (((nI (70 + 16 * w) + 8) + ((2 : Int32) * (μ 169 (nI (70 + 16 * w) + 5).toNatClampNeg))) - 2) 166 ∧ K (μ 169 (((nI (70 + 16 * w) + 8) + ((2 : Int32) * (μ 169 (nI (70 + 16 * w) + 5).toNatClampNeg))) - 2).toNatClampNeg) μ)) ∧ (¬ (v = 10) → K (-2) μ))))))) → x_X6_wheel (nI w) v μ K := by
      intro v K hv hk
      unfold x_X6_wheel
      apply i6_one hw
      apply if1
      apply q6_w
      apply i6_out hv
      exact if0 (hk trivial)
    have e1 : nI (70 + 16 * w) + 1 = nI (70 + 16 * w + 1) := by rw [n_1, nI_add]
    have v1 : vp_in (nI (70 + 16 * w) + 1) 166 := by rw [e1]; exact vp_in_nI (by omega) (by omega)
    have s1 : μ 169 (nI (70 + 16 * w) + 1).toNatClampNeg = wl (μ 169) w 1 := by rw [e1, nI_clamp (by omega)]; rfl
    have e5 : nI (70 + 16 * w) + 5 = nI (70 + 16 * w + 5) := by rw [n_5, nI_add]
    have v5 : vp_in (nI (70 + 16 * w) + 5) 166 := by rw [e5]; exact vp_in_nI (by omega) (by omega)
    have s5 : μ 169 (nI (70 + 16 * w) + 5).toNatClampNeg = nI m := by rw [e5, nI_clamp (by omega)]; exact em
    refine ⟨fun e => ?_, fun n0 => ⟨fun e => ?_, fun n1 => ⟨fun e => ?_, fun n2 => ⟨fun e => ?_, fun n3 => ⟨fun e => ?_, fun n4 => ⟨fun e => ?_, fun n5 => ⟨fun e => ?_, fun n6 => ⟨fun e => ?_, fun n7 => ⟨fun e => ?_, fun n8 => ⟨fun e => ?_, fun n9 => ⟨fun e => ?_, fun n10 => ?_⟩⟩⟩⟩⟩⟩⟩⟩⟩⟩⟩
    · subst e; exact lo 0 _ (by omega) c0
    · subst e; exact lo 1 _ (by omega) c1
    · subst e; exact lo 2 _ (by omega) c2
    · subst e; exact lo 3 _ (by omega) c3
    · subst e
      rw [c4]
      refine ⟨fun z => lo 4 _ (by omega) z.symm, fun z => lo 4 _ (by omega) (w4.resolve_left z).symm⟩
    · subst e; exact lo 5 _ (by omega) c5
    · subst e
      refine q3_value (o := 1) hw a1 a2 ?_
      refine st2 _ _ (by decide) (fun _ => ⟨fun _ => ?_, fun z => absurd rfl z⟩)
      exact q6_gives hw hfw ⟨rfl, h⟩
    · subst e
      refine im_same (w := w) c1 ?_
      refine st2 _ _ (by decide) (fun _ => ⟨fun z => absurd z (by decide), fun _ => ⟨fun _ => ⟨v1, ?_⟩, fun z => absurd rfl z⟩⟩)
      rw [s1]
      exact q6_image ⟨rfl, h⟩
    · subst e
      refine q4_around (c1.trans est) (by omega) ?_
      refine st2 _ _ (by decide) (fun _ => ⟨fun z => absurd z (by decide), fun _ => ⟨fun z => absurd z (by decide), fun _ => ⟨fun _ => ⟨v1, ?_⟩, fun z => absurd rfl z⟩⟩⟩)
      rw [s1, est]
      exact q6_around (by omega) ⟨rfl, h⟩
    · subst e
      refine q4_take9 hcw em hm wz ?_
      refine st2 _ _ (by decide) (fun _ => ⟨fun z => absurd z (by decide), fun _ => ⟨fun z => absurd z (by decide), fun _ => ⟨fun z => absurd z (by decide), fun _ => ⟨fun _ => ?_, fun z => absurd rfl z⟩⟩⟩⟩)
      exact q6_take9 hw em hm ⟨rfl, h⟩
    · subst e
      unfold x_X4_lastStep
      rw [c5, em]
      refine ⟨fun hle => ?_, fun hgt => ⟨fun z => absurd z (nI_nlt (a := 4) (b := m) hm (by omega)), fun _ => ?_⟩⟩
      · have hm0 : m = 0 := by
          rcases Nat.eq_zero_or_pos m with z | z
          · exact z
          · exact absurd hle (nI_nle z (by omega))
        refine st2 _ _ (by decide) (fun _ => ⟨fun z => absurd z (by decide), fun _ => ⟨fun z => absurd z (by decide), fun _ => ⟨fun z => absurd z (by decide), fun _ => ⟨fun z => absurd z (by decide), fun _ => ⟨fun _ => ⟨v5, ?_⟩, fun z => absurd rfl z⟩⟩⟩⟩⟩)
        rw [s5, hm0, s1]
        exact ⟨fun _ => ⟨v1, c1, h⟩, fun z => absurd rfl z⟩
      · have hm0 : 0 < m := by
          rcases Nat.eq_zero_or_pos m with z | z
          · exact absurd (by rw [z]; exact Int32.le_refl _) hgt
          · exact z
        rw [n_1, pk_sub (by omega)]
        refine ⟨vp_in_nI (by omega) (by omega), ?_⟩
        rw [nI_clamp (by omega), (csw (m - 1) (by rw [em, nI_toInt (by omega)]; omega)).1]
        refine st2 _ _ (by decide) (fun _ => ⟨fun z => absurd z (by decide), fun _ => ⟨fun z => absurd z (by decide), fun _ => ⟨fun z => absurd z (by decide), fun _ => ⟨fun z => absurd z (by decide), fun _ => ⟨fun _ => ⟨v5, ?_⟩, fun z => absurd rfl z⟩⟩⟩⟩⟩)
        rw [s5]
        refine ⟨fun z => absurd z (nI_ne0 hm0 (by omega)), fun _ => ⟨v5, ?_⟩⟩
        rw [n_8, n_2, pk_mul, nI_add, nI_add, pk_sub (by omega)]
        refine ⟨vp_in_nI (by omega) (by omega), ?_⟩
        rw [nI_clamp (by omega)]
        refine ⟨?_, h⟩
        show μ 169 (70 + 16 * w + (8 + 2 * (m - 1))) = _
        congr 1
        omega
    · refine st2 _ _ (fun z => ?_) (fun _ => ⟨fun z => absurd z n6, fun _ => ⟨fun z => absurd z n7, fun _ => ⟨fun z => absurd z n8, fun _ => ⟨fun z => absurd z n9, fun _ => ⟨fun z => absurd z n10, fun _ => ⟨rfl, h⟩⟩⟩⟩⟩⟩)
      obtain ⟨j, hj, ej⟩ := lim_of (n := 5) rfl z.1 z.2
      match j, hj with
      | 0, _ => exact n0 ej
      | 1, _ => exact n1 ej
      | 2, _ => exact n2 ej
      | 3, _ => exact n3 ej
      | 4, _ => exact n4 ej
      | 5, _ => exact n5 ej
      | j + 6, hj => omega
  · intro hv
    apply if1
    unfold x_X6_wheel
    apply i6_no hv
    exact if0 ⟨rfl, h⟩
theorem op_valueOf {ct : Nat} {μ : Mem} {a v : Int32} (h : Inv ct μ) : x_X5_valueOf a v μ (fun r μ1 => x_X6_valueOf a v μ1 (fun r' μ2 => r = r' ∧ Inv ct μ2)) := by
  obtain ⟨S, hl, sl, hx⟩ := id h
  obtain ⟨a1, a2, a3, a4, a5, a6, a7, a8⟩ := id hx
  unfold x_X5_valueOf
  apply q5_table
  · rintro t ht rfl
    apply if0
    apply q5_place
    · rintro p hp rfl
      apply if0
      rw [n_16, pk_mul, nI_add]
      refine ⟨vp_in_nI (by omega) (by omega), ?_⟩
      rw [nI_clamp (by omega), show μ 2 (t * 16 + p) = μ 169 (6 + (t * 16 + p)) from a1.2.2.2.2.2.1 _ (by omega)]
      unfold x_X6_valueOf
      apply i6_one ht
      apply if1
      apply i6_in (nI_pos' (by omega)) (nI_le (a := p) (b := 15) (by omega) (by omega))
      apply if1
      rw [n_6, n_16, pk_mul, nI_add, nI_add]
      refine ⟨vp_in_nI (by omega) (by omega), ?_⟩
      rw [nI_clamp (by omega), show 6 + 16 * t + p = 6 + (t * 16 + p) by omega]
      exact ⟨rfl, h⟩
    · intro hp
      apply if1
      unfold x_X6_valueOf
      apply i6_one ht
      apply if1
      apply q6_in
      · intro b1 b2
        obtain ⟨w, hw, e⟩ := lim_of (n := 15) rfl b1 b2
        exact absurd e (hp w (by omega))
      · intro _
        exact if0 ⟨rfl, h⟩
  · intro hv
    apply if1
    unfold x_X6_valueOf
    apply i6_no hv
    exact if0 ⟨rfl, h⟩
theorem op_sample {ct : Nat} {μ : Mem} {a : Int32} (h : Inv ct μ) : x_X5_sample a μ (fun r μ1 => x_X6_sample a μ1 (fun r' μ2 => r = r' ∧ Inv ct μ2)) := by
  obtain ⟨S, hl, sl, hx⟩ := id h
  obtain ⟨a1, a2, a3, a4, a5, a6, a7, a8⟩ := id hx
  obtain ⟨m, hm, hm2⟩ := a2.made (by omega)
  unfold x_X5_sample
  apply q5_out
  · intro l1 l2
    apply if0
    obtain ⟨g, hg, rfl⟩ := rg_nI (n := 31) (rg_le (a := 0) (b := 31) rfl rfl l1 l2)
    rw [show μ 1 3 = nI m from a1.2.1.trans hm]
    have i1 : ∀ K : Int32 → Mem → Prop, ((μ 169 1 ≤ nI g → K (-6) μ) ∧ (¬ (μ 169 1 ≤ nI g) → vp_in ((134 : Int32) + ((((μ 169 1) - 1) - nI g) - (((μ 169 1) - 1) - nI g) / 32 * 32)) 166 ∧ K (μ 169 ((134 : Int32) + ((((μ 169 1) - 1) - nI g) - (((μ 169 1) - 1) - nI g) / 32 * 32)).toNatClampNeg) μ)) → x_X6_sample (nI g) μ K := by
      intro K hk
      unfold x_X6_sample
      apply i6_in l1 l2
      exact if1 hk
    refine ⟨fun hle => ?_, fun hgt => ?_⟩
    · apply i1
      rw [hm]
      exact ⟨fun _ => ⟨rfl, h⟩, fun z => absurd hle z⟩
    · have hlt : g < m := by
        rcases Nat.lt_or_ge g m with z | z
        · exact z
        · exact absurd (nI_le z (by omega)) hgt
      refine q3_ago (m := m) a1 hm (by omega) hlt ?_
      apply i1
      rw [hm]
      refine ⟨fun z => absurd z hgt, fun _ => ?_⟩
      have hmod : (m - 1 - g) % 32 < 32 := Nat.mod_lt _ (by omega)
      rw [n_1, pk_sub (by omega), pk_sub (by omega), n_32, pk_rem (a := m - 1 - g) (d := 32) (by omega) (by omega) (by omega), n_134, nI_add]
      refine ⟨vp_in_nI (by omega) (by omega), ?_⟩
      rw [nI_clamp (by omega)]
      exact ⟨rfl, h⟩
  · intro l
    apply if1
    unfold x_X6_sample
    apply i6_out l
    exact if0 ⟨rfl, h⟩
theorem op_beat {ct : Nat} {μ : Mem} {a b : Int32} (h : Inv ct μ) : x_X5_beat a b μ (fun r μ1 => x_X6_beat a b μ1 (fun r' μ2 => r = r' ∧ Inv ct μ2)) := by
  obtain ⟨S, hl, sl, hx⟩ := id h
  obtain ⟨a1, a2, a3, a4, a5, a6, a7, a8⟩ := id hx
  unfold x_X5_beat
  apply q5_wheel
  · rintro w hw rfl
    apply if0
    apply q5_wheel
    · rintro u hu rfl
      apply if0
      rw [nI_clamp (by omega), nI_clamp (by omega)]
      refine ⟨vp_in_nI hw (by omega), ?_⟩
      refine im_same (w := w) (v := wl (μ 169) w 1) (a1.2.2.2.2.2.2.2 w hw).2.1 ?_
      refine ⟨vp_in_nI hu (by omega), ?_⟩
      refine im_same (w := u) (v := wl (μ 169) u 1) (a1.2.2.2.2.2.2.2 u hu).2.1 ?_
      rintro _ rfl
      unfold x_X6_beat
      apply i6_one hw
      apply if1
      apply i6_one hu
      apply if1
      apply q6_w
      rw [n_1, nI_add]
      refine ⟨vp_in_nI (by omega) (by omega), ?_⟩
      rw [nI_clamp (by omega), show μ 169 (70 + 16 * w + 1) = wl (μ 169) w 1 from rfl]
      apply q6_image
      apply q6_w
      rw [nI_add]
      refine ⟨vp_in_nI (by omega) (by omega), ?_⟩
      rw [nI_clamp (by omega), show μ 169 (70 + 16 * u + 1) = wl (μ 169) u 1 from rfl]
      apply q6_image
      rintro _ rfl
      refine ⟨fun z => ⟨if_pos z, h⟩, fun z => ⟨(if_neg z).trans (Int32.zero_sub _), h⟩⟩
    · intro hu
      apply if1
      unfold x_X6_beat
      apply i6_one hw
      apply if1
      apply i6_no hu
      exact if0 ⟨rfl, h⟩
  · intro hv
    apply if1
    unfold x_X6_beat
    apply i6_no hv
    exact if0 ⟨rfl, h⟩
theorem op_count {ct : Nat} {μ : Mem} {v : Int32} (h : Inv ct μ) : x_X5_count v μ (fun r μ1 => x_X6_count v μ1 (fun r' μ2 => r = r' ∧ Inv ct μ2)) := by
  obtain ⟨S, hl, sl, hx⟩ := id h
  obtain ⟨a1, a2, a3, a4, a5, a6, a7, a8⟩ := id hx
  obtain ⟨s0, s1, s2, s3, s4, s5, s6, s7⟩ := id a1
  obtain ⟨np, np60, p1, p2, p3⟩ := id a8
  obtain ⟨nx, hnx, hSn, x1, x2, x3⟩ := id a4
  unfold x_X5_count
  have lo : ∀ (j : Nat) (r : Int32), j < 3 → r = μ 169 j → x_X6_count (nI j) μ (fun r' μ2 => r = r' ∧ Inv ct μ2) := by
    intro j r hj hr
    have hv : vp_in (nI j) 166 ∧ r = μ 169 (nI j).toNatClampNeg ∧ Inv ct μ := ⟨vp_in_nI (by omega) (by omega), by rw [nI_clamp (by omega)]; exact hr, h⟩
    unfold x_X6_count
    match j, hj with
    | 0, _ => exact ⟨fun _ => hv, fun z => absurd rfl z⟩
    | 1, _ => exact ⟨fun _ => hv, fun _ => ⟨fun _ => hv, fun z => absurd rfl z⟩⟩
    | 2, _ => exact ⟨fun _ => hv, fun _ => ⟨fun _ => hv, fun _ => ⟨fun _ => hv, fun z => absurd rfl z⟩⟩⟩
    | j + 3, hj => omega
  refine ⟨fun e => ?_, fun n0 => ⟨fun e => ?_, fun n1 => ⟨fun e => ?_, fun n2 => ⟨fun e => ?_, fun n3 => ⟨fun e => ?_, fun n4 => ⟨fun e => ?_, fun n5 => ⟨fun e => ?_, fun n6 => ⟨fun e => ?_, fun n7 => ⟨fun e => ?_, fun n8 => ⟨fun e => ?_, fun n9 => ?_⟩⟩⟩⟩⟩⟩⟩⟩⟩⟩
  · subst e; exact lo 0 _ (by omega) s0
  · subst e; exact lo 1 _ (by omega) s1
  · subst e; exact lo 2 _ (by omega) s2
  · subst e
    refine q3_mask a1 a2 ?_
    unfold x_X6_count
    refine ⟨fun z => absurd z (by decide), fun _ => ⟨fun z => absurd z (by decide), fun _ => ⟨fun z => absurd z (by decide), fun _ => ⟨fun _ => ?_, fun z => absurd rfl z⟩⟩⟩⟩
    exact q6_onWheels ⟨rfl, h⟩
  · subst e
    refine q3_sum a1 a2 ?_
    rintro _ rfl
    rw [s0]
    unfold x_X6_count
    refine ⟨fun z => absurd z (by decide), fun _ => ⟨fun z => absurd z (by decide), fun _ => ⟨fun z => absurd z (by decide), fun _ => ⟨fun z => absurd z (by decide), fun _ => ⟨fun _ => ?_, fun z => absurd rfl z⟩⟩⟩⟩⟩
    refine q6_mix a2 ⟨fun hle => ?_, fun hgt => ?_⟩
    · exact q6_mix a2 ⟨if_neg (Int32.not_lt.mpr hle), h⟩
    · exact ⟨if_pos (Int32.not_le.mp hgt), h⟩
  · subst e
    unfold x_X6_count
    exact ⟨fun z => absurd z (by decide), fun _ => ⟨fun z => absurd z (by decide), fun _ => ⟨fun z => absurd z (by decide), fun _ => ⟨fun z => absurd z (by decide), fun _ => ⟨fun z => absurd z (by decide), fun _ => ⟨fun _ => ⟨s3, h⟩, fun z => absurd rfl z⟩⟩⟩⟩⟩⟩
  · subst e
    unfold x_X6_count
    exact ⟨fun z => absurd z (by decide), fun _ => ⟨fun z => absurd z (by decide), fun _ => ⟨fun z => absurd z (by decide), fun _ => ⟨fun z => absurd z (by decide), fun _ => ⟨fun z => absurd z (by decide), fun _ => ⟨fun z => absurd z (by decide), fun _ => ⟨fun _ => ⟨s4, h⟩, fun z => absurd rfl z⟩⟩⟩⟩⟩⟩⟩
  · subst e
    refine q3_together a1 a2 ?_
    unfold x_X6_count
    refine ⟨fun z => absurd z (by decide), fun _ => ⟨fun z => absurd z (by decide), fun _ => ⟨fun z => absurd z (by decide), fun _ => ⟨fun z => absurd z (by decide), fun _ => ⟨fun z => absurd z (by decide), fun _ => ⟨fun z => absurd z (by decide), fun _ => ⟨fun z => absurd z (by decide), fun _ => ⟨fun _ => ?_, fun z => absurd rfl z⟩⟩⟩⟩⟩⟩⟩⟩
    exact q6_together a2 ⟨rfl, h⟩
  · subst e
    unfold x_X6_count
    exact ⟨fun z => absurd z (by decide), fun _ => ⟨fun z => absurd z (by decide), fun _ => ⟨fun z => absurd z (by decide), fun _ => ⟨fun z => absurd z (by decide), fun _ => ⟨fun z => absurd z (by decide), fun _ => ⟨fun z => absurd z (by decide), fun _ => ⟨fun z => absurd z (by decide), fun _ => ⟨fun z => absurd z (by decide), fun _ => ⟨fun _ => ⟨p1.trans p2.symm, h⟩, fun z => absurd rfl z⟩⟩⟩⟩⟩⟩⟩⟩⟩
  · subst e
    unfold x_X6_count
    exact ⟨fun z => absurd z (by decide), fun _ => ⟨fun z => absurd z (by decide), fun _ => ⟨fun z => absurd z (by decide), fun _ => ⟨fun z => absurd z (by decide), fun _ => ⟨fun z => absurd z (by decide), fun _ => ⟨fun z => absurd z (by decide), fun _ => ⟨fun z => absurd z (by decide), fun _ => ⟨fun z => absurd z (by decide), fun _ => ⟨fun z => absurd z (by decide), fun _ => ⟨fun _ => ⟨x2.trans a5.1.symm, h⟩, fun z => absurd rfl z⟩⟩⟩⟩⟩⟩⟩⟩⟩⟩
  · unfold x_X6_count
    exact ⟨fun z => absurd z n0, fun _ => ⟨fun z => absurd z n1, fun _ => ⟨fun z => absurd z n2, fun _ => ⟨fun z => absurd z n3, fun _ => ⟨fun z => absurd z n4, fun _ => ⟨fun z => absurd z n5, fun _ => ⟨fun z => absurd z n6, fun _ => ⟨fun z => absurd z n7, fun _ => ⟨fun z => absurd z n8, fun _ => ⟨fun z => absurd z n9, fun _ => ⟨rfl, h⟩⟩⟩⟩⟩⟩⟩⟩⟩⟩⟩
