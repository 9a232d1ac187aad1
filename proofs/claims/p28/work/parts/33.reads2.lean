/-! reading: wheel, valueOf, sample, beat, count -/
theorem im_same {c w : Nat} {μ : Mem} {K : Int32 → Mem → Prop} {v : Int32} (h1 : μ c 1 = v) (hK : K (if 32768 < v then 65536 - v else v) μ) : x_X4_image c μ K := by
  unfold x_X4_image
  rw [h1]
  refine ⟨fun h => ?_, fun h => ?_⟩
  · rw [if_pos h] at hK; exact hK
  · rw [if_neg h] at hK; exact hK
def stT (ω : Nat → Int32) : Nat → Int32
  | 0 => 0
  | i + 1 => stT ω i + ω (9 + 2 * i)
theorem q4_take9 {c : Nat} {μ : Mem} {K : Int32 → Mem → Prop} {ω : Nat → Int32} {m : Nat} (hc : Whl μ c ω) (hm : ω 5 = nI m) (hm4 : m ≤ 4) (hz : ω 5 = 0 → ω 6 = 0) (hK : K (stT ω m - ω 6) μ) : x_X4_samplesOfSweeps c μ K := by
  obtain ⟨c0, c1, c2, c3, c4, c5, csw, cgo⟩ := hc
  have l32 : x_X4_samplesOfSweeps_L32 K c (stT ω m) μ := by
    unfold x_X4_samplesOfSweeps_L32
    rw [c5, hm]
    refine ⟨fun h => ?_, fun h => ?_⟩
    · have hm0 : m = 0 := by
        rcases Nat.eq_zero_or_pos m with z | z
        · exact z
        · exact absurd h (nI_nle z (by omega))
      subst hm0
      rw [hz hm, show stT ω 0 - 0 = 0 by show (0 : Int32) - 0 = 0; decide] at hK
      exact hK
    · have : ¬ ω 5 = 0 := by
        rw [hm]
        intro z
        exact h (by rw [z]; exact Int32.le_refl _)
      rw [(cgo this).1]
      exact hK
  have key : ∀ (k i : Nat), i + k = m → x_X4_samplesOfSweeps_L4 K (k + 1) c (stT ω i) (nI i) μ := by
    intro k
    induction k with
    | zero =>
      intro i hi
      obtain rfl : i = m := by omega
      show xb_X4_samplesOfSweeps_L4 _ _ _ _ _ _
      unfold xb_X4_samplesOfSweeps_L4
      rw [c5, hm]
      exact ⟨fun _ => l32, fun h => absurd (Int32.le_refl _) h⟩
    | succ k ih =>
      intro i hi
      show xb_X4_samplesOfSweeps_L4 _ _ _ _ _ _
      unfold xb_X4_samplesOfSweeps_L4
      rw [c5, hm]
      refine ⟨fun h => absurd h (nI_ge (a := i) (b := m) (by omega) (by omega)), fun _ => ⟨fun h => absurd h (nI_ge (a := i) (b := 4) (by omega) (by omega)), fun _ => ?_⟩⟩
      simp (disch := omega) only [nI_clamp, vp_nI, true_and]
      rintro _ rfl _ rfl
      rw [(csw i (by rw [hm, nI_toInt (by omega)]; omega)).2, nI_1]
      exact ih (i + 1) (by omega)
  unfold x_X4_samplesOfSweeps
  exact ⟨m + 1, key m 0 (by omega)⟩
