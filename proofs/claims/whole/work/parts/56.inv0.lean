/-! what holds at first -/
theorem mr_a : MR 0 = 400 ∧ MR 1 = 0 ∧ MR 2 = 0 ∧ MR 3 = 0 ∧ MR 4 = 0 ∧ MR 5 = -1 := by decide +kernel
theorem mr_v : ∀ k, k < 64 → MR (6 + k) = vt 16 k := by decide +kernel
theorem mr_v2 : ∀ k, k < 64 → (0 ≤ (MR (6 + k)).toInt ∧ (MR (6 + k)).toInt ≤ 15) := by decide +kernel
theorem mr_l : ∀ k, k < 32 → MR (134 + k) = 0 := by decide +kernel
theorem mr_w : ∀ w, w < 4 → wl MR w 0 = 0 ∧ wl MR w 1 = 1024 ∧ wl MR w 2 = 0 ∧ wl MR w 3 = 8 ∧ wl MR w 4 = (if w = 0 then 1 else 0) ∧ wl MR w 5 = 0 ∧ wl MR w 6 = 0 := by decide +kernel
theorem inv_0 : Inv 512 (um MI 169 MR) := by
  have e : ∀ q, q ≠ 169 → um MI 169 MR q = MI q := fun q h => um_n h
  have e9 : um MI 169 MR 169 = MR := um_s
  have m0 : ∀ q, (q = 33 ∨ 131 ≤ q ∧ q < 134 ∨ 166 ≤ q) → MI q = fun _ => 0 := fun q h => by
    unfold MI
    rw [if_neg (by omega), if_neg (by omega), if_neg (by omega)]
  have m1 : ∀ d, d < 16 → MI (1 + d) = SM0 d := fun d h => by
    unfold MI
    rw [if_pos (by omega), show (1 + d - 1) % 16 = d by omega]
  have z5 : ∀ w, w < 4 → wl MR w 5 = 0 := fun w hw => (mr_w w hw).2.2.2.2.2.1
  obtain ⟨r0, r1, r2, r3, r4, r5⟩ := mr_a
  refine ⟨0, fun _ _ => 0, fun _ _ => 0, ?_, ?_, by omega, ⟨0, by omega, by omega, ?_, ?_, fun j hj => absurd hj (by omega)⟩, ⟨?_, fun j hj => absurd hj (by omega)⟩, fun j hj => absurd hj (by omega), fun j hj => ⟨?_, ?_, fun z => ?_⟩, ⟨0, by omega, ?_, ?_, fun k hk => absurd hk (by omega)⟩⟩
  · rw [e9]
    have s0 : um MI 169 MR 1 = SM0 0 := by rw [e _ (by omega)]; exact m1 0 (by omega)
    refine ⟨by rw [s0, r0]; rfl, by rw [s0, r1]; rfl, by rw [s0, r2]; rfl, by rw [s0, r3]; rfl, by rw [s0, r4]; rfl, fun k hk => ?_, fun k hk => ?_, fun w hw => ?_⟩
    · rw [e _ (by omega), m1 1 (by omega), mr_v k hk]; rfl
    · rw [e _ (by omega), m1 3 (by omega), mr_l k hk]; rfl
    · obtain ⟨w0, w1, w2, w3, w4, w5, w6⟩ := mr_w w hw
      have hc : um MI 169 MR (1 + 4 + 3 * w) = SM0 (4 + 3 * w) := by rw [e _ (by omega), show 1 + 4 + 3 * w = 1 + (4 + 3 * w) by omega]; exact m1 _ (by omega)
      refine ⟨?_, ?_, ?_, ?_, ?_, ?_, fun k hk => ?_, fun z => absurd w5 z⟩
      · rw [hc, w0]
        rcases (by omega : w = 0 ∨ w = 1 ∨ w = 2 ∨ w = 3) with rfl | rfl | rfl | rfl <;> rfl
      · rw [hc, w1]
        rcases (by omega : w = 0 ∨ w = 1 ∨ w = 2 ∨ w = 3) with rfl | rfl | rfl | rfl <;> rfl
      · rw [hc, w2]
        rcases (by omega : w = 0 ∨ w = 1 ∨ w = 2 ∨ w = 3) with rfl | rfl | rfl | rfl <;> rfl
      · rw [hc, w3]
        rcases (by omega : w = 0 ∨ w = 1 ∨ w = 2 ∨ w = 3) with rfl | rfl | rfl | rfl <;> rfl
      · rw [hc, w4]
        rcases (by omega : w = 0 ∨ w = 1 ∨ w = 2 ∨ w = 3) with rfl | rfl | rfl | rfl <;> rfl
      · rw [hc, w5]
        rcases (by omega : w = 0 ∨ w = 1 ∨ w = 2 ∨ w = 3) with rfl | rfl | rfl | rfl <;> rfl
      · rw [w5] at hk
        exact absurd hk (by show ¬ (k : Int) < 0; omega)
  · rw [e9]
    refine ⟨by rw [r0]; exact ⟨by decide, by decide⟩, by rw [r1]; exact ⟨by decide, by decide⟩, by rw [r1, r2]; exact ⟨by decide, by decide⟩, fun k hk => mr_v2 k hk, fun w hw => ?_, fun _ => r5, fun z => absurd r1 z⟩
    obtain ⟨w0, w1, w2, w3, w4, w5, w6⟩ := mr_w w hw
    refine ⟨by rw [w0]; exact ⟨by decide, by decide⟩, by rw [w1]; exact ⟨by decide, by decide⟩, by rw [w2]; exact ⟨by decide, by decide⟩, by rw [w3]; exact ⟨by decide, by decide⟩, ?_, by rw [w5]; exact ⟨by decide, by decide⟩, fun k hk => ?_, fun _ => w6, fun z => absurd w5 z⟩
    · rw [w4]
      by_cases h : w = 0
      · rw [if_pos h]; exact Or.inr rfl
      · rw [if_neg h]; exact Or.inl rfl
    · rw [w5] at hk
      exact absurd hk (by show ¬ (k : Int) < 0; omega)
  · rw [e _ (by omega), m0 33 (by omega)]; rfl
  · rw [e _ (by omega), m0 33 (by omega)]; rfl
  · rw [e _ (by omega), m0 168 (by omega)]; rfl
  · rw [e _ (by omega), m0 133 (by omega)]; exact Or.inl rfl
  · rw [e _ (by omega), e _ (by omega), m0 133 (by omega), m0 174 (by omega)]
  · rw [e _ (by omega), m0 133 (by omega)] at z
    exact absurd (show (0 : Int32) = 1 from z) (by decide)
  · rw [e _ (by omega), m0 166 (by omega)]; rfl
  · rw [e _ (by omega), m0 168 (by omega)]; rfl
