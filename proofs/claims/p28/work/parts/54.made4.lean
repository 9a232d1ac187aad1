/-! the object is made -/
abbrev rm_X5_init : Room := { frames := 4, cells := 167, slots := 1882, locals := 140 }
theorem fw_X5_init5 : ∀ w ∈ wsX50, w ∈ wsX5_init := by decide +kernel
theorem fw_X5_init3 : ∀ w ∈ wsX30, w ∈ wsX5_init := by decide +kernel
theorem fw_X5_init0 : ∀ w ∈ wsX00, w ∈ wsX5_init := by decide +kernel
theorem fw_X5_init2 : ∀ w ∈ wsX20, w ∈ wsX5_init := by decide +kernel
theorem fw_X5_init1 : ∀ w ∈ wsX10, w ∈ wsX5_init := by decide +kernel
theorem hfs0 : ∀ j, j < 3 → defaultValue (tyX0 j) = vp_V [.null, .int 0, .int 0] j := fun j hj => by rcases (by omega : j = 0 ∨ j = 1 ∨ j = 2) with rfl | rfl | rfl <;> rfl
theorem hfs2 : ∀ j, j < 2 → defaultValue (tyX2 j) = vp_V [.null, .null] j := fun j hj => by rcases (by omega : j = 0 ∨ j = 1) with rfl | rfl <;> rfl
theorem hfs1 : ∀ j, j < 7 → defaultValue (tyX1 j) = vp_V [.null, .int 0, .int 0, .int 0, .int 0, .int 0, .int 0] j := fun j hj => by rcases (by omega : j = 0 ∨ j = 1 ∨ j = 2 ∨ j = 3 ∨ j = 4 ∨ j = 5 ∨ j = 6) with rfl | rfl | rfl | rfl | rfl | rfl | rfl <;> rfl
def Post5 (Y : Nat → ClassId) (ad : Nat → Nat) : (Nat → Nat) → (Nat → va_E) → Prop := fun ad' fw' => ag 1 ad ad' ∧ BK Y 168 0 168 ad' fw'
theorem c_X5_init {l : Launch} {D : va_G} {Y : Nat → ClassId} {b : Nat} {ad : Nat → Nat} {fw : Nat → va_E} (hf : fw 0 = .inr (5, [.null, .null, .null, .null, .null])) : ConG l yX5_init wsX5_init rm_X5_init [.ref (ad 0)] D Y b 1 ad fw 168 (Post5 Y ad) := by
  refine conG_of (cc := cX5_init) (maxL := 1) (own := RX5) [.ref (ad 0)] (by decide +kernel) rfl rfl (Nat.le_of_ble_eq_true rfl) (fun p e s m args below meth c C0 hlk hret hnm => ?_)
  obtain ⟨x, hx⟩ : ∃ x, x = ad 0 := ⟨_, rfl⟩
  show G p l e rm_X5_init s m args below meth c D b 0 0 1 _ 0 [(0, .ref (ad 0))] [] 1 ad fw
  rw [← hx]
  have l59 : ∀ (ad1 : Nat → Nat) (fw1 : Nat → va_E), ag 1 ad ad1 → fw1 0 = .inr (5, [.ref (ad1 1), .ref (ad1 17), .ref (ad1 33), .ref (ad1 131), .ref (ad1 166)]) → BK Y 168 1 168 ad1 fw1 → G p l e rm_X5_init s m args below meth c D b 167 1882 1 (MQ below (QG D b 168 (Post5 Y ad)) args s 167 1882 (AB b)) 59 [(0, .ref x)] [] 168 ad1 fw1 := by
    intro ad1 fw1 h1 h2 h3
    refine g_vret C0 hlk hret dX5_init_59 ⟨h1, BK.ap (mi := 1) (fun adF hF q q1 q2 => ?_) h3⟩
    obtain rfl : q = 0 := by omega
    rw [h2, ce5 rfl]
    refine Lk.of ?_
    unfold fs5
    rw [hF _ (by omega), hF _ (by omega), hF _ (by omega), hF _ (by omega), hF _ (by omega)]
  have l48 : ∀ (ad1 : Nat → Nat) (fw1 : Nat → va_E), ag 1 ad ad1 → fw1 0 = .inr (5, [.ref (ad1 1), .ref (ad1 17), .ref (ad1 33), .ref (ad1 131), .null]) → BK Y 166 1 166 ad1 fw1 → G p l e rm_X5_init s m args below meth c D b 165 1815 1 (MQ below (QG D b 168 (Post5 Y ad)) args s 167 1882 (AB b)) 48 [(0, .ref x)] [] 166 ad1 fw1 := by
    intro ad1 fw1 h1 h2 h3
    have hxa : ad1 0 = x := by rw [h1 0 (by omega), hx]
    refine g_aload_n C0 0 dX5_init_48 rfl rfl rfl ?_
    refine g_new C0 (ci := 1) (N := 7) (C := RX1) (T := TX1) (Ft := tyX1) [.null, .int 0, .int 0, .int 0, .int 0, .int 0, .int 0] fw_X5_init1 tyX1_ok (by decide +kernel) (by decide +kernel) (by decide +kernel) rfl hfs1 ⟨Nat.le_of_ble_eq_true rfl, Nat.le_of_ble_eq_true rfl⟩ dX5_init_49 rfl (fun q1 => ?_)
    refine g_dup C0 dX5_init_52 rfl rfl ?_
    have hq1 : q1 = va_up ad1 166 q1 166 := vu_s.symm
    have hM := c_X1_init (l := l) (D := D) (Y := Y) (b := b) (ad := va_up ad1 166 q1) (fw := va_up fw1 166 (.inr (1, [.null, .int 0, .int 0, .int 0, .int 0, .int 0, .int 0]))) vu_s
    rw [← hq1] at hM
    refine g_initN C0 (rest := [.ref q1, .ref x]) hM dX5_init_53 gX5_init_X1_init_n35 rfl (by decide +kernel) C0.2.2.1.2 (by decide +kernel) rfl (by decide +kernel) ⟨Nat.le_of_ble_eq_true rfl, Nat.le_of_ble_eq_true rfl⟩ ⟨Nat.le_of_ble_eq_true rfl, Nat.le_of_ble_eq_true rfl⟩ rfl (Nat.le_of_ble_eq_true rfl) rfl (fun ad2 fw2 hP => ?_)
    obtain ⟨p1, p2, -, p4⟩ := hP
    have a2 : ∀ r, r < 166 → ad2 r = ad1 r := fun r hr => by rw [p1 r (by omega), vu_n (by omega)]
    have f2 : ∀ r, r < 166 → fw2 r = fw1 r := fun r hr => by rw [p2 r hr, vu_n (by omega)]
    have hq2 : q1 = ad2 166 := by rw [p1 _ (by omega), vu_s]
    refine g_put C0 (o := 0) (ci := 5) (C := RX5) (T := TX5) (N := 5) (Ft := tyX5) (ref := RX5) 4 (v := .ref q1) (ty := .object "PhaseTones$Pad") (by omega) ((a2 0 (by omega)).trans hxa) ((f2 0 (by omega)).trans h2) rfl fw_X5_init5 tyX5_ok nmX5 (by decide) (by decide +kernel) (fun _ h9 => h9) (Or.inr ⟨rfl, hnm, rfl⟩) (by decide +kernel) rfl rfl (Nat.le_of_ble_eq_true rfl) dX5_init_56 rfl ?_
    refine l59 ad2 _ (fun r hr => by rw [a2 r (by omega)]; exact h1 r hr) ?_ ?_
    · rw [vu_s, hq2, ← a2 1 (by omega), ← a2 17 (by omega), ← a2 33 (by omega), ← a2 131 (by omega)]
      rfl
    · refine BK.ap (mi := 166) (h3.mv (by omega) a2 (fun q q1 q2 => ?_)) (p4.mv (Nat.le_refl _) (fun _ _ => rfl) (fun q q1 q2 => vu_n (by omega)))
      rw [vu_n (by omega)]
      exact f2 q q2
  have l37 : ∀ (ad1 : Nat → Nat) (fw1 : Nat → va_E), ag 1 ad ad1 → fw1 0 = .inr (5, [.ref (ad1 1), .ref (ad1 17), .ref (ad1 33), .null, .null]) → BK Y 131 1 131 ad1 fw1 → G p l e rm_X5_init s m args below meth c D b 130 1449 1 (MQ below (QG D b 168 (Post5 Y ad)) args s 167 1882 (AB b)) 37 [(0, .ref x)] [] 131 ad1 fw1 := by
    intro ad1 fw1 h1 h2 h3
    have hxa : ad1 0 = x := by rw [h1 0 (by omega), hx]
    refine g_aload_n C0 0 dX5_init_37 rfl rfl rfl ?_
    refine g_new C0 (ci := 2) (N := 2) (C := RX2) (T := TX2) (Ft := tyX2) [.null, .null] fw_X5_init2 tyX2_ok (by decide +kernel) (by decide +kernel) (by decide +kernel) rfl hfs2 ⟨Nat.le_of_ble_eq_true rfl, Nat.le_of_ble_eq_true rfl⟩ dX5_init_38 rfl (fun q1 => ?_)
    refine g_dup C0 dX5_init_41 rfl rfl ?_
    have hq1 : q1 = va_up ad1 131 q1 131 := vu_s.symm
    have hM := c_X2_init (l := l) (D := D) (Y := Y) (b := b) (ad := va_up ad1 131 q1) (fw := va_up fw1 131 (.inr (2, [.null, .null]))) vu_s
    rw [← hq1] at hM
    refine g_init C0 (rest := [.ref q1, .ref x]) hM dX5_init_42 gX5_init_X2_init rfl (by decide +kernel) (by decide +kernel) (by decide +kernel) rfl (by decide +kernel) ⟨Nat.le_of_ble_eq_true rfl, Nat.le_of_ble_eq_true rfl⟩ ⟨Nat.le_of_ble_eq_true rfl, Nat.le_of_ble_eq_true rfl⟩ rfl (Nat.le_of_ble_eq_true rfl) rfl (fun ad2 fw2 hP => ?_)
    obtain ⟨p1, p2, -, p4⟩ := hP
    have a2 : ∀ r, r < 131 → ad2 r = ad1 r := fun r hr => by rw [p1 r (by omega), vu_n (by omega)]
    have f2 : ∀ r, r < 131 → fw2 r = fw1 r := fun r hr => by rw [p2 r hr, vu_n (by omega)]
    have hq2 : q1 = ad2 131 := by rw [p1 _ (by omega), vu_s]
    refine g_put C0 (o := 0) (ci := 5) (C := RX5) (T := TX5) (N := 5) (Ft := tyX5) (ref := RX5) 3 (v := .ref q1) (ty := .object "PhaseTones$Slots") (by omega) ((a2 0 (by omega)).trans hxa) ((f2 0 (by omega)).trans h2) rfl fw_X5_init5 tyX5_ok nmX5 (by decide) (by decide +kernel) (fun _ h9 => h9) (Or.inr ⟨rfl, hnm, rfl⟩) (by decide +kernel) rfl rfl (Nat.le_of_ble_eq_true rfl) dX5_init_45 rfl ?_
    refine l48 ad2 _ (fun r hr => by rw [a2 r (by omega)]; exact h1 r hr) ?_ ?_
    · rw [vu_s, hq2, ← a2 1 (by omega), ← a2 17 (by omega), ← a2 33 (by omega)]
      rfl
    · refine BK.ap (mi := 131) (h3.mv (by omega) a2 (fun q q1 q2 => ?_)) (p4.mv (Nat.le_refl _) (fun _ _ => rfl) (fun q q1 q2 => vu_n (by omega)))
      rw [vu_n (by omega)]
      exact f2 q q2
  have l26 : ∀ (ad1 : Nat → Nat) (fw1 : Nat → va_E), ag 1 ad ad1 → fw1 0 = .inr (5, [.ref (ad1 1), .ref (ad1 17), .null, .null, .null]) → BK Y 33 1 33 ad1 fw1 → G p l e rm_X5_init s m args below meth c D b 32 360 1 (MQ below (QG D b 168 (Post5 Y ad)) args s 167 1882 (AB b)) 26 [(0, .ref x)] [] 33 ad1 fw1 := by
    intro ad1 fw1 h1 h2 h3
    have hxa : ad1 0 = x := by rw [h1 0 (by omega), hx]
    refine g_aload_n C0 0 dX5_init_26 rfl rfl rfl ?_
    refine g_new C0 (ci := 0) (N := 3) (C := RX0) (T := TX0) (Ft := tyX0) [.null, .int 0, .int 0] fw_X5_init0 tyX0_ok (by decide +kernel) (by decide +kernel) (by decide +kernel) rfl hfs0 ⟨Nat.le_of_ble_eq_true rfl, Nat.le_of_ble_eq_true rfl⟩ dX5_init_27 rfl (fun q1 => ?_)
    refine g_dup C0 dX5_init_30 rfl rfl ?_
    have hq1 : q1 = va_up ad1 33 q1 33 := vu_s.symm
    have hM := c_X0_init (l := l) (D := D) (Y := Y) (b := b) (ad := va_up ad1 33 q1) (fw := va_up fw1 33 (.inr (0, [.null, .int 0, .int 0]))) vu_s
    rw [← hq1] at hM
    refine g_init C0 (rest := [.ref q1, .ref x]) hM dX5_init_31 gX5_init_X0_init rfl (by decide +kernel) (by decide +kernel) (by decide +kernel) rfl (by decide +kernel) ⟨Nat.le_of_ble_eq_true rfl, Nat.le_of_ble_eq_true rfl⟩ ⟨Nat.le_of_ble_eq_true rfl, Nat.le_of_ble_eq_true rfl⟩ rfl (Nat.le_of_ble_eq_true rfl) rfl (fun ad2 fw2 hP => ?_)
    obtain ⟨p1, p2, -, p4⟩ := hP
    have a2 : ∀ r, r < 33 → ad2 r = ad1 r := fun r hr => by rw [p1 r (by omega), vu_n (by omega)]
    have f2 : ∀ r, r < 33 → fw2 r = fw1 r := fun r hr => by rw [p2 r hr, vu_n (by omega)]
    have hq2 : q1 = ad2 33 := by rw [p1 _ (by omega), vu_s]
    refine g_put C0 (o := 0) (ci := 5) (C := RX5) (T := TX5) (N := 5) (Ft := tyX5) (ref := RX5) 2 (v := .ref q1) (ty := .object "PhaseTones$History") (by omega) ((a2 0 (by omega)).trans hxa) ((f2 0 (by omega)).trans h2) rfl fw_X5_init5 tyX5_ok nmX5 (by decide) (by decide +kernel) (fun _ h9 => h9) (Or.inr ⟨rfl, hnm, rfl⟩) (by decide +kernel) rfl rfl (Nat.le_of_ble_eq_true rfl) dX5_init_34 rfl ?_
    refine l37 ad2 _ (fun r hr => by rw [a2 r (by omega)]; exact h1 r hr) ?_ ?_
    · rw [vu_s, hq2, ← a2 1 (by omega), ← a2 17 (by omega)]
      rfl
    · refine BK.ap (mi := 33) (h3.mv (by omega) a2 (fun q q1 q2 => ?_)) (p4.mv (Nat.le_refl _) (fun _ _ => rfl) (fun q q1 q2 => vu_n (by omega)))
      rw [vu_n (by omega)]
      exact f2 q q2
  have l15 : ∀ (ad1 : Nat → Nat) (fw1 : Nat → va_E), ag 1 ad ad1 → fw1 0 = .inr (5, [.ref (ad1 1), .null, .null, .null, .null]) → BK Y 17 1 17 ad1 fw1 → G p l e rm_X5_init s m args below meth c D b 16 180 1 (MQ below (QG D b 168 (Post5 Y ad)) args s 167 1882 (AB b)) 15 [(0, .ref x)] [] 17 ad1 fw1 := by
    intro ad1 fw1 h1 h2 h3
    have hxa : ad1 0 = x := by rw [h1 0 (by omega), hx]
    refine g_aload_n C0 0 dX5_init_15 rfl rfl rfl ?_
    refine g_new C0 (ci := 3) (N := 8) (C := RX3) (T := TX3) (Ft := tyX3) fs3n fw_X5_init3 tyX3_ok (by decide +kernel) (by decide +kernel) (by decide +kernel) rfl hfs3 ⟨Nat.le_of_ble_eq_true rfl, Nat.le_of_ble_eq_true rfl⟩ dX5_init_16 rfl (fun q1 => ?_)
    refine g_dup C0 dX5_init_19 rfl rfl ?_
    have hq1 : q1 = va_up ad1 17 q1 17 := vu_s.symm
    have hM := c_X3_init (l := l) (D := D) (Y := Y) (b := b) (o := 17) (ad := va_up ad1 17 q1) (fw := va_up fw1 17 (.inr (3, fs3n))) rfl vu_s
    rw [← hq1] at hM
    refine g_init C0 (rest := [.ref q1, .ref x]) hM dX5_init_20 gX5_init_X3_init rfl (by decide +kernel) (by decide +kernel) (by decide +kernel) rfl (by decide +kernel) ⟨Nat.le_of_ble_eq_true rfl, Nat.le_of_ble_eq_true rfl⟩ ⟨Nat.le_of_ble_eq_true rfl, Nat.le_of_ble_eq_true rfl⟩ rfl (Nat.le_of_ble_eq_true rfl) rfl (fun ad2 fw2 hP => ?_)
    obtain ⟨p1, p2, -, p4⟩ := hP
    have a2 : ∀ r, r < 17 → ad2 r = ad1 r := fun r hr => by rw [p1 r (by omega), vu_n (by omega)]
    have f2 : ∀ r, r < 17 → fw2 r = fw1 r := fun r hr => by rw [p2 r hr, vu_n (by omega)]
    have hq2 : q1 = ad2 17 := by rw [p1 _ (by omega), vu_s]
    refine g_put C0 (o := 0) (ci := 5) (C := RX5) (T := TX5) (N := 5) (Ft := tyX5) (ref := RX5) 1 (v := .ref q1) (ty := .object "PhaseTones$Sound") (by omega) ((a2 0 (by omega)).trans hxa) ((f2 0 (by omega)).trans h2) rfl fw_X5_init5 tyX5_ok nmX5 (by decide) (by decide +kernel) (fun _ h9 => h9) (Or.inr ⟨rfl, hnm, rfl⟩) (by decide +kernel) rfl rfl (Nat.le_of_ble_eq_true rfl) dX5_init_23 rfl ?_
    refine l26 ad2 _ (fun r hr => by rw [a2 r (by omega)]; exact h1 r hr) ?_ ?_
    · rw [vu_s, hq2, ← a2 1 (by omega)]
      rfl
    · refine BK.ap (mi := 17) (h3.mv (by omega) a2 (fun q q1 q2 => ?_)) ((BK.snd p4 (Or.inl ⟨1, by omega, rfl⟩)).mv (Nat.le_refl _) (fun _ _ => rfl) (fun q q1 q2 => vu_n (by omega)))
      rw [vu_n (by omega)]
      exact f2 q q2
  refine g_aload_n C0 0 dX5_init_0 rfl rfl rfl ?_
  refine g_obj C0 (by decide +kernel) (by decide +kernel) (List.mem_of_getElem? (i := 3) rfl) dX5_init_1 ⟨Nat.le_of_ble_eq_true rfl, Nat.le_of_ble_eq_true rfl⟩ rfl ?_
  have h1 : ag 1 ad ad := fun _ _ => rfl
  have h3 : BK Y 1 1 1 ad fw := fun adF hF q q1 q2 => absurd q2 (by omega)
  have h2 := hf
  revert h1 h2 h3
  suffices main : ∀ (ad1 : Nat → Nat) (fw1 : Nat → va_E), ag 1 ad ad1 → fw1 0 = .inr (5, [.null, .null, .null, .null, .null]) → BK Y 1 1 1 ad1 fw1 → G p l e rm_X5_init s m args below meth c D b 0 0 1 (MQ below (QG D b 168 (Post5 Y ad)) args s 167 1882 (AB b)) 4 [(0, .ref x)] [] 1 ad1 fw1 from fun h1 h3 h2 => main ad fw h1 h2 h3
  intro ad1 fw1 h1 h2 h3
  have hxa : ad1 0 = x := by rw [h1 0 (by omega), hx]
  refine g_aload_n C0 0 dX5_init_4 rfl rfl rfl ?_
  refine g_new C0 (ci := 3) (N := 8) (C := RX3) (T := TX3) (Ft := tyX3) fs3n fw_X5_init3 tyX3_ok (by decide +kernel) (by decide +kernel) (by decide +kernel) rfl hfs3 ⟨Nat.le_of_ble_eq_true rfl, Nat.le_of_ble_eq_true rfl⟩ dX5_init_5 rfl (fun q1 => ?_)
  refine g_dup C0 dX5_init_8 rfl rfl ?_
  have hq1 : q1 = va_up ad1 1 q1 1 := vu_s.symm
  have hM := c_X3_init (l := l) (D := D) (Y := Y) (b := b) (o := 1) (ad := va_up ad1 1 q1) (fw := va_up fw1 1 (.inr (3, fs3n))) rfl vu_s
  rw [← hq1] at hM
  refine g_init C0 (rest := [.ref q1, .ref x]) hM dX5_init_9 gX5_init_X3_init rfl (by decide +kernel) (by decide +kernel) (by decide +kernel) rfl (by decide +kernel) ⟨Nat.le_of_ble_eq_true rfl, Nat.le_of_ble_eq_true rfl⟩ ⟨Nat.le_of_ble_eq_true rfl, Nat.le_of_ble_eq_true rfl⟩ rfl (Nat.le_of_ble_eq_true rfl) rfl (fun ad2 fw2 hP => ?_)
  obtain ⟨p1, p2, -, p4⟩ := hP
  have a2 : ∀ r, r < 1 → ad2 r = ad1 r := fun r hr => by rw [p1 r (by omega), vu_n (by omega)]
  have f2 : ∀ r, r < 1 → fw2 r = fw1 r := fun r hr => by rw [p2 r hr, vu_n (by omega)]
  have hq2 : q1 = ad2 1 := by rw [p1 _ (by omega), vu_s]
  refine g_put C0 (o := 0) (ci := 5) (C := RX5) (T := TX5) (N := 5) (Ft := tyX5) (ref := RX5) 0 (v := .ref q1) (ty := .object "PhaseTones$Sound") (by omega) ((a2 0 (by omega)).trans hxa) ((f2 0 (by omega)).trans h2) rfl fw_X5_init5 tyX5_ok nmX5 (by decide) (by decide +kernel) (fun _ h9 => h9) (Or.inr ⟨rfl, hnm, rfl⟩) (by decide +kernel) rfl rfl (Nat.le_of_ble_eq_true rfl) dX5_init_12 rfl ?_
  refine l15 ad2 _ (fun r hr => by rw [a2 r (by omega)]; exact h1 r hr) ?_ ?_
  · rw [vu_s, hq2]
    rfl
  · exact (BK.snd p4 (Or.inl ⟨0, by omega, rfl⟩)).mv (Nat.le_refl _) (fun _ _ => rfl) (fun q q1 q2 => vu_n (by omega))
