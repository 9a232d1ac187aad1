/-! the history, the slots, the pad are made -/
def MI : Mem := fun q => if 1 ≤ q ∧ q < 33 then SM0 ((q - 1) % 16) else if 35 ≤ q ∧ q < 131 then SM0 ((q - 35) % 16) else if 134 ≤ q ∧ q < 166 then SM0 ((q - 134) % 16) else fun _ => 0
def BK (Y : Nat → ClassId) (z lo hi : Nat) (ad : Nat → Nat) (fw : Nat → va_E) : Prop := ∀ adF : Nat → Nat, (∀ r, r < z → adF r = ad r) → ∀ q, lo ≤ q → q < hi → Lk (fw q) (ce Y adF q (MI q))
theorem BK.mv {Y : Nat → ClassId} {z z' lo hi : Nat} {ad ad' : Nat → Nat} {fw fw' : Nat → va_E} (h : BK Y z lo hi ad fw) (hz : z ≤ z') (ha : ag z ad ad') (hf : ∀ q, lo ≤ q → q < hi → fw' q = fw q) : BK Y z' lo hi ad' fw' := fun adF hF q q1 q2 => by
  rw [hf q q1 q2]
  exact h adF (fun r hr => (hF r (by omega)).trans (ha r hr)) q q1 q2
theorem BK.ap {Y : Nat → ClassId} {z lo mi hi : Nat} {ad : Nat → Nat} {fw : Nat → va_E} (h1 : BK Y z lo mi ad fw) (h2 : BK Y z mi hi ad fw) : BK Y z lo hi ad fw := fun adF hF q q1 q2 => by
  rcases Nat.lt_or_ge q mi with h | h
  · exact h1 adF hF q q1 h
  · exact h2 adF hF q h q2
/-- a Sound's block, in the one memory -/
theorem BK.snd {Y : Nat → ClassId} {o : Nat} {ad : Nat → Nat} {fw : Nat → va_E} (h : BLK Y (o + 16) ad fw (fun q => SM0 (q - o)) o) (ho : (∃ i, i < 2 ∧ o = 1 + 16 * i) ∨ (∃ i, i < 6 ∧ o = 35 + 16 * i) ∨ (∃ i, i < 2 ∧ o = 134 + 16 * i)) : BK Y (o + 16) o (o + 16) ad fw := fun adF hF q q1 q2 => by
  have := h adF hF q q1 q2
  have e : MI q = SM0 (q - o) := by
    unfold MI
    rcases ho with ⟨i, hi, rfl⟩ | ⟨i, hi, rfl⟩ | ⟨i, hi, rfl⟩
    · rw [if_pos (by omega), show (q - 1) % 16 = q - (1 + 16 * i) by omega]
    · rw [if_neg (by omega), if_pos (by omega), show (q - 35) % 16 = q - (35 + 16 * i) by omega]
    · rw [if_neg (by omega), if_neg (by omega), if_pos (by omega), show (q - 134) % 16 = q - (134 + 16 * i) by omega]
  rw [e]
  exact this
theorem hfs3 : ∀ j, j < 8 → defaultValue (tyX3 j) = vp_V fs3n j := fun j hj => by rcases (by omega : j = 0 ∨ j = 1 ∨ j = 2 ∨ j = 3 ∨ j = 4 ∨ j = 5 ∨ j = 6 ∨ j = 7) with rfl | rfl | rfl | rfl | rfl | rfl | rfl | rfl <;> rfl
abbrev rm_X0_init : Room := { frames := 3, cells := 97, slots := 1086, locals := 100 }
theorem fw_X0_init0 : ∀ w ∈ wsX00, w ∈ wsX0_init := by decide +kernel
theorem fw_X0_init3 : ∀ w ∈ wsX30, w ∈ wsX0_init := by decide +kernel
def IX0 (Y : Nat → ClassId) (i : Nat) (ad0 : Nat → Nat) (fw0 : Nat → va_E) (ad : Nat → Nat) (fw : Nat → va_E) : Prop :=
  ag (33 + 1) ad0 ad ∧ (∀ q, q < 33 → fw q = fw0 q) ∧ fw 33 = .inr (0, [.ref (ad 34), .int 0, .int 0]) ∧ (∃ g : Nat → Option Nat, fw 34 = .inl (Y 3, 6, .inr (.inr (.inr (.inr g)))) ∧ ∀ j, j < i → g j = some (ad (35 + 16 * j))) ∧ BK Y (35 + 16 * i) 35 (35 + 16 * i) ad fw
def PostX0 (Y : Nat → ClassId) (ad : Nat → Nat) (fw : Nat → va_E) : (Nat → Nat) → (Nat → va_E) → Prop := fun ad' fw' => ag (33 + 1) ad ad' ∧ (∀ q, q < 33 → fw' q = fw q) ∧ (∃ vs, fw' 33 = .inr (0, vs)) ∧ BK Y 131 33 131 ad' fw'
theorem c_X0_init {l : Launch} {D : va_G} {Y : Nat → ClassId} {b : Nat} {ad : Nat → Nat} {fw : Nat → va_E} (hf : fw 33 = .inr (0, [.null, .int 0, .int 0])) : ConG l yX0_init wsX0_init rm_X0_init [.ref (ad 33)] D Y b (33 + 1) ad fw 131 (PostX0 Y ad fw) := by
  refine conG_of (cc := cX0_init) (maxL := 2) (own := RX0) [.ref (ad 33)] (by decide +kernel) rfl rfl (Nat.le_of_ble_eq_true rfl) (fun p e s m args below meth c C0 hlk hret hnm => ?_)
  obtain ⟨x, hx⟩ : ∃ x, x = ad 33 := ⟨_, rfl⟩
  show G p l e rm_X0_init s m args below meth c D b 0 0 2 _ 0 [(0, .ref (ad 33))] [] (33 + 1) ad fw
  rw [← hx]
  have loop : ∀ (k i : Nat) (ad1 : Nat → Nat) (fw1 : Nat → va_E), i + k = 6 → IX0 Y i ad fw ad1 fw1 → G p l e rm_X0_init s m args below meth c D b (1 + 16 * i) (6 + 180 * i) 2 (MQ below (QG D b 131 (PostX0 Y ad fw)) args s 97 1086 (AB b)) 15 [(1, .int (nI i)), (0, .ref x)] [] (35 + 16 * i) ad1 fw1 := by
    intro k
    induction k with
    | zero =>
      intro i ad1 fw1 hi hI
      obtain rfl : i = 6 := by omega
      obtain ⟨i1, i2, i3, ⟨g, i4, i4b⟩, i6⟩ := hI
      refine g_iload_n C0 0 dX0_init_15 rfl rfl rfl ?_
      refine g_bipush C0 6 dX0_init_16 (by decide) rfl ?_
      refine g_icmp_ge C0 (tgt := 40) dX0_init_18 (by decide) rfl (fun _ => ?_) (fun z => absurd (by decide) z)
      refine g_vret C0 hlk hret dX0_init_40 ⟨i1, i2, ⟨_, i3⟩, BK.ap (mi := 35) (fun adF hF q q1 q2 => ?_) i6⟩
      rcases (by omega : q = 33 ∨ q = 34) with rfl | rfl
      · rw [i3, ce0 rfl]
        refine Lk.of ?_
        unfold fs0
        rw [hF _ (by omega)]
        rfl
      · rw [i4, ce13 rfl]
        exact lk_arr (fun j hj => by rw [i4b j hj, hF _ (by omega)])
    | succ k ih =>
      intro i ad1 fw1 hi hI
      obtain ⟨i1, i2, i3, ⟨g, i4, i4b⟩, i6⟩ := hI
      have hxa : ad1 33 = x := by rw [i1 33 (by omega), hx]
      refine g_iload_n C0 0 dX0_init_15 rfl rfl rfl ?_
      refine g_bipush C0 6 dX0_init_16 (by decide) rfl ?_
      refine g_icmp_ge C0 (tgt := 40) dX0_init_18 (by decide) rfl (fun z => absurd z (nI_ge (a := i) (b := 6) (by omega) (by omega))) (fun _ => ?_)
      refine g_aload_n C0 1 dX0_init_21 rfl rfl rfl ?_
      refine g_get C0 (o := 33) (ci := 0) (C := RX0) (T := TX0) (N := 3) (ref := RX0) 0 (v := .ref (ad1 34)) (by omega) hxa i3 rfl fw_X0_init0 (by decide) (by decide +kernel) (fun _ h9 => h9) rfl dX0_init_22 rfl ?_
      refine g_iload_n C0 0 dX0_init_25 rfl rfl rfl ?_
      refine g_new C0 (ci := 3) (N := 8) (C := RX3) (T := TX3) (Ft := tyX3) fs3n fw_X0_init3 tyX3_ok (by decide +kernel) (by decide +kernel) (by decide +kernel) rfl hfs3 ⟨by show 1 + 16 * i + 1 ≤ 97; omega, by show 6 + 180 * i + 8 ≤ 1086; omega⟩ dX0_init_26 rfl (fun q1 => ?_)
      refine g_dup C0 dX0_init_29 rfl rfl ?_
      have hq1 : q1 = va_up ad1 (35 + 16 * i) q1 (35 + 16 * i) := vu_s.symm
      have hM := c_X3_init (l := l) (D := D) (Y := Y) (b := b) (o := 35 + 16 * i) (ad := va_up ad1 (35 + 16 * i) q1) (fw := va_up fw1 (35 + 16 * i) (.inr (3, fs3n))) (kd_his i (by omega)) vu_s
      rw [← hq1] at hM
      refine g_init C0 (rest := [.ref q1, .int (nI i), .ref (ad1 34)]) hM dX0_init_30 gX0_init_X3_init rfl (by decide +kernel) (by decide +kernel) (by decide +kernel) rfl (by decide +kernel) ⟨Nat.le_of_ble_eq_true rfl, Nat.le_of_ble_eq_true rfl⟩ ⟨by show 1 + 16 * i + 1 + 15 ≤ 97; omega, by show 6 + 180 * i + 8 + 172 ≤ 1086; omega⟩ rfl (Nat.le_of_ble_eq_true rfl) rfl (fun ad2 fw2 hP => ?_)
      obtain ⟨p1, p2, ⟨vs, p3⟩, p4⟩ := hP
      have a2 : ∀ r, r < 35 + 16 * i → ad2 r = ad1 r := fun r hr => by rw [p1 r (by omega), vu_n (by omega)]
      have f2 : ∀ r, r < 35 + 16 * i → fw2 r = fw1 r := fun r hr => by rw [p2 r hr, vu_n (by omega)]
      have hq2 : ad2 (35 + 16 * i) = q1 := by rw [p1 _ (by omega), vu_s]
      refine g_astq C0 (o := 34) (n := 6) (ci := 3) (r := (RX3, TX3, 8)) 3 (35 + 16 * i) (by omega) (a2 _ (by omega)) ((f2 _ (by omega)).trans i4) rfl (by omega) hq2 p3 rfl (vp_in_nI (by omega) (by omega)) dX0_init_33 rfl ?_
      refine g_iinc C0 0 (nI (i + 1)) [(1, .int (nI (i + 1))), (0, .ref x)] dX0_init_34 rfl (nI_succ i).symm (by decide) rfl rfl ?_
      refine g_goto C0 (tgt := 15) dX0_init_37 (by decide) ?_
      have := ih (i + 1) ad2 (va_up fw2 34 (.inl (Y 3, 6, .inr (.inr (.inr (.inr (va_up g (nI i).toNatClampNeg (some q1)))))))) (by omega) ⟨fun r hr => by rw [a2 r (by omega)]; exact i1 r hr, fun q hq => by rw [vu_n (by omega), f2 q (by omega)]; exact i2 q hq, ?_, ⟨_, vu_s, fun j hj => ?_⟩, ?_⟩
      · rw [show 35 + 16 * (i + 1) = 35 + 16 * i + 16 by omega, show 1 + 16 * (i + 1) = 1 + 16 * i + 1 + 15 by omega, show 6 + 180 * (i + 1) = 6 + 180 * i + 8 + 172 by omega] at this
        exact this
      · rw [vu_n (by omega), f2 33 (by omega), i3, a2 _ (by omega)]
      · rw [nI_clamp (by omega)]
        by_cases hji : j = i
        · subst hji; rw [vu_s, hq2]
        · rw [vu_n hji, i4b j (by omega), a2 _ (by omega)]
      · rw [show 35 + 16 * (i + 1) = 35 + 16 * i + 16 by omega]
        refine BK.ap (mi := 35 + 16 * i) (i6.mv (by omega) a2 (fun q q1 q2 => ?_)) ((BK.snd p4 (Or.inr (Or.inl ⟨i, by omega, rfl⟩))).mv (Nat.le_refl _) (fun _ _ => rfl) (fun q q1 q2 => vu_n (by omega)))
        rw [vu_n (by omega)]
        exact f2 q q2
  refine g_aload_n C0 0 dX0_init_0 rfl rfl rfl ?_
  refine g_obj C0 (by decide +kernel) (by decide +kernel) (List.mem_of_getElem? (i := 3) rfl) dX0_init_1 ⟨Nat.le_of_ble_eq_true rfl, Nat.le_of_ble_eq_true rfl⟩ rfl ?_
  refine g_aload_n C0 0 dX0_init_4 rfl rfl rfl ?_
  refine g_bipush C0 6 dX0_init_5 (by decide) rfl ?_
  refine g_newq C0 (C := RX3) 6 3 rfl (by decide +kernel) (fun h => h.1) (by decide) (by decide) (by decide) ⟨Nat.le_of_ble_eq_true rfl, Nat.le_of_ble_eq_true rfl⟩ dX0_init_7 rfl (fun q1 => ?_)
  refine g_put C0 (o := 33) (ci := 0) (C := RX0) (T := TX0) (N := 3) (Ft := tyX0) (ref := RX0) (fs := [.null, .int 0, .int 0]) 0 (v := .ref q1) (ty := .array (.object "PhaseTones$Sound")) (by omega) ((vu_n (by omega)).trans hx.symm) ((vu_n (by omega)).trans hf) rfl fw_X0_init0 tyX0_ok nmX0 (by decide) (by decide +kernel) (fun _ h9 => h9) (Or.inr ⟨rfl, hnm, rfl⟩) (by decide +kernel) rfl rfl (Nat.le_of_ble_eq_true rfl) dX0_init_10 rfl ?_
  refine g_iconst C0 0 dX0_init_13 (by decide) rfl ?_
  refine g_istore_n C0 [(1, .int 0), (0, .ref x)] dX0_init_14 rfl (by decide) rfl rfl ?_
  refine loop 6 0 _ _ (by omega) ⟨fun r hr => ?_, fun q hq => ?_, ?_, ⟨fun _ => none, ?_, fun j hj => absurd hj (by omega)⟩, fun adF hF q q1 q2 => absurd q2 (by omega)⟩
  · rw [vu_n (by omega)]
  · repeat rw [vu_n (by omega)]
  · rw [vu_s, vu_s]
    rfl
  · rw [vu_n (by omega), vu_s]
abbrev rm_X2_init : Room := { frames := 3, cells := 34, slots := 364, locals := 100 }
theorem fw_X2_init0 : ∀ w ∈ wsX20, w ∈ wsX2_init := by decide +kernel
theorem fw_X2_init3 : ∀ w ∈ wsX30, w ∈ wsX2_init := by decide +kernel
def IX2 (Y : Nat → ClassId) (i : Nat) (ad0 : Nat → Nat) (fw0 : Nat → va_E) (ad : Nat → Nat) (fw : Nat → va_E) : Prop :=
  ag (131 + 1) ad0 ad ∧ (∀ q, q < 131 → fw q = fw0 q) ∧ fw 131 = .inr (2, [.ref (ad 132), .ref (ad 133)]) ∧ (∃ g : Nat → Option Nat, fw 132 = .inl (Y 3, 2, .inr (.inr (.inr (.inr g)))) ∧ ∀ j, j < i → g j = some (ad (134 + 16 * j))) ∧ fw 133 = .inl (Y 2, 2, .inl (fun _ => 0)) ∧ BK Y (134 + 16 * i) 134 (134 + 16 * i) ad fw
def PostX2 (Y : Nat → ClassId) (ad : Nat → Nat) (fw : Nat → va_E) : (Nat → Nat) → (Nat → va_E) → Prop := fun ad' fw' => ag (131 + 1) ad ad' ∧ (∀ q, q < 131 → fw' q = fw q) ∧ (∃ vs, fw' 131 = .inr (2, vs)) ∧ BK Y 166 131 166 ad' fw'
theorem c_X2_init {l : Launch} {D : va_G} {Y : Nat → ClassId} {b : Nat} {ad : Nat → Nat} {fw : Nat → va_E} (hf : fw 131 = .inr (2, [.null, .null])) : ConG l yX2_init wsX2_init rm_X2_init [.ref (ad 131)] D Y b (131 + 1) ad fw 166 (PostX2 Y ad fw) := by
  refine conG_of (cc := cX2_init) (maxL := 2) (own := RX2) [.ref (ad 131)] (by decide +kernel) rfl rfl (Nat.le_of_ble_eq_true rfl) (fun p e s m args below meth c C0 hlk hret hnm => ?_)
  obtain ⟨x, hx⟩ : ∃ x, x = ad 131 := ⟨_, rfl⟩
  show G p l e rm_X2_init s m args below meth c D b 0 0 2 _ 0 [(0, .ref (ad 131))] [] (131 + 1) ad fw
  rw [← hx]
  have loop : ∀ (k i : Nat) (ad1 : Nat → Nat) (fw1 : Nat → va_E), i + k = 2 → IX2 Y i ad fw ad1 fw1 → G p l e rm_X2_init s m args below meth c D b (2 + 16 * i) (4 + 180 * i) 2 (MQ below (QG D b 166 (PostX2 Y ad fw)) args s 34 364 (AB b)) 21 [(1, .int (nI i)), (0, .ref x)] [] (134 + 16 * i) ad1 fw1 := by
    intro k
    induction k with
    | zero =>
      intro i ad1 fw1 hi hI
      obtain rfl : i = 2 := by omega
      obtain ⟨i1, i2, i3, ⟨g, i4, i4b⟩, i5, i6⟩ := hI
      refine g_iload_n C0 0 dX2_init_21 rfl rfl rfl ?_
      refine g_iconst C0 2 dX2_init_22 (by decide) rfl ?_
      refine g_icmp_ge C0 (tgt := 45) dX2_init_23 (by decide) rfl (fun _ => ?_) (fun z => absurd (by decide) z)
      refine g_vret C0 hlk hret dX2_init_45 ⟨i1, i2, ⟨_, i3⟩, BK.ap (mi := 134) (fun adF hF q q1 q2 => ?_) i6⟩
      rcases (by omega : q = 131 ∨ q = 132 ∨ q = 133) with rfl | rfl | rfl
      · rw [i3, ce2 rfl]
        refine Lk.of ?_
        unfold fs2
        rw [hF _ (by omega), hF _ (by omega)]
      · rw [i4, ce14 rfl]
        exact lk_arr (fun j hj => by rw [i4b j hj, hF _ (by omega)])
      · rw [i5, ce16 rfl]
        exact Lk.of rfl
    | succ k ih =>
      intro i ad1 fw1 hi hI
      obtain ⟨i1, i2, i3, ⟨g, i4, i4b⟩, i5, i6⟩ := hI
      have hxa : ad1 131 = x := by rw [i1 131 (by omega), hx]
      refine g_iload_n C0 0 dX2_init_21 rfl rfl rfl ?_
      refine g_iconst C0 2 dX2_init_22 (by decide) rfl ?_
      refine g_icmp_ge C0 (tgt := 45) dX2_init_23 (by decide) rfl (fun z => absurd z (nI_ge (a := i) (b := 2) (by omega) (by omega))) (fun _ => ?_)
      refine g_aload_n C0 1 dX2_init_26 rfl rfl rfl ?_
      refine g_get C0 (o := 131) (ci := 2) (C := RX2) (T := TX2) (N := 2) (ref := RX2) 0 (v := .ref (ad1 132)) (by omega) hxa i3 rfl fw_X2_init0 (by decide) (by decide +kernel) (fun _ h9 => h9) rfl dX2_init_27 rfl ?_
      refine g_iload_n C0 0 dX2_init_30 rfl rfl rfl ?_
      refine g_new C0 (ci := 3) (N := 8) (C := RX3) (T := TX3) (Ft := tyX3) fs3n fw_X2_init3 tyX3_ok (by decide +kernel) (by decide +kernel) (by decide +kernel) rfl hfs3 ⟨by show 2 + 16 * i + 1 ≤ 34; omega, by show 4 + 180 * i + 8 ≤ 364; omega⟩ dX2_init_31 rfl (fun q1 => ?_)
      refine g_dup C0 dX2_init_34 rfl rfl ?_
      have hq1 : q1 = va_up ad1 (134 + 16 * i) q1 (134 + 16 * i) := vu_s.symm
      have hM := c_X3_init (l := l) (D := D) (Y := Y) (b := b) (o := 134 + 16 * i) (ad := va_up ad1 (134 + 16 * i) q1) (fw := va_up fw1 (134 + 16 * i) (.inr (3, fs3n))) (kd_slo i (by omega)) vu_s
      rw [← hq1] at hM
      refine g_init C0 (rest := [.ref q1, .int (nI i), .ref (ad1 132)]) hM dX2_init_35 gX2_init_X3_init rfl (by decide +kernel) (by decide +kernel) (by decide +kernel) rfl (by decide +kernel) ⟨Nat.le_of_ble_eq_true rfl, Nat.le_of_ble_eq_true rfl⟩ ⟨by show 2 + 16 * i + 1 + 15 ≤ 34; omega, by show 4 + 180 * i + 8 + 172 ≤ 364; omega⟩ rfl (Nat.le_of_ble_eq_true rfl) rfl (fun ad2 fw2 hP => ?_)
      obtain ⟨p1, p2, ⟨vs, p3⟩, p4⟩ := hP
      have a2 : ∀ r, r < 134 + 16 * i → ad2 r = ad1 r := fun r hr => by rw [p1 r (by omega), vu_n (by omega)]
      have f2 : ∀ r, r < 134 + 16 * i → fw2 r = fw1 r := fun r hr => by rw [p2 r hr, vu_n (by omega)]
      have hq2 : ad2 (134 + 16 * i) = q1 := by rw [p1 _ (by omega), vu_s]
      refine g_astq C0 (o := 132) (n := 2) (ci := 3) (r := (RX3, TX3, 8)) 3 (134 + 16 * i) (by omega) (a2 _ (by omega)) ((f2 _ (by omega)).trans i4) rfl (by omega) hq2 p3 rfl (vp_in_nI (by omega) (by omega)) dX2_init_38 rfl ?_
      refine g_iinc C0 0 (nI (i + 1)) [(1, .int (nI (i + 1))), (0, .ref x)] dX2_init_39 rfl (nI_succ i).symm (by decide) rfl rfl ?_
      refine g_goto C0 (tgt := 21) dX2_init_42 (by decide) ?_
      have := ih (i + 1) ad2 (va_up fw2 132 (.inl (Y 3, 2, .inr (.inr (.inr (.inr (va_up g (nI i).toNatClampNeg (some q1)))))))) (by omega) ⟨fun r hr => by rw [a2 r (by omega)]; exact i1 r hr, fun q hq => by rw [vu_n (by omega), f2 q (by omega)]; exact i2 q hq, ?_, ⟨_, vu_s, fun j hj => ?_⟩, ?_, ?_⟩
      · rw [show 134 + 16 * (i + 1) = 134 + 16 * i + 16 by omega, show 2 + 16 * (i + 1) = 2 + 16 * i + 1 + 15 by omega, show 4 + 180 * (i + 1) = 4 + 180 * i + 8 + 172 by omega] at this
        exact this
      · rw [vu_n (by omega), f2 131 (by omega), i3, a2 _ (by omega), a2 _ (by omega)]
      · rw [nI_clamp (by omega)]
        by_cases hji : j = i
        · subst hji; rw [vu_s, hq2]
        · rw [vu_n hji, i4b j (by omega), a2 _ (by omega)]
      · rw [vu_n (by omega), f2 _ (by omega)]; exact i5
      · rw [show 134 + 16 * (i + 1) = 134 + 16 * i + 16 by omega]
        refine BK.ap (mi := 134 + 16 * i) (i6.mv (by omega) a2 (fun q q1 q2 => ?_)) ((BK.snd p4 (Or.inr (Or.inr ⟨i, by omega, rfl⟩))).mv (Nat.le_refl _) (fun _ _ => rfl) (fun q q1 q2 => vu_n (by omega)))
        rw [vu_n (by omega)]
        exact f2 q q2
  refine g_aload_n C0 0 dX2_init_0 rfl rfl rfl ?_
  refine g_obj C0 (by decide +kernel) (by decide +kernel) (List.mem_of_getElem? (i := 3) rfl) dX2_init_1 ⟨Nat.le_of_ble_eq_true rfl, Nat.le_of_ble_eq_true rfl⟩ rfl ?_
  refine g_aload_n C0 0 dX2_init_4 rfl rfl rfl ?_
  refine g_iconst C0 2 dX2_init_5 (by decide) rfl ?_
  refine g_newq C0 (C := RX3) 2 3 rfl (by decide +kernel) (fun h => h.1) (by decide) (by decide) (by decide) ⟨Nat.le_of_ble_eq_true rfl, Nat.le_of_ble_eq_true rfl⟩ dX2_init_6 rfl (fun q1 => ?_)
  refine g_put C0 (o := 131) (ci := 2) (C := RX2) (T := TX2) (N := 2) (Ft := tyX2) (ref := RX2) (fs := [.null, .null]) 0 (v := .ref q1) (ty := .array (.object "PhaseTones$Sound")) (by omega) ((vu_n (by omega)).trans hx.symm) ((vu_n (by omega)).trans hf) rfl fw_X2_init0 tyX2_ok nmX2 (by decide) (by decide +kernel) (fun _ h9 => h9) (Or.inr ⟨rfl, hnm, rfl⟩) (by decide +kernel) rfl rfl (Nat.le_of_ble_eq_true rfl) dX2_init_9 rfl ?_
  refine g_aload_n C0 0 dX2_init_12 rfl rfl rfl ?_
  refine g_iconst C0 2 dX2_init_13 (by decide) rfl ?_
  refine g_newa C0 (atype := .boolean) (ty := .boolean) 2 2 rfl (by decide +kernel) rfl (fun cA => rfl) (by decide) (by decide) (by decide) ⟨Nat.le_of_ble_eq_true rfl, Nat.le_of_ble_eq_true rfl⟩ dX2_init_14 rfl (fun q2 => ?_)
  refine g_put C0 (o := 131) (ci := 2) (C := RX2) (T := TX2) (N := 2) (Ft := tyX2) (ref := RX2) (fs := [.ref q1, .null]) 1 (v := .ref q2) (ty := .array .boolean) (by omega) ((vu_n (by omega)).trans ((vu_n (by omega)).trans hx.symm)) ((vu_n (by omega)).trans vu_s) rfl fw_X2_init0 tyX2_ok nmX2 (by decide) (by decide +kernel) (fun _ h9 => h9) (Or.inr ⟨rfl, hnm, rfl⟩) (by decide +kernel) rfl rfl (Nat.le_of_ble_eq_true rfl) dX2_init_16 rfl ?_
  refine g_iconst C0 0 dX2_init_19 (by decide) rfl ?_
  refine g_istore_n C0 [(1, .int 0), (0, .ref x)] dX2_init_20 rfl (by decide) rfl rfl ?_
  refine loop 2 0 _ _ (by omega) ⟨fun r hr => ?_, fun q hq => ?_, ?_, ⟨fun _ => none, ?_, fun j hj => absurd hj (by omega)⟩, ?_, fun adF hF q q1 q2 => absurd q2 (by omega)⟩
  · rw [vu_n (by omega), vu_n (by omega)]
  · repeat rw [vu_n (by omega)]
  · rw [vu_s, vu_n (by omega : 132 ≠ 131 + 1 + 1), vu_s, show 133 = 131 + 1 + 1 from rfl, vu_s]
    rfl
  · rw [vu_n (by omega), vu_n (by omega), vu_n (by omega), vu_s]
  · rw [vu_n (by omega), vu_s]
abbrev rm_X1_init : Room := { frames := 1, cells := 1, slots := 60, locals := 20 }
theorem fw_X1_init0 : ∀ w ∈ wsX10, w ∈ wsX1_init := by decide +kernel
def PostX1 (Y : Nat → ClassId) (ad : Nat → Nat) (fw : Nat → va_E) : (Nat → Nat) → (Nat → va_E) → Prop := fun ad' fw' => ag 167 ad ad' ∧ (∀ q, q < 166 → fw' q = fw q) ∧ (∃ vs, fw' 166 = .inr (1, vs)) ∧ BK Y 168 166 168 ad' fw'
theorem c_X1_init {l : Launch} {D : va_G} {Y : Nat → ClassId} {b : Nat} {ad : Nat → Nat} {fw : Nat → va_E} (hf : fw 166 = .inr (1, [.null, .int 0, .int 0, .int 0, .int 0, .int 0, .int 0])) : ConG l yX1_init wsX1_init rm_X1_init [.ref (ad 166)] D Y b 167 ad fw 168 (PostX1 Y ad fw) := by
  refine conG_of (cc := cX1_init) (maxL := 1) (own := RX1) [.ref (ad 166)] (by decide +kernel) rfl rfl (Nat.le_of_ble_eq_true rfl) (fun p e s m args below meth c C0 hlk hret hnm => ?_)
  refine g_aload_n C0 0 dX1_init_0 rfl rfl rfl ?_
  refine g_obj C0 (by decide +kernel) (by decide +kernel) (List.mem_of_getElem? (i := 3) rfl) dX1_init_1 ⟨Nat.le_of_ble_eq_true rfl, Nat.le_of_ble_eq_true rfl⟩ rfl ?_
  refine g_aload_n C0 0 dX1_init_4 rfl rfl rfl ?_
  refine g_bipush C0 60 dX1_init_5 (by decide) rfl ?_
  refine g_newa C0 (atype := .char) (ty := .char) 60 0 rfl (by decide +kernel) rfl (fun cA => rfl) (by decide) (by decide) (by decide) ⟨Nat.le_of_ble_eq_true rfl, Nat.le_of_ble_eq_true rfl⟩ dX1_init_7 rfl (fun q1 => ?_)
  refine g_put C0 (o := 166) (ci := 1) (C := RX1) (T := TX1) (N := 7) (Ft := tyX1) (ref := RX1) (fs := [.null, .int 0, .int 0, .int 0, .int 0, .int 0, .int 0]) 0 (v := .ref q1) (ty := .array .char) (by omega) (vu_n (by omega)) ((vu_n (by omega)).trans hf) rfl fw_X1_init0 tyX1_ok nmX1 (by decide) (by decide +kernel) (fun _ h9 => h9) (Or.inr ⟨rfl, hnm, rfl⟩) (by decide +kernel) rfl rfl (Nat.le_of_ble_eq_true rfl) dX1_init_9 rfl ?_
  refine g_vret C0 hlk hret dX1_init_12 ⟨fun r hr => vu_n (by omega), fun q hq => ?_, ⟨_, vu_s⟩, fun adF hF q q1 q2 => ?_⟩
  · rw [vu_n (by omega), vu_n (by omega)]
  · rcases (by omega : q = 166 ∨ q = 167) with rfl | rfl
    · rw [vu_s, ce1 rfl]
      refine Lk.of ?_
      unfold fs1
      rw [hF _ (by omega), vu_s]
      rfl
    · rw [vu_n (by omega), vu_s, ce17 rfl]
      exact Lk.of rfl
