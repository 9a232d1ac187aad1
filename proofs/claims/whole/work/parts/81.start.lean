/-! the law from its entry -/
theorem law_K {s : State} {bs : Nat} (hts : ∀ w ∈ lw_tbl, w.before #[Value.ref bs] s = true) : ∃ (D : va_G) (Y : Nat → ClassId), va_K D vwCl (tysY Y) s := by
  obtain ⟨c0, i0, k0⟩ := u_known (ws := lw_tbl) (T := TX0) (N := 3) (C := RX0) (n := 3) hts inX0 (hts (.instantiable RX0 3) (by decide +kernel))
  obtain ⟨c1, i1, k1⟩ := u_known (ws := lw_tbl) (T := TX1) (N := 7) (C := RX1) (n := 7) hts inX1 (hts (.instantiable RX1 7) (by decide +kernel))
  obtain ⟨c2, i2, k2⟩ := u_known (ws := lw_tbl) (T := TX2) (N := 2) (C := RX2) (n := 2) hts inX2 (hts (.instantiable RX2 2) (by decide +kernel))
  obtain ⟨c3, i3, k3⟩ := u_known (ws := lw_tbl) (T := TX3) (N := 8) (C := RX3) (n := 8) hts inX3 (hts (.instantiable RX3 8) (by decide +kernel))
  obtain ⟨c4, i4, k4⟩ := u_known (ws := lw_tbl) (T := TX4) (N := 10) (C := RX4) (n := 10) hts inX4 (hts (.instantiable RX4 10) (by decide +kernel))
  obtain ⟨c5, i5, k5⟩ := u_known (ws := lw_tbl) (T := TX5) (N := 5) (C := RX5) (n := 5) hts inX5 (hts (.instantiable RX5 5) (by decide +kernel))
  obtain ⟨c6, i6, k6⟩ := u_known (ws := lw_tbl) (T := TX6) (N := 12) (C := RX6) (n := 12) hts inX6 (hts (.instantiable RX6 12) (by decide +kernel))
  obtain ⟨y0, ky0, p0, a01, a02, a03⟩ := Cond.arrayClass_spec (hts (.arrayClass .char) (by decide +kernel))
  obtain ⟨y1, ky1, p1, a11, a12, a13⟩ := Cond.arrayClass_spec (hts (.arrayClass .int) (by decide +kernel))
  obtain ⟨y2, ky2, p2, a21, a22, a23⟩ := Cond.arrayClass_spec (hts (.arrayClass .boolean) (by decide +kernel))
  obtain ⟨p3, y3, ky3, a31, a32, a33, a34, a35⟩ := Cond.arrayOver_spec (hts (.arrayOver (.object RX3)) (by decide +kernel))
  obtain ⟨p4, y4, ky4, a41, a42, a43, a44, a45⟩ := Cond.arrayOver_spec (hts (.arrayOver (.object RX4)) (by decide +kernel))
  refine ⟨(fun c => match c with | 0 => c0 | 1 => c1 | 2 => c2 | 3 => c3 | 4 => c4 | 5 => c5 | _ => c6, fun c => match c with | 0 => i0 | 1 => i1 | 2 => i2 | 3 => i3 | 4 => i4 | 5 => i5 | _ => i6), fun k => match k with | 0 => y0 | 1 => y1 | 2 => y2 | 3 => y3 | _ => y4, fun c q hq => ?_, fun k q hq => ?_⟩
  · match c, hq with
    | 0, hq => cases hq; exact k0
    | 1, hq => cases hq; exact k1
    | 2, hq => cases hq; exact k2
    | 3, hq => cases hq; exact k3
    | 4, hq => cases hq; exact k4
    | 5, hq => cases hq; exact k5
    | 6, hq => cases hq; exact k6
    | c + 7, hq => exact absurd (List.getElem?_eq_some_iff.mp hq).1 (by show ¬ c + 7 < 7; omega)
  · match k, hq with
    | 0, hq => cases hq; exact ⟨fun n z => ⟨fun k h => (by cases h), ky0, a02, p0, a03⟩, a01⟩
    | 1, hq => cases hq; exact ⟨fun n z => ⟨fun k h => (by cases h), ky1, a12, p1, a13⟩, a11⟩
    | 2, hq => cases hq; exact ⟨fun n z => ⟨fun k h => (by cases h), ky2, a22, p2, a23⟩, a21⟩
    | 3, hq => cases hq; exact ⟨fun n z => ⟨fun k h => (by cases h), ky3, a33, p3, a34⟩, ky3, p3, a33, a34, a31, a35⟩
    | 4, hq => cases hq; exact ⟨fun n z => ⟨fun k h => (by cases h), ky4, a43, p4, a44⟩, ky4, p4, a43, a44, a41, a45⟩
    | k + 5, hq => exact absurd (List.getElem?_eq_some_iff.mp hq).1 (by show ¬ k + 5 < 5; omega)
theorem hfs5 : ∀ j, j < 5 → defaultValue (tyX5 j) = vp_V [.null, .null, .null, .null, .null] j := fun j hj => by rcases (by omega : j = 0 ∨ j = 1 ∨ j = 2 ∨ j = 3 ∨ j = 4) with rfl | rfl | rfl | rfl | rfl <;> rfl
theorem hfs6 : ∀ j, j < 12 → defaultValue (tyX6 j) = vp_V [.null, .null, .null, .null, .null, .null, .null, .null, .int 0, .int 0, .int 0, .int 0] j := fun j hj => by rcases (by omega : j = 0 ∨ j = 1 ∨ j = 2 ∨ j = 3 ∨ j = 4 ∨ j = 5 ∨ j = 6 ∨ j = 7 ∨ j = 8 ∨ j = 9 ∨ j = 10 ∨ j = 11) with rfl | rfl | rfl | rfl | rfl | rfl | rfl | rfl | rfl | rfl | rfl | rfl <;> rfl
theorem whole_start {p : Program} {e : Env} {s : State} {m : MethodId} {below : List Frame} {meth : Method} {c : Code} (l : Launch) (hflags : l.flags = flags0) {b L : Nat} {xs : Nat → Int32} (hL : L ≤ 2048) (C0 : lw_At p s m meth c b L xs) : W p l e room_1 s m #[Value.ref b] below meth c s.heap [] 0 0 (lw_Z below #[Value.ref b] s) (entryFrame m ([Value.ref b] : List Value).toArray 4) := by
  obtain ⟨hx, hb, hr, hml, hown, hts, hX, hbl, hlk, -⟩ := C0
  obtain ⟨D, Y, hK⟩ := law_K hts
  have hN : NW s := ⟨va_Nw.of rfl (hts (.methodLinkNest RX1 60 yX5_isOutside RX5) (by decide +kernel)), va_Nw.of rfl (hts (.methodLinkNest RX3 28 yX4_init RX5) (by decide +kernel)), va_Nw.of rfl (hts (.methodLinkNest RX5 35 yX1_init RX5) (by decide +kernel))⟩
  have hO : AOW s := ⟨va_AO.of (hts (.arrayOver (.object RX3)) (by decide +kernel)), va_AO.of (hts (.arrayOver (.object RX4)) (by decide +kernel))⟩
  have CG0 : CG D Y s.heap.size room_1 p s #[Value.ref b] m c code 4 RL wsL_law := ⟨⟨hx, hb, hml, hown, fun w hw => hts w (wsL_law_in w hw)⟩, hK, hN, hO, Nat.le_refl _⟩
  have hl := lv_entry ([.ref b]) (n := 4) (Nat.le_of_ble_eq_true rfl)
  rw [lg_entry_eq]
  suffices main : G p l e room_1 s m #[Value.ref b] below meth c D s.heap.size 0 0 4 (lw_Z below #[Value.ref b] s) 0 (lv_args 0 [.ref b]) [] 0 (fun _ => 0) (fun _ => .inr (0, [])) from main _ _ _ hl (fun k q h => by rw [wgr_out (Nat.zero_le _)] at h; cases h) ⟨fun i j x y h _ _ => (by rw [wgr_out (Nat.zero_le _)] at h; cases h), fun k q h => (by rw [wgr_out (Nat.zero_le _)] at h; cases h)⟩ va_S.rf
  show G p l e room_1 s m #[Value.ref b] below meth c D s.heap.size 0 0 4 (lw_Z below #[Value.ref b] s) 0 [(0, .ref b)] [] 0 (fun _ => 0) (fun _ => .inr (0, []))
  refine g_new CG0 (ci := 5) (N := 5) (C := RX5) (T := TX5) (Ft := tyX5) [.null, .null, .null, .null, .null] inlX5 tyX5_ok (by decide +kernel) (by decide +kernel) (by decide +kernel) rfl hfs5 ⟨Nat.le_of_ble_eq_true rfl, Nat.le_of_ble_eq_true rfl⟩ dL_law_0 rfl (fun q1 => ?_)
  refine g_dup CG0 dL_law_3 rfl rfl ?_
  have hM := c_X5_init (l := l) (D := D) (Y := Y) (b := s.heap.size) (ad := va_up (fun _ => 0) 0 q1) (fw := va_up (fun _ => .inr (0, [])) 0 (.inr (5, [.null, .null, .null, .null, .null]))) vu_s
  rw [show va_up (fun _ => 0) 0 q1 0 = q1 from vu_s] at hM
  refine g_init CG0 (rest := [.ref q1]) hM dL_law_4 gL_law_X5_init rfl (by decide +kernel) (by decide +kernel) (by decide +kernel) rfl (by decide +kernel) ⟨Nat.le_of_ble_eq_true rfl, Nat.le_of_ble_eq_true rfl⟩ ⟨Nat.le_of_ble_eq_true rfl, Nat.le_of_ble_eq_true rfl⟩ rfl (Nat.le_of_ble_eq_true rfl) rfl (fun ad1 fw1 hP => ?_)
  obtain ⟨p1, p2⟩ := hP
  have e1 : ad1 0 = q1 := by rw [p1 0 (by omega), vu_s]
  refine g_astore_n CG0 [(1, .ref q1), (0, .ref b)] dL_law_7 rfl (by decide) rfl rfl ?_
  refine g_new CG0 (ci := 6) (N := 12) (C := RX6) (T := TX6) (Ft := tyX6) [.null, .null, .null, .null, .null, .null, .null, .null, .int 0, .int 0, .int 0, .int 0] inlX6 tyX6_ok (by decide +kernel) (by decide +kernel) (by decide +kernel) rfl hfs6 ⟨Nat.le_of_ble_eq_true rfl, Nat.le_of_ble_eq_true rfl⟩ dL_law_8 rfl (fun q2 => ?_)
  refine g_dup CG0 dL_law_11 rfl rfl ?_
  have hM := c_X6_init (l := l) (D := D) (Y := Y) (b := s.heap.size) (ad := va_up ad1 168 q2) (fw := va_up fw1 168 (.inr (6, [.null, .null, .null, .null, .null, .null, .null, .null, .int 0, .int 0, .int 0, .int 0]))) (p2.mv (Nat.le_refl _) (fun r hr => vu_n (by omega)) (fun q _ hq => vu_n (by omega))) vu_s
  rw [show va_up ad1 168 q2 168 = q2 from vu_s] at hM
  refine g_init CG0 (rest := [.ref q2]) hM dL_law_12 gL_law_X6_init rfl (by decide +kernel) (by decide +kernel) (by decide +kernel) rfl (by decide +kernel) ⟨Nat.le_of_ble_eq_true rfl, Nat.le_of_ble_eq_true rfl⟩ ⟨Nat.le_of_ble_eq_true rfl, Nat.le_of_ble_eq_true rfl⟩ rfl (Nat.le_of_ble_eq_true rfl) rfl (fun ad2 fw2 hP => ?_)
  obtain ⟨p3, p4⟩ := hP
  have e2 : ad2 168 = q2 := by rw [p3 168 (by omega), vu_s]
  have e3 : ad2 0 = q1 := by rw [p3 0 (by omega), vu_n (by omega), e1]
  refine g_astore_n CG0 [(2, .ref q2), (1, .ref q1), (0, .ref b)] dL_law_15 rfl (by decide) rfl rfl ?_
  refine g_iconst CG0 0 dL_law_16 (by decide) rfl ?_
  refine g_istore_n CG0 [(3, .int 0), (2, .ref q2), (1, .ref q1), (0, .ref b)] dL_law_17 rfl (by decide) rfl rfl ?_
  refine g_toJ (Y := Y) (μ := um MI 169 MR) (fun q hq => Lk.of (by rw [p4])) (fun hAd hPA => ?_)
  rw [← e2, ← e3]
  have CJ : CX D Y ad2 (AB s.heap.size) room_1 177 3871 p s #[Value.ref b] m c code 4 RL wsL_law := ⟨CG0.1, hK, hN, hAd, hPA, Nat.le_of_ble_eq_true rfl, Nat.le_of_ble_eq_true rfl⟩
  exact law_loop CJ hX hbl hL hr hlk 512 0 _ (by omega) (by omega) inv_0
