/-! the law over CI, and the law from its entry -/
theorem law_K {s : State} {bs : Nat} (hts : ∀ w ∈ lw_tbl, w.before #[Value.ref bs] s = true) : ∃ (D : va_G) (Y : Nat → ClassId), va_K D vwCl (tysY Y) s := by
  obtain ⟨c0, i0, k0⟩ := u_known (ws := lw_tbl) (T := TX0) (N := 3) (C := RX0) (n := 3) hts inX0 (hts (.instantiable RX0 3) (by decide +kernel))
  obtain ⟨c1, i1, k1⟩ := u_known (ws := lw_tbl) (T := TX1) (N := 7) (C := RX1) (n := 7) hts inX1 (hts (.instantiable RX1 7) (by decide +kernel))
  obtain ⟨c2, i2, k2⟩ := u_known (ws := lw_tbl) (T := TX2) (N := 2) (C := RX2) (n := 2) hts inX2 (hts (.instantiable RX2 2) (by decide +kernel))
  obtain ⟨c3, i3, k3⟩ := u_known (ws := lw_tbl) (T := TX3) (N := 8) (C := RX3) (n := 8) hts inX3 (hts (.instantiable RX3 8) (by decide +kernel))
  obtain ⟨c4, i4, k4⟩ := u_known (ws := lw_tbl) (T := TX4) (N := 10) (C := RX4) (n := 10) hts inX4 (hts (.instantiable RX4 10) (by decide +kernel))
  obtain ⟨c5, i5, k5⟩ := u_known (ws := lw_tbl) (T := TX5) (N := 5) (C := RX5) (n := 5) hts inX5 (hts (.instantiable RX5 5) (by decide +kernel))
  obtain ⟨y0, ky0, p0, a01, a02, a03⟩ := Cond.arrayClass_spec (hts (.arrayClass .char) (by decide +kernel))
  obtain ⟨y1, ky1, p1, a11, a12, a13⟩ := Cond.arrayClass_spec (hts (.arrayClass .int) (by decide +kernel))
  obtain ⟨y2, ky2, p2, a21, a22, a23⟩ := Cond.arrayClass_spec (hts (.arrayClass .boolean) (by decide +kernel))
  obtain ⟨p3, y3, ky3, a31, a32, a33, a34, a35⟩ := Cond.arrayOver_spec (hts (.arrayOver (.object RX3)) (by decide +kernel))
  obtain ⟨p4, y4, ky4, a41, a42, a43, a44, a45⟩ := Cond.arrayOver_spec (hts (.arrayOver (.object RX4)) (by decide +kernel))
  refine ⟨(fun c => match c with | 0 => c0 | 1 => c1 | 2 => c2 | 3 => c3 | 4 => c4 | _ => c5, fun c => match c with | 0 => i0 | 1 => i1 | 2 => i2 | 3 => i3 | 4 => i4 | _ => i5), fun k => match k with | 0 => y0 | 1 => y1 | 2 => y2 | 3 => y3 | _ => y4, fun c q hq => ?_, fun k q hq => ?_⟩
  · match c, hq with
    | 0, hq => cases hq; exact k0
    | 1, hq => cases hq; exact k1
    | 2, hq => cases hq; exact k2
    | 3, hq => cases hq; exact k3
    | 4, hq => cases hq; exact k4
    | 5, hq => cases hq; exact k5
    | c + 6, hq => exact absurd (List.getElem?_eq_some_iff.mp hq).1 (by show ¬ c + 6 < 6; omega)
  · match k, hq with
    | 0, hq => cases hq; exact ⟨fun n z => ⟨fun k h => (by cases h), ky0, a02, p0, a03⟩, a01⟩
    | 1, hq => cases hq; exact ⟨fun n z => ⟨fun k h => (by cases h), ky1, a12, p1, a13⟩, a11⟩
    | 2, hq => cases hq; exact ⟨fun n z => ⟨fun k h => (by cases h), ky2, a22, p2, a23⟩, a21⟩
    | 3, hq => cases hq; exact ⟨fun n z => ⟨fun k h => (by cases h), ky3, a33, p3, a34⟩, ky3, p3, a33, a34, a31, a35⟩
    | 4, hq => cases hq; exact ⟨fun n z => ⟨fun k h => (by cases h), ky4, a43, p4, a44⟩, ky4, p4, a43, a44, a41, a45⟩
    | k + 5, hq => exact absurd (List.getElem?_eq_some_iff.mp hq).1 (by show ¬ k + 5 < 5; omega)
theorem hfs5 : ∀ j, j < 5 → defaultValue (tyX5 j) = vp_V [.null, .null, .null, .null, .null] j := fun j hj => by rcases (by omega : j = 0 ∨ j = 1 ∨ j = 2 ∨ j = 3 ∨ j = 4) with rfl | rfl | rfl | rfl | rfl <;> rfl
theorem hS_pos (S : Nat) : ∃ T, (hS S = T + 1 ∧ T ≤ 5 ∧ T + (S + 1 - hS S) = S) ∨ S > 6 := by
  unfold hS
  by_cases h : S < 6
  · rw [if_pos h]
    exact ⟨S, Or.inl ⟨rfl, by omega, by omega⟩⟩
  · rw [if_neg h]
    by_cases h2 : S = 6
    · exact ⟨5, Or.inl ⟨rfl, by omega, by omega⟩⟩
    · exact ⟨0, Or.inr (by omega)⟩
section LW
variable {K : KLaw}
theorem law_181 {m m2 : Nat} {μ : Mem} {S : Nat} {hl sl : Nat → Nat → Int32} {z : Nat → Int32} {σ σx : Nat → Int32} (hK : ∀ μ, K.1 1 μ) (h : CI 1 μ S hl σx z sl) (hz : z 1 = 1) (hs : sl 1 = σ) (hm : σ 1 = nI m) (hmx : σx 1 = nI m2) (hb : m2 ≤ 999999) (hlt : m < m2) : x_L_law_L181 K (nI m) (σ 3) 1 μ := by
  unfold x_L_law_L181
  refine ⟨fun q => absurd q (by decide), fun _ => ?_⟩
  refine k_restore (s := 1) (ct := 0) h (by omega) hz (fun μ1 h1 => ?_)
  rw [hs] at h1 ⊢
  refine ⟨fun _ => ?_, fun q => absurd hm q⟩
  refine k_c5 h1 ?_
  refine ⟨fun _ => ?_, fun q => absurd rfl q⟩
  obtain ⟨T, hT | hT⟩ := hS_pos S
  · obtain ⟨t1, t2, t3⟩ := hT
    have eL : hL S hl σx T = σx := by
      unfold hL
      rw [if_pos t3]
    rw [t1] at h1
    refine k_undo h1 (fun μ2 h2 => ?_)
    rw [eL] at h2
    refine ⟨fun q => absurd q (nI_pos (by omega)), fun _ => ?_⟩
    refine k_c1 h2 ?_
    rw [hmx]
    exact ⟨fun q => absurd q (nI_ge hlt (by omega)), fun _ => hK _⟩
  · exact absurd h.2.2.1 (by omega)
theorem law_102 {m : Nat} {μ : Mem} {S : Nat} {hl sl : Nat → Nat → Int32} {z : Nat → Int32} {σ : Nat → Int32} (hK : ∀ μ, K.1 1 μ) (h : CI 220 μ S hl σ z sl) (hm : σ 1 = nI m) (hmb : m ≤ 8000) : x_L_law_L102 K 1 μ := by
  unfold x_L_law_L102
  refine k_save (s := 1) h (by omega) (fun μ1 h1 => ?_)
  refine k_c5 h1 ?_
  refine ⟨fun q => absurd q (by decide), fun _ => ?_⟩
  refine a_wheels h1 ?_
  refine ⟨fun q => absurd q (by decide), fun _ => ⟨by decide, ?_⟩⟩
  intro r36 hr36
  obtain ⟨x, hx, rfl⟩ := nI_of (Int32.not_lt.mpr hr36)
  refine a_samples (ct := 187) hx h1 hm (by omega) (fun μ2 S2 hl2 c hc1 hc2 h2 => ?_)
  refine ⟨fun q => absurd q (by decide), fun _ => ?_⟩
  refine a_wheels h2 ?_
  refine ⟨fun q => absurd q (by decide), fun _ => ⟨by decide, ?_⟩⟩
  have hm2 := mkN_1 hm c
  intro r44 hr44
  obtain ⟨x2, hx2, rfl⟩ := nI_of (Int32.not_lt.mpr hr44)
  rw [show nI x2 - nI x2 / 4 * 4 = nI (x2 % 4) from pk_rem (a := x2) (d := 4) hx2 (by omega) (by omega)]
  refine a_round (ct := 146) h2 hm2 (by omega) (Nat.mod_lt _ (by omega)) (fun μ3 S3 hl3 σ3 m3 h3 e3 l3 b3 => ?_)
  refine ⟨fun q => absurd q (by decide), fun _ => ⟨by decide, ?_⟩⟩
  intro r49 hr49
  obtain ⟨x3, hx3, rfl⟩ := nI_of (Int32.not_lt.mpr hr49)
  rw [show nI x3 - nI x3 / 4 * 4 = nI (x3 % 4) from pk_rem (a := x3) (d := 4) hx3 (by omega) (by omega)]
  refine a_round (ct := 105) h3 e3 (by omega) (Nat.mod_lt _ (by omega)) (fun μ4 S4 hl4 σ4 m4 h4 e4 l4 b4 => ?_)
  refine ⟨fun q => absurd q (by decide), fun _ => ?_⟩
  rw [hm]
  refine law_181 (m := m) (m2 := m4) (σ := σ) hK (CI.dns (ct := 1) 104 h4) (by rw [upd_n (by omega), upd_s]) (by rw [upS_n (by omega), upS_s]) hm e4 (by omega) (by omega)
theorem law_x (hK : ∀ μ, K.1 1 μ) : x_L_law MI K := by
  have h0 := ci_0
  have key : ∀ (n k : Nat) (μ : Mem) (S : Nat) (hl : Nat → Nat → Int32) (σ : Nat → Int32) (m : Nat), k + n = 40 → CI (220 + 2 * n) μ S hl σ (fun _ => 0) (fun _ _ => 0) → σ 1 = nI m → m ≤ 200 * k → x_L_law_L54 K (n + 1) 1 (nI k) μ := by
    intro n
    induction n with
    | zero =>
      intro k μ S hl σ m hk h hm hmb
      obtain rfl : k = 40 := by omega
      show xb_L_law_L54 _ _ _ _ _
      unfold xb_L_law_L54
      exact ⟨fun _ => law_102 hK h hm (by omega), fun q => absurd (nI_le (a := 40) (b := 40) (by omega) (by omega)) q⟩
    | succ n ih =>
      intro k μ S hl σ m hk h hm hmb
      have h : CI (220 + 2 * n + 2) μ S hl σ (fun _ => 0) (fun _ _ => 0) := h
      show xb_L_law_L54 _ _ _ _ _
      unfold xb_L_law_L54
      refine ⟨fun q => absurd q (nI_ge (a := k) (b := 40) (by omega) (by omega)), fun _ => ⟨fun q => absurd q (by decide), fun _ => ⟨nI_pos' (by omega), ?_⟩⟩⟩
      intro r55 hr55
      obtain ⟨x, hx, rfl⟩ := nI_of (Int32.not_lt.mpr hr55)
      refine a_acts hx h hm (by omega) (fun μ1 S1 hl1 σ1 m1 h1 e1 l1 b1 => ?_)
      have l90 : x_L_law_L90 K (x_L_law_L54 K (n + 1)) (nI k) μ1 := by
        unfold x_L_law_L90 x_L_law_L95
        rintro _ rfl
        rw [nI_1]
        exact ih (k + 1) μ1 S1 hl1 σ1 m1 (by omega) h1 e1 (by omega)
      refine ⟨fun q => absurd q (by decide), fun _ => ⟨fun _ => l90, fun _ => ?_⟩⟩
      refine a_wheels h1 ?_
      exact ⟨fun q => absurd q (by decide), fun _ => l90⟩
  unfold x_L_law
  refine k_undoNo h0 ?_
  refine ⟨fun _ => ?_, fun q => absurd rfl q⟩
  refine k_restoreNo (s := 0) h0 (by omega) rfl ?_
  refine ⟨fun _ => ?_, fun q => absurd rfl q⟩
  refine k_sampleNo (g := 0) h0 (by omega) mr_a.2.1 ?_
  refine ⟨fun _ => ?_, fun q => absurd rfl q⟩
  refine k_c3 h0 ?_
  rw [mr_msk]
  refine ⟨fun _ => ?_, fun q => absurd rfl q⟩
  unfold x_L_law_L51
  exact ⟨41, key 40 0 MI 0 (fun _ _ => 0) MR 0 (by omega) (CI.dns (ct := 300) 700 h0) mr_a.2.1 (by omega)⟩
end LW
theorem whole_start {p : Program} {e : Env} {s : State} {m : MethodId} {below : List Frame} {meth : Method} {c : Code} (l : Launch) (hflags : l.flags = flags0) {b L : Nat} {xs : Nat → Int32} (hL : L ≤ 260) (C0 : lw_At p s m meth c b L xs) : W p l e room_1 s m #[Value.ref b] below meth c s.heap [] 0 0 (lw_Z below #[Value.ref b] s) (entryFrame m ([Value.ref b] : List Value).toArray 5) := by
  obtain ⟨hx, hb, hr, hml, hown, hts, hX, hbl, hlk, -⟩ := C0
  obtain ⟨D, Y, hK⟩ := law_K hts
  have hN : NW s := ⟨va_Nw.of rfl (hts (.methodLinkNest RX3 28 yX4_init RX5) (by decide +kernel)), va_Nw.of rfl (hts (.methodLinkNest RX5 35 yX1_init RX5) (by decide +kernel))⟩
  have hO : AOW s := ⟨va_AO.of (hts (.arrayOver (.object RX3)) (by decide +kernel)), va_AO.of (hts (.arrayOver (.object RX4)) (by decide +kernel))⟩
  have CG0 : CG D Y s.heap.size room_1 p s #[Value.ref b] m c code 5 RL wsL_law := ⟨⟨hx, hb, hml, hown, fun w hw => hts w (wsL_law_in w hw)⟩, hK, hN, hO, Nat.le_refl _⟩
  have hl := lv_entry ([.ref b]) (n := 5) (Nat.le_of_ble_eq_true rfl)
  rw [lg_entry_eq]
  suffices main : G p l e room_1 s m #[Value.ref b] below meth c D s.heap.size 0 0 5 (lw_Z below #[Value.ref b] s) 0 (lv_args 0 [.ref b]) [] 0 (fun _ => 0) (fun _ => .inr (0, [])) from main _ _ _ hl (fun k q h => by rw [wgr_out (Nat.zero_le _)] at h; cases h) ⟨fun i j x y h _ _ => (by rw [wgr_out (Nat.zero_le _)] at h; cases h), fun k q h => (by rw [wgr_out (Nat.zero_le _)] at h; cases h)⟩ va_S.rf
  show G p l e room_1 s m #[Value.ref b] below meth c D s.heap.size 0 0 5 (lw_Z below #[Value.ref b] s) 0 [(0, .ref b)] [] 0 (fun _ => 0) (fun _ => .inr (0, []))
  refine g_new CG0 (ci := 5) (N := 5) (C := RX5) (T := TX5) (Ft := tyX5) [.null, .null, .null, .null, .null] inlX5 tyX5_ok (by decide +kernel) (by decide +kernel) (by decide +kernel) rfl hfs5 ⟨Nat.le_of_ble_eq_true rfl, Nat.le_of_ble_eq_true rfl⟩ dL_law_0 rfl (fun q1 => ?_)
  refine g_dup CG0 dL_law_3 rfl rfl ?_
  have hM := c_X5_init (l := l) (D := D) (Y := Y) (b := s.heap.size) (ad := va_up (fun _ => 0) 0 q1) (fw := va_up (fun _ => .inr (0, [])) 0 (.inr (5, [.null, .null, .null, .null, .null]))) vu_s
  rw [show va_up (fun _ => 0) 0 q1 0 = q1 from vu_s] at hM
  refine g_init CG0 (rest := [.ref q1]) hM dL_law_4 gL_law_X5_init rfl (by decide +kernel) (by decide +kernel) (by decide +kernel) rfl (by decide +kernel) ⟨Nat.le_of_ble_eq_true rfl, Nat.le_of_ble_eq_true rfl⟩ ⟨Nat.le_of_ble_eq_true rfl, Nat.le_of_ble_eq_true rfl⟩ rfl (Nat.le_of_ble_eq_true rfl) rfl (fun ad1 fw1 hP => ?_)
  obtain ⟨p1, p2⟩ := hP
  have e1 : ad1 0 = q1 := by rw [p1 0 (by omega), vu_s]
  refine g_astore_n CG0 [(1, .ref q1), (0, .ref b)] dL_law_7 rfl (by decide) rfl rfl ?_
  refine g_toJ (Y := Y) (μ := MI) (fun q hq => p2 ad1 (fun _ _ => rfl) q (Nat.zero_le _) hq) (fun hAd hPA => ?_)
  rw [← e1]
  have CJ : CX D Y ad1 (AB s.heap.size) room_1 168 1887 p s #[Value.ref b] m c code 5 RL wsL_law := ⟨CG0.1, hK, hN, hAd, hPA, Nat.le_of_ble_eq_true rfl, Nat.le_of_ble_eq_true rfl⟩
  exact w_L_law CJ ⟨hX, hbl, hL, hlk⟩ hr MI ⟨fun r _ => r = 1, fun _ _ h => h⟩ (law_x (fun _ => rfl))
