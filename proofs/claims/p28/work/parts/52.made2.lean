/-! a Sound is made -/
def fs3n : List Value := [.int 0, .null, .null, .int 0, .int 0, .int 0, .int 0, .null]
def fs3i (a b c : Nat) : List Value := [.int 400, .ref a, .ref b, .int 0, .int 0, .int 0, .int 0, .ref c]
def vstep (g : Nat → Int32) (i : Nat) : Nat → Int32 := upd (upd (upd g (nI i).toNatClampNeg (nI i)) ((16 : Int32) + nI i).toNatClampNeg (if i < 8 then 2 * nI i else 30 - 2 * nI i)) ((32 : Int32) + nI i).toNatClampNeg (if i < 8 then 15 else 0)
def vt : Nat → Nat → Int32
  | 0 => fun _ => 0
  | i + 1 => vstep (vt i) i
abbrev rm_X3_init : Room := { frames := 2, cells := 15, slots := 172, locals := 60 }
theorem fw_X3_init3 : ∀ w ∈ wsX30, w ∈ wsX3_init := by decide +kernel
theorem fw_X3_init4 : ∀ w ∈ wsX40, w ∈ wsX3_init := by decide +kernel
def SM0 (d j : Nat) : Int32 := if d = 0 then (if j = 0 then 400 else 0) else if d = 1 then vt 16 j else if d = 4 then (if j = 1 then 1024 else if j = 3 then 8 else if j = 4 then 1 else 0) else if d = 7 ∨ d = 10 ∨ d = 13 then (if j = 1 then 1024 else if j = 3 then 8 else 0) else 0
/-- the state within the constructor: i wheels are made -/
def IW (Y : Nat → ClassId) (o i : Nat) (ad0 : Nat → Nat) (fw0 : Nat → va_E) (vals : Nat → Int32) (ad : Nat → Nat) (fw : Nat → va_E) : Prop :=
  ag (o + 1) ad0 ad ∧ (∀ q, q < o → fw q = fw0 q) ∧ fw o = .inr (3, fs3i (ad (o + 1)) (ad (o + 2)) (ad (o + 3))) ∧ fw (o + 1) = .inl (Y 1, 64, .inl vals) ∧ (∃ g : Nat → Option Nat, fw (o + 2) = .inl (Y 4, 4, .inr (.inr (.inr (.inr g)))) ∧ ∀ j, j < i → g j = some (ad (o + 4 + 3 * j))) ∧ fw (o + 3) = .inl (Y 1, 32, .inl (fun _ => 0)) ∧ ∀ j, j < i → fw (o + 4 + 3 * j) = .inr (4, fs4i (ad (o + 4 + 3 * j + 1)) (ad (o + 4 + 3 * j + 2))) ∧ fw (o + 4 + 3 * j + 1) = .inl (Y 1, 4, .inl (fun _ => 0)) ∧ fw (o + 4 + 3 * j + 2) = .inl (Y 1, 4, .inl (fun _ => 0))
def Post3 (Y : Nat → ClassId) (o : Nat) (ad : Nat → Nat) (fw : Nat → va_E) : (Nat → Nat) → (Nat → va_E) → Prop := fun ad' fw' => ag (o + 1) ad ad' ∧ (∀ q, q < o → fw' q = fw q) ∧ (∃ vs, fw' o = .inr (3, vs)) ∧ BLK Y (o + 16) ad' fw' (fun q => SM0 (q - o)) o
theorem lk_arr {cA : ClassId} {n : Nat} {f g : Nat → Option Nat} (h : ∀ j, j < n → f j = g j) : Lk (.inl (cA, n, .inr (.inr (.inr (.inr f))))) (.inl (cA, n, .inr (.inr (.inr (.inr g))))) := by
  intro D cl a H hx
  have e : vp_cell cA (n, .inr (.inr (.inr (.inr f)))) = vp_cell cA (n, .inr (.inr (.inr (.inr g)))) := by
    rw [vp_cell_q, vp_cell_q]
    have : ∀ u v : Nat → Value, (∀ j, j < n → u j = v j) → arrV cA n u = arrV cA n v := by
      intro u v huv
      unfold arrV
      congr 1
      first
        | exact Array.ext (by simp) (fun i h1 h2 => by simp at h1 h2 ⊢; exact huv i h1)
        | (apply Array.ext'; simp; exact huv)
    exact this _ _ (fun j hj => by rw [h j hj])
  show H[a]? = some (vp_cell cA (n, .inr (.inr (.inr (.inr g)))))
  rw [← e]
  exact hx
theorem c_X3_init {l : Launch} {D : va_G} {Y : Nat → ClassId} {b o : Nat} {ad : Nat → Nat} {fw : Nat → va_E} (hkd : kd o = 3) (hf : fw o = .inr (3, fs3n)) : ConG l yX3_init wsX3_init rm_X3_init [.ref (ad o)] D Y b (o + 1) ad fw (o + 16) (Post3 Y o ad fw) := by
  refine conG_of (cc := cX3_init) (maxL := 3) (own := RX3) [.ref (ad o)] (by decide +kernel) rfl rfl (Nat.le_of_ble_eq_true rfl) (fun p e s m args below meth c C0 hlk hret hnm => ?_)
  obtain ⟨x, hx⟩ : ∃ x, x = ad o := ⟨_, rfl⟩
  show G p l e rm_X3_init s m args below meth c D b 0 0 3 _ 0 [(0, .ref (ad o))] [] (o + 1) ad fw
  rw [← hx]
  -- the wheels
  have l138 : ∀ ad1 fw1, IW Y o 4 ad fw (vt 16) ad1 fw1 → ∀ v, G p l e rm_X3_init s m args below meth c D b 15 172 3 (MQ below (QG D b (o + 16) (Post3 Y o ad fw)) args s 15 172 (AB b)) 138 [(1, .int v), (0, .ref x)] [] (o + 16) ad1 fw1 := by
    intro ad1 fw1 hI v
    obtain ⟨i1, i2, i3, i4, ⟨g, i5, i5b⟩, i6, i7⟩ := hI
    have hxa : ad1 o = x := by rw [i1 o (by omega), hx]
    refine g_aload_n C0 1 dX3_init_138 rfl rfl rfl ?_
    refine g_get C0 (o := o) (ci := 3) (C := RX3) (T := TX3) (N := 8) (ref := RX3) 2 (v := .ref (ad1 (o + 2))) (by omega) hxa i3 rfl fw_X3_init3 (by decide) (by decide +kernel) (fun _ h9 => h9) rfl dX3_init_139 rfl ?_
    refine g_iconst C0 0 dX3_init_142 (by decide) rfl ?_
    refine g_aald C0 (o := o + 2) (C := RX4) (w := ad1 (o + 4)) 4 (by omega) rfl i5 rfl (i5b 0 (by omega)) (vp_lit (by decide)) dX3_init_143 rfl ?_
    refine g_iconst C0 1 dX3_init_144 (by decide) rfl ?_
    obtain ⟨w1, w2, w3⟩ := i7 0 (by omega)
    refine g_put C0 (o := o + 4) (ci := 4) (C := RX4) (T := TX4) (N := 10) (Ft := tyX4) (ref := RX4) 4 (v := .int 1) (ty := .boolean) (by omega) rfl w1 rfl fw_X3_init4 tyX4_ok nmX4 (by decide) (by decide +kernel) (fun _ h9 => h9) (Or.inl rfl) (by decide +kernel) rfl rfl (Nat.le_of_ble_eq_true rfl) dX3_init_145 rfl ?_
    refine g_vret C0 hlk hret dX3_init_148 ⟨i1, fun q hq => ?_, ⟨_, (vu_n (by omega)).trans i3⟩, fun adF hadF q q1 q2 => ?_⟩
    · rw [vu_n (by omega)]; exact i2 q hq
    · have a1 : ∀ r, r < o + 16 → adF r = ad1 r := hadF
      show Lk _ (ce Y adF q (SM0 (q - o)))
      have z0 : ∀ d, d ≠ 0 → d ≠ 1 → d ≠ 4 → d ≠ 7 → d ≠ 10 → d ≠ 13 → SM0 d = fun _ => 0 := by
        intro d d1 d2 d3 d4 d5 d6
        funext i
        unfold SM0
        rw [if_neg d1, if_neg d2, if_neg d3, if_neg (by omega)]
      obtain ⟨k1, k2, k3⟩ := (⟨kd_3v hkd, kd_3w hkd, kd_3l hkd⟩ : kd (o + 1) = 10 ∧ kd (o + 2) = 15 ∧ kd (o + 3) = 11)
      rcases Nat.lt_or_ge q (o + 4) with h | h
      · rcases (by omega : q = o ∨ q = o + 1 ∨ q = o + 2 ∨ q = o + 3) with h | h | h | h
        · rw [h, vu_n (by omega), i3, ce3 hkd, Nat.sub_self]
          refine Lk.of ?_
          unfold fs3 fs3i
          rw [a1 _ (by omega), a1 _ (by omega), a1 _ (by omega)]
          rfl
        · rw [h, vu_n (by omega), i4, ce10 k1, show o + 1 - o = 1 by omega]
          exact Lk.of rfl
        · rw [h, vu_n (by omega), i5, ce15 k2]
          refine lk_arr (fun j hj => ?_)
          rw [i5b j hj, a1 _ (by omega)]
        · rw [h, vu_n (by omega), i6, ce11 k3, z0 _ (by omega) (by omega) (by omega) (by omega) (by omega) (by omega)]
          exact Lk.rfl
      · obtain ⟨j, hj, hq⟩ : ∃ j, j < 4 ∧ (q = o + 4 + 3 * j ∨ q = o + 4 + 3 * j + 1 ∨ q = o + 4 + 3 * j + 2) := ⟨(q - o - 4) / 3, by omega, by omega⟩
        have k4 := kd_3e hkd hj
        obtain ⟨u1, u2, u3⟩ := i7 j hj
        rcases hq with h | h | h
        · rw [h, ce4 k4]
          refine Lk.of ?_
          rcases (by omega : j = 0 ∨ j = 1 ∨ j = 2 ∨ j = 3) with rfl | rfl | rfl | rfl
          · rw [show o + 4 + 3 * 0 - o = 4 by omega, show o + 4 + 3 * 0 = o + 4 from rfl, vu_s]
            unfold fs4 fs4i
            rw [a1 _ (by omega), a1 _ (by omega)]
            rfl
          · rw [show o + 4 + 3 * 1 - o = 7 by omega, vu_n (by omega), u1]
            unfold fs4 fs4i
            rw [a1 _ (by omega), a1 _ (by omega)]
            rfl
          · rw [show o + 4 + 3 * 2 - o = 10 by omega, vu_n (by omega), u1]
            unfold fs4 fs4i
            rw [a1 _ (by omega), a1 _ (by omega)]
            rfl
          · rw [show o + 4 + 3 * 3 - o = 13 by omega, vu_n (by omega), u1]
            unfold fs4 fs4i
            rw [a1 _ (by omega), a1 _ (by omega)]
            rfl
        · rw [h, vu_n (by omega), u2, ce12 (kd_4e k4), z0 _ (by omega) (by omega) (by omega) (by omega) (by omega) (by omega)]
          exact Lk.rfl
        · rw [h, vu_n (by omega), u3, ce12 (kd_4l k4), z0 _ (by omega) (by omega) (by omega) (by omega) (by omega) (by omega)]
          exact Lk.rfl
  have l114 : ∀ (k i : Nat) (ad1 : Nat → Nat) (fw1 : Nat → va_E), i + k = 4 → IW Y o i ad fw (vt 16) ad1 fw1 → G p l e rm_X3_init s m args below meth c D b (3 + 3 * i) (100 + 18 * i) 3 (MQ below (QG D b (o + 16) (Post3 Y o ad fw)) args s 15 172 (AB b)) 114 [(1, .int (nI i)), (0, .ref x)] [] (o + 4 + 3 * i) ad1 fw1 := by
    intro k
    induction k with
    | zero =>
      intro i ad1 fw1 hi hI
      obtain rfl : i = 4 := by omega
      refine g_iload_n C0 0 dX3_init_114 rfl rfl rfl ?_
      refine g_iconst C0 4 dX3_init_115 (by decide) rfl ?_
      refine g_icmp_ge C0 (tgt := 138) dX3_init_116 (by decide) rfl (fun _ => l138 ad1 fw1 hI _) (fun z => absurd (by decide) z)
    | succ k ih =>
      intro i ad1 fw1 hi hI
      obtain ⟨i1, i2, i3, i4, ⟨g, i5, i5b⟩, i6, i7⟩ := id hI
      have hxa : ad1 o = x := by rw [i1 o (by omega), hx]
      refine g_iload_n C0 0 dX3_init_114 rfl rfl rfl ?_
      refine g_iconst C0 4 dX3_init_115 (by decide) rfl ?_
      refine g_icmp_ge C0 (tgt := 138) dX3_init_116 (by decide) rfl (fun z => absurd z (nI_ge (a := i) (b := 4) (by omega) (by omega))) (fun _ => ?_)
      refine g_aload_n C0 1 dX3_init_119 rfl rfl rfl ?_
      refine g_get C0 (o := o) (ci := 3) (C := RX3) (T := TX3) (N := 8) (ref := RX3) 2 (v := .ref (ad1 (o + 2))) (by omega) hxa i3 rfl fw_X3_init3 (by decide) (by decide +kernel) (fun _ h9 => h9) rfl dX3_init_120 rfl ?_
      refine g_iload_n C0 0 dX3_init_123 rfl rfl rfl ?_
      refine g_new C0 (ci := 4) (N := 10) (C := RX4) (T := TX4) (Ft := tyX4) fs4n fw_X3_init4 tyX4_ok (by decide +kernel) (by decide +kernel) (by decide +kernel) rfl (fun j hj => by rcases (by omega : j = 0 ∨ j = 1 ∨ j = 2 ∨ j = 3 ∨ j = 4 ∨ j = 5 ∨ j = 6 ∨ j = 7 ∨ j = 8 ∨ j = 9) with rfl | rfl | rfl | rfl | rfl | rfl | rfl | rfl | rfl | rfl <;> rfl) ⟨by show 3 + 3 * i + 1 ≤ 15; omega, by show 100 + 18 * i + 10 ≤ 172; omega⟩ dX3_init_124 rfl (fun q1 => ?_)
      refine g_dup C0 dX3_init_127 rfl rfl ?_
      have hq1 : q1 = va_up ad1 (o + 4 + 3 * i) q1 (o + 4 + 3 * i) := vu_s.symm
      have hM := c_X4_init (l := l) (D := D) (Y := Y) (b := b) (o := o + 4 + 3 * i) (ad := va_up ad1 (o + 4 + 3 * i) q1) (fw := va_up fw1 (o + 4 + 3 * i) (.inr (4, fs4n))) vu_s
      rw [← hq1] at hM
      refine g_initN C0 (rest := [.ref q1, .int (nI i), .ref (ad1 (o + 2))]) hM dX3_init_128 gX3_init_X4_init_n28 rfl (by decide +kernel) C0.2.2.1.1 (by decide +kernel) rfl (by decide +kernel) ⟨Nat.le_of_ble_eq_true rfl, Nat.le_of_ble_eq_true rfl⟩ ⟨by show 3 + 3 * i + 1 + 2 ≤ 15; omega, by show 100 + 18 * i + 10 + 8 ≤ 172; omega⟩ rfl (Nat.le_of_ble_eq_true rfl) rfl (fun ad2 fw2 hP => ?_)
      obtain ⟨p1, p2, p3, p4, p5⟩ := hP
      have a2 : ∀ r, r < o + 4 + 3 * i → ad2 r = ad1 r := fun r hr => by rw [p1 r (by omega), vu_n (by omega)]
      have f2 : ∀ r, r < o + 4 + 3 * i → fw2 r = fw1 r := fun r hr => by rw [p2 r hr, vu_n (by omega)]
      have hq2 : ad2 (o + 4 + 3 * i) = q1 := by rw [p1 _ (by omega), vu_s]
      refine g_astq C0 (o := o + 2) (n := 4) (ci := 4) (r := (RX4, TX4, 10)) 4 (o + 4 + 3 * i) (by omega) (a2 _ (by omega)) ((f2 _ (by omega)).trans i5) rfl (by omega) hq2 p3 rfl (vp_in_nI (by omega) (by omega)) dX3_init_131 rfl ?_
      refine g_iinc C0 0 (nI (i + 1)) [(1, .int (nI (i + 1))), (0, .ref x)] dX3_init_132 rfl (nI_succ i).symm (by decide) rfl rfl ?_
      refine g_goto C0 (tgt := 114) dX3_init_135 (by decide) ?_
      have := ih (i + 1) ad2 (va_up fw2 (o + 2) (.inl (Y 4, 4, .inr (.inr (.inr (.inr (va_up g (nI i).toNatClampNeg (some q1)))))))) (by omega) ⟨fun r hr => by rw [a2 r (by omega)]; exact i1 r hr, fun q hq => by rw [vu_n (by omega), f2 q (by omega)]; exact i2 q hq, ?_, ?_, ⟨_, vu_s, fun j hj => ?_⟩, ?_, fun j hj => ?_⟩
      · rw [show o + 4 + 3 * (i + 1) = o + 4 + 3 * i + 3 by omega, show 3 + 3 * (i + 1) = 3 + 3 * i + 1 + 2 by omega, show 100 + 18 * (i + 1) = 100 + 18 * i + 10 + 8 by omega] at this
        exact this
      · rw [vu_n (by omega), f2 o (by omega), i3, a2 _ (by omega), a2 _ (by omega), a2 _ (by omega)]
      · rw [vu_n (by omega), f2 _ (by omega)]; exact i4
      · rw [nI_clamp (by omega)]
        by_cases hji : j = i
        · subst hji; rw [vu_s, hq2]
        · rw [vu_n hji, i5b j (by omega), a2 _ (by omega)]
      · rw [vu_n (by omega), f2 _ (by omega)]; exact i6
      · by_cases hji : j = i
        · subst hji
          rw [vu_n (by omega), vu_n (by omega), vu_n (by omega)]
          exact ⟨p3, p4, p5⟩
        · obtain ⟨u1, u2, u3⟩ := i7 j (by omega)
          rw [vu_n (by omega), vu_n (by omega), vu_n (by omega), f2 _ (by omega), f2 _ (by omega), f2 _ (by omega), a2 _ (by omega), a2 _ (by omega)]
          exact ⟨u1, u2, u3⟩
  -- the tables
  have l37 : ∀ (k i : Nat) (ad1 : Nat → Nat) (fw1 : Nat → va_E), i + k = 16 → IW Y o 0 ad fw (vt i) ad1 fw1 → G p l e rm_X3_init s m args below meth c D b 3 100 3 (MQ below (QG D b (o + 16) (Post3 Y o ad fw)) args s 15 172 (AB b)) 37 [(1, .int (nI i)), (0, .ref x)] [] (o + 4) ad1 fw1 := by
    intro k
    induction k with
    | zero =>
      intro i ad1 fw1 hi hI
      obtain rfl : i = 16 := by omega
      refine g_iload_n C0 0 dX3_init_37 rfl rfl rfl ?_
      refine g_bipush C0 16 dX3_init_38 (by decide) rfl ?_
      refine g_icmp_ge C0 (tgt := 112) dX3_init_40 (by decide) rfl (fun _ => ?_) (fun z => absurd (by decide) z)
      refine g_iconst C0 0 dX3_init_112 (by decide) rfl ?_
      refine g_istore_n C0 [(1, .int 0), (0, .ref x)] dX3_init_113 rfl (by decide) rfl rfl ?_
      exact l114 4 0 ad1 fw1 (by omega) hI
    | succ k ih =>
      intro i ad1 fw1 hi hI
      obtain ⟨i1, i2, i3, i4, i5, i6, i7⟩ := id hI
      have hxa : ad1 o = x := by rw [i1 o (by omega), hx]
      refine g_iload_n C0 0 dX3_init_37 rfl rfl rfl ?_
      refine g_bipush C0 16 dX3_init_38 (by decide) rfl ?_
      refine g_icmp_ge C0 (tgt := 112) dX3_init_40 (by decide) rfl (fun z => absurd z (nI_ge (a := i) (b := 16) (by omega) (by omega))) (fun _ => ?_)
      refine g_iload_n C0 0 dX3_init_43 rfl rfl rfl ?_
      refine g_bipush C0 8 dX3_init_44 (by decide) rfl ?_
      have e16 : (16 : Int32) + nI i = nI (16 + i) := nI_add 16 i
      have e32 : (32 : Int32) + nI i = nI (32 + i) := nI_add 32 i
      have l54 : ∀ v2 : Int32, (v2 = 0 → ¬ i < 8) → (¬ v2 = 0 → i < 8) → G p l e rm_X3_init s m args below meth c D b 3 100 3 (MQ below (QG D b (o + 16) (Post3 Y o ad fw)) args s 15 172 (AB b)) 54 [(1, .int (nI i)), (0, .ref x)] [.int v2] (o + 4) ad1 fw1 := by
        intro v2 hz hn
        refine g_istore_n C0 [(2, .int v2), (1, .int (nI i)), (0, .ref x)] dX3_init_54 rfl (by decide) rfl rfl ?_
        refine g_aload_n C0 2 dX3_init_55 rfl rfl rfl ?_
        refine g_get C0 (o := o) (ci := 3) (C := RX3) (T := TX3) (N := 8) (ref := RX3) 1 (v := .ref (ad1 (o + 1))) (by omega) hxa i3 rfl fw_X3_init3 (by decide) (by decide +kernel) (fun _ h9 => h9) rfl dX3_init_56 rfl ?_
        refine g_iload_n C0 1 dX3_init_59 rfl rfl rfl ?_
        refine g_iload_n C0 1 dX3_init_60 rfl rfl rfl ?_
        refine g_iast C0 (o := o + 1) (n := 64) (by omega) rfl i4 (vp_in_nI (by omega) (by omega)) dX3_init_61 rfl ?_
        refine g_aload_n C0 2 dX3_init_62 rfl rfl rfl ?_
        refine g_get C0 (o := o) (ci := 3) (C := RX3) (T := TX3) (N := 8) (ref := RX3) 1 (v := .ref (ad1 (o + 1))) (by omega) hxa ((vu_n (by omega)).trans i3) rfl fw_X3_init3 (by decide) (by decide +kernel) (fun _ h9 => h9) rfl dX3_init_63 rfl ?_
        refine g_bipush C0 16 dX3_init_66 (by decide) rfl ?_
        refine g_iload_n C0 1 dX3_init_68 rfl rfl rfl ?_
        refine g_iadd C0 dX3_init_69 rfl ?_
        refine g_iload_n C0 0 dX3_init_70 rfl rfl rfl ?_
        have l86 : ∀ y : Int32, y = (if i < 8 then 2 * nI i else 30 - 2 * nI i) → ∀ fw2, fw2 = va_up fw1 (o + 1) (.inl (Y 1, 64, .inl (upd (vt i) (nI i).toNatClampNeg (nI i)))) → G p l e rm_X3_init s m args below meth c D b 3 100 3 (MQ below (QG D b (o + 16) (Post3 Y o ad fw)) args s 15 172 (AB b)) 86 [(2, .int v2), (1, .int (nI i)), (0, .ref x)] [.int y, .int (16 + nI i), .ref (ad1 (o + 1))] (o + 4) ad1 fw2 := by
          intro y hy fw2 hfw2
          refine g_iast C0 (o := o + 1) (n := 64) (by omega) rfl (by rw [hfw2]; exact vu_s) (by rw [e16]; exact vp_in_nI (by omega) (by omega)) dX3_init_86 rfl ?_
          refine g_aload_n C0 2 dX3_init_87 rfl rfl rfl ?_
          refine g_get C0 (o := o) (ci := 3) (C := RX3) (T := TX3) (N := 8) (ref := RX3) 1 (v := .ref (ad1 (o + 1))) (by omega) hxa (by rw [vu_n (by omega), hfw2, vu_n (by omega)]; exact i3) rfl fw_X3_init3 (by decide) (by decide +kernel) (fun _ h9 => h9) rfl dX3_init_88 rfl ?_
          refine g_bipush C0 32 dX3_init_91 (by decide) rfl ?_
          refine g_iload_n C0 1 dX3_init_93 rfl rfl rfl ?_
          refine g_iadd C0 dX3_init_94 rfl ?_
          refine g_iload_n C0 0 dX3_init_95 rfl rfl rfl ?_
          have l105 : ∀ w : Int32, w = (if i < 8 then 15 else 0) → ∀ fw3, (∀ q, q ≠ o + 1 → fw3 q = fw1 q) → fw3 (o + 1) = .inl (Y 1, 64, .inl (upd (upd (vt i) (nI i).toNatClampNeg (nI i)) ((16 : Int32) + nI i).toNatClampNeg y)) → G p l e rm_X3_init s m args below meth c D b 3 100 3 (MQ below (QG D b (o + 16) (Post3 Y o ad fw)) args s 15 172 (AB b)) 105 [(2, .int v2), (1, .int (nI i)), (0, .ref x)] [.int w, .int (32 + nI i), .ref (ad1 (o + 1))] (o + 4) ad1 fw3 := by
            intro w hw fw3 h3 h31
            refine g_iast C0 (o := o + 1) (n := 64) (by omega) rfl h31 (by rw [e32]; exact vp_in_nI (by omega) (by omega)) dX3_init_105 rfl ?_
            refine g_iinc C0 1 (nI (i + 1)) [(1, .int (nI (i + 1))), (2, .int v2), (0, .ref x)] dX3_init_106 rfl (nI_succ i).symm (by decide) rfl rfl ?_
            refine g_goto C0 (tgt := 37) dX3_init_109 (by decide) ?_
            refine g_sub [0, 2] rfl ?_
            refine ih (i + 1) ad1 _ (by omega) ⟨i1, fun q hq => ?_, ?_, ?_, ?_, ?_, fun j hj => absurd hj (by omega)⟩
            · rw [vu_n (by omega), h3 q (by omega)]; exact i2 q hq
            · rw [vu_n (by omega), h3 _ (by omega)]; exact i3
            · rw [vu_s, hy, hw]; rfl
            · rw [vu_n (by omega), h3 _ (by omega)]; exact i5
            · rw [vu_n (by omega), h3 _ (by omega)]; exact i6
          have h3 : ∀ q, q ≠ o + 1 → va_up fw2 (o + 1) (.inl (Y 1, 64, .inl (upd (upd (vt i) (nI i).toNatClampNeg (nI i)) ((16 : Int32) + nI i).toNatClampNeg y))) q = fw1 q := fun q hq => by rw [vu_n hq, hfw2, vu_n hq]
          refine g_if_eq C0 (tgt := 104) dX3_init_96 (by decide) rfl (fun z => ?_) (fun z => ?_)
          · refine g_iconst C0 0 dX3_init_104 (by decide) rfl ?_
            exact l105 0 (if_neg (hz z)).symm _ h3 vu_s
          · refine g_bipush C0 15 dX3_init_99 (by decide) rfl ?_
            refine g_goto C0 (tgt := 105) dX3_init_101 (by decide) ?_
            exact l105 15 (if_pos (hn z)).symm _ h3 vu_s
        refine g_if_eq C0 (tgt := 80) dX3_init_71 (by decide) rfl (fun z => ?_) (fun z => ?_)
        · refine g_bipush C0 30 dX3_init_80 (by decide) rfl ?_
          refine g_iconst C0 2 dX3_init_82 (by decide) rfl ?_
          refine g_iload_n C0 1 dX3_init_83 rfl rfl rfl ?_
          refine g_imul C0 dX3_init_84 rfl ?_
          refine g_isub C0 dX3_init_85 rfl ?_
          exact l86 _ (if_neg (hz z)).symm _ rfl
        · refine g_iconst C0 2 dX3_init_74 (by decide) rfl ?_
          refine g_iload_n C0 1 dX3_init_75 rfl rfl rfl ?_
          refine g_imul C0 dX3_init_76 rfl ?_
          refine g_goto C0 (tgt := 86) dX3_init_77 (by decide) ?_
          exact l86 _ (if_pos (hn z)).symm _ rfl
      refine g_icmp_ge C0 (tgt := 53) dX3_init_46 (by decide) rfl (fun z => ?_) (fun z => ?_)
      · refine g_iconst C0 0 dX3_init_53 (by decide) rfl ?_
        exact l54 0 (fun _ h => absurd z (nI_ge (a := i) (b := 8) h (by omega))) (fun h => absurd rfl h)
      · refine g_iconst C0 1 dX3_init_49 (by decide) rfl ?_
        refine g_goto C0 (tgt := 54) dX3_init_50 (by decide) ?_
        exact l54 1 (fun h => absurd h (by decide)) (fun _ => by
          rcases Nat.lt_or_ge i 8 with w | w
          · exact w
          · exact absurd (nI_le (a := 8) (b := i) w (by omega)) z)
  refine g_aload_n C0 0 dX3_init_0 rfl rfl rfl ?_
  refine g_obj C0 (by decide +kernel) (by decide +kernel) (List.mem_of_getElem? (i := 3) rfl) dX3_init_1 ⟨Nat.le_of_ble_eq_true rfl, Nat.le_of_ble_eq_true rfl⟩ rfl ?_
  refine g_aload_n C0 0 dX3_init_4 rfl rfl rfl ?_
  refine g_sipush C0 400 dX3_init_5 (by decide) rfl ?_
  refine g_put C0 (o := o) (ci := 3) (C := RX3) (T := TX3) (N := 8) (Ft := tyX3) (ref := RX3) (fs := fs3n) 0 (v := .int 400) (ty := .int) (by omega) hx.symm hf rfl fw_X3_init3 tyX3_ok nmX3 (by decide) (by decide +kernel) (fun _ h9 => h9) (Or.inl rfl) (by decide +kernel) rfl rfl (Nat.le_of_ble_eq_true rfl) dX3_init_8 rfl ?_
  refine g_aload_n C0 0 dX3_init_11 rfl rfl rfl ?_
  refine g_bipush C0 64 dX3_init_12 (by decide) rfl ?_
  refine g_newa C0 (atype := .int) (ty := .int) 64 1 rfl (by decide +kernel) rfl (fun cA => rfl) (by decide) (by decide) (by decide) ⟨Nat.le_of_ble_eq_true rfl, Nat.le_of_ble_eq_true rfl⟩ dX3_init_14 rfl (fun q1 => ?_)
  refine g_put C0 (o := o) (ci := 3) (C := RX3) (T := TX3) (N := 8) (Ft := tyX3) (ref := RX3) (fs := fs3n.set 0 (.int 400)) 1 (v := .ref q1) (ty := .array .int) (by omega) ((vu_n (by omega)).trans hx.symm) ((vu_n (by omega)).trans vu_s) rfl fw_X3_init3 tyX3_ok nmX3 (by decide) (by decide +kernel) (fun _ h9 => h9) (Or.inr ⟨rfl, hnm, rfl⟩) (by decide +kernel) rfl rfl (Nat.le_of_ble_eq_true rfl) dX3_init_16 rfl ?_
  refine g_aload_n C0 0 dX3_init_19 rfl rfl rfl ?_
  refine g_iconst C0 4 dX3_init_20 (by decide) rfl ?_
  refine g_newq C0 (C := RX4) 4 4 rfl (by decide +kernel) (fun h => h.2) (by decide) (by decide) (by decide) ⟨Nat.le_of_ble_eq_true rfl, Nat.le_of_ble_eq_true rfl⟩ dX3_init_21 rfl (fun q2 => ?_)
  refine g_put C0 (o := o) (ci := 3) (C := RX3) (T := TX3) (N := 8) (Ft := tyX3) (ref := RX3) (fs := (fs3n.set 0 (.int 400)).set 1 (.ref q1)) 2 (v := .ref q2) (ty := .array (.object "PhaseTones$Wheel")) (by omega) ((vu_n (by omega)).trans ((vu_n (by omega)).trans hx.symm)) ((vu_n (by omega)).trans vu_s) rfl fw_X3_init3 tyX3_ok nmX3 (by decide) (by decide +kernel) (fun _ h9 => h9) (Or.inr ⟨rfl, hnm, rfl⟩) (by decide +kernel) rfl rfl (Nat.le_of_ble_eq_true rfl) dX3_init_24 rfl ?_
  refine g_aload_n C0 0 dX3_init_27 rfl rfl rfl ?_
  refine g_bipush C0 32 dX3_init_28 (by decide) rfl ?_
  refine g_newa C0 (atype := .int) (ty := .int) 32 1 rfl (by decide +kernel) rfl (fun cA => rfl) (by decide) (by decide) (by decide) ⟨Nat.le_of_ble_eq_true rfl, Nat.le_of_ble_eq_true rfl⟩ dX3_init_30 rfl (fun q3 => ?_)
  refine g_put C0 (o := o) (ci := 3) (C := RX3) (T := TX3) (N := 8) (Ft := tyX3) (ref := RX3) (fs := ((fs3n.set 0 (.int 400)).set 1 (.ref q1)).set 2 (.ref q2)) 7 (v := .ref q3) (ty := .array .int) (by omega) ((vu_n (by omega)).trans ((vu_n (by omega)).trans ((vu_n (by omega)).trans hx.symm))) ((vu_n (by omega)).trans vu_s) rfl fw_X3_init3 tyX3_ok nmX3 (by decide) (by decide +kernel) (fun _ h9 => h9) (Or.inr ⟨rfl, hnm, rfl⟩) (by decide +kernel) rfl rfl (Nat.le_of_ble_eq_true rfl) dX3_init_32 rfl ?_
  refine g_iconst C0 0 dX3_init_35 (by decide) rfl ?_
  refine g_istore_n C0 [(1, .int 0), (0, .ref x)] dX3_init_36 rfl (by decide) rfl rfl ?_
  refine l37 16 0 _ _ (by omega) ⟨fun r hr => ?_, fun q hq => ?_, ?_, ?_, ⟨fun _ => none, ?_, fun j hj => absurd hj (by omega)⟩, ?_, fun j hj => absurd hj (by omega)⟩
  · rw [vu_n (by omega), vu_n (by omega), vu_n (by omega)]
  · repeat rw [vu_n (by omega)]
  · rw [vu_s, vu_n (by omega : o + 1 ≠ o + 1 + 1 + 1), vu_n (by omega : o + 1 ≠ o + 1 + 1), vu_s, show o + 2 = o + 1 + 1 from rfl, vu_n (by omega : o + 1 + 1 ≠ o + 1 + 1 + 1), vu_s, show o + 3 = o + 1 + 1 + 1 from rfl, vu_s]
    rfl
  · rw [vu_n (by omega), vu_n (by omega), vu_n (by omega), vu_n (by omega), vu_n (by omega), vu_s]
    rfl
  · rw [vu_n (by omega), vu_n (by omega), vu_n (by omega), show o + 2 = o + 1 + 1 from rfl, vu_s]
  · rw [vu_n (by omega), show o + 3 = o + 1 + 1 + 1 from rfl, vu_s]
