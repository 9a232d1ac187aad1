/-! PhaseTonesModel.in(III)Z -/
abbrev rm_X6_in : Room := rmf 0 0
def x_X6_in (a0 : Int32) (a1 : Int32) (a2 : Int32) (μ : Mem) (K : Int32 → Mem → Prop) : Prop :=
  (a0 < a1 → K 0 μ) ∧ (¬ (a0 < a1) → (a2 < a0 → K 0 μ) ∧ (¬ (a2 < a0) → K 1 μ))
set_option maxRecDepth 20000 in
theorem w_X6_in {p : Program} {l : Launch} {e : Env} {s : State} {m : MethodId} {args : Array Value} {below : List Frame} {meth : Method} {c : Code} {D : va_G} {Y : Nat → ClassId} {ad : Nat → Nat} (C0 : CX D Y ad (PA ad) rm_X6_in 0 0 p s args m c cX6_in 3 RX6 wsX6_in) (hlk : meth.locks = false) (hret : meth.sig.returnType = (some .boolean)) (a0 : Int32) (a1 : Int32) (a2 : Int32) (μ : Mem) (K : Int32 → Mem → Prop)  (hX : x_X6_in a0 a1 a2 μ K) : J p l e rm_X6_in s m args below meth c D Y ad (PA ad) 0 0 3 (MQ below (va_Qi K (BB D Y ad) (PA ad)) args s 0 0 (PA ad)) 0 [(0, .int a0), (1, .int a1), (2, .int a2)] [] μ := by
  refine j_iload_n C0 0 dX6_in_0 rfl rfl rfl ?_
  refine j_iload_n C0 1 dX6_in_1 rfl rfl rfl ?_
  refine j_icmp_lt C0 (tgt := 14) dX6_in_2 (by decide) rfl (fun c1 => ?_) (fun c1 => ?_)
  · have hX := hX.1 c1
    refine j_iconst C0 0 dX6_in_14 (by decide) rfl ?_
    exact j_zret C0 hlk hret dX6_in_15 zb0 hX
  · have hX := hX.2 c1
    refine j_iload_n C0 0 dX6_in_5 rfl rfl rfl ?_
    refine j_iload_n C0 2 dX6_in_6 rfl rfl rfl ?_
    refine j_icmp_gt C0 (tgt := 14) dX6_in_7 (by decide) rfl (fun c2 => ?_) (fun c2 => ?_)
    · have hX := hX.1 c2
      refine j_iconst C0 0 dX6_in_14 (by decide) rfl ?_
      exact j_zret C0 hlk hret dX6_in_15 zb0 hX
    · have hX := hX.2 c2
      refine j_iconst C0 1 dX6_in_10 (by decide) rfl ?_
      refine j_goto C0 (tgt := 15) dX6_in_11 (by decide) ?_
      exact j_zret C0 hlk hret dX6_in_15 zb1 hX
theorem c_X6_in {l : Launch} {D : va_G} {Y : Nat → ClassId} {ad : Nat → Nat} (a0 : Int32) (a1 : Int32) (a2 : Int32) {μ : Mem} {K : Int32 → Mem → Prop}  (hX : x_X6_in a0 a1 a2 μ K) : ConI l yX6_in wsX6_in rm_X6_in [.int a0, .int a1, .int a2] D Y ad μ K := conI_of (cc := cX6_in) (maxL := 3) (ret := (some .boolean)) (own := RX6) _ (by decide +kernel) rfl rfl (Nat.le_of_ble_eq_true rfl) (fun p e s m args below meth c C0 hlk hret => j_sub (l' := [(0, .int a0), (1, .int a1), (2, .int a2)]) [0, 1, 2] rfl (w_X6_in C0 hlk hret a0 a1 a2 μ K  hX))
/-! PhaseTonesModel.w(I)I -/
abbrev rm_X6_w : Room := rmf 0 0
def x_X6_w (a0 : Int32) (μ : Mem) (K : Int32 → Mem → Prop) : Prop :=
  K ((70 : Int32) + ((16 : Int32) * a0)) μ
set_option maxRecDepth 20000 in
theorem w_X6_w {p : Program} {l : Launch} {e : Env} {s : State} {m : MethodId} {args : Array Value} {below : List Frame} {meth : Method} {c : Code} {D : va_G} {Y : Nat → ClassId} {ad : Nat → Nat} (C0 : CX D Y ad (PA ad) rm_X6_w 0 0 p s args m c cX6_w 1 RX6 wsX6_w) (hlk : meth.locks = false) (hret : meth.sig.returnType = (some .int)) (a0 : Int32) (μ : Mem) (K : Int32 → Mem → Prop)  (hX : x_X6_w a0 μ K) : J p l e rm_X6_w s m args below meth c D Y ad (PA ad) 0 0 1 (MQ below (va_Qi K (BB D Y ad) (PA ad)) args s 0 0 (PA ad)) 0 [(0, .int a0)] [] μ := by
  refine j_bipush C0 70 dX6_w_0 (by decide) rfl ?_
  refine j_bipush C0 16 dX6_w_2 (by decide) rfl ?_
  refine j_iload_n C0 0 dX6_w_4 rfl rfl rfl ?_
  refine j_imul C0 dX6_w_5 rfl ?_
  refine j_iadd C0 dX6_w_6 rfl ?_
  exact j_iret C0 hlk hret dX6_w_7 hX
theorem c_X6_w {l : Launch} {D : va_G} {Y : Nat → ClassId} {ad : Nat → Nat} (a0 : Int32) {μ : Mem} {K : Int32 → Mem → Prop}  (hX : x_X6_w a0 μ K) : ConI l yX6_w wsX6_w rm_X6_w [.int a0] D Y ad μ K := conI_of (cc := cX6_w) (maxL := 1) (ret := (some .int)) (own := RX6) _ (by decide +kernel) rfl rfl (Nat.le_of_ble_eq_true rfl) (fun p e s m args below meth c C0 hlk hret => j_sub (l' := [(0, .int a0)]) [0] rfl (w_X6_w C0 hlk hret a0 μ K  hX))
/-! PhaseTonesModel.isOne(I)Z -/
abbrev rm_X6_isOne : Room := rmf 1 22
def x_X6_isOne (a0 : Int32) (μ : Mem) (K : Int32 → Mem → Prop) : Prop :=
  x_X6_in a0 0 3 μ (fun r2 μ1 => zb r2 ∧ K r2 μ1)
set_option maxRecDepth 20000 in
theorem w_X6_isOne {p : Program} {l : Launch} {e : Env} {s : State} {m : MethodId} {args : Array Value} {below : List Frame} {meth : Method} {c : Code} {D : va_G} {Y : Nat → ClassId} {ad : Nat → Nat} (C0 : CX D Y ad (PA ad) rm_X6_isOne 0 0 p s args m c cX6_isOne 1 RX6 wsX6_isOne) (hlk : meth.locks = false) (hret : meth.sig.returnType = (some .boolean)) (a0 : Int32) (μ : Mem) (K : Int32 → Mem → Prop)  (hX : x_X6_isOne a0 μ K) : J p l e rm_X6_isOne s m args below meth c D Y ad (PA ad) 0 0 1 (MQ below (va_Qi K (BB D Y ad) (PA ad)) args s 0 0 (PA ad)) 0 [(0, .int a0)] [] μ := by
  refine j_iload_n C0 0 dX6_isOne_0 rfl rfl rfl ?_
  refine j_iconst C0 0 dX6_isOne_1 (by decide) rfl ?_
  refine j_iconst C0 3 dX6_isOne_2 (by decide) rfl ?_
  refine j_callSi C0 3 [.int a0, .int 0, .int 3] (c_X6_in a0 0 3  hX) dX6_isOne_3 gX6_isOne_X6_in rfl (by decide +kernel) ⟨⟨Nat.le_of_ble_eq_true rfl, Nat.le_of_ble_eq_true rfl⟩, rfl, rfl⟩ rfl rfl (Nat.le_of_ble_eq_true rfl) rfl (fun r2 μ1 hX => ?_)
  exact j_zret C0 hlk hret dX6_isOne_6 hX.1 hX.2
theorem c_X6_isOne {l : Launch} {D : va_G} {Y : Nat → ClassId} {ad : Nat → Nat} (a0 : Int32) {μ : Mem} {K : Int32 → Mem → Prop}  (hX : x_X6_isOne a0 μ K) : ConI l yX6_isOne wsX6_isOne rm_X6_isOne [.int a0] D Y ad μ K := conI_of (cc := cX6_isOne) (maxL := 1) (ret := (some .boolean)) (own := RX6) _ (by decide +kernel) rfl rfl (Nat.le_of_ble_eq_true rfl) (fun p e s m args below meth c C0 hlk hret => j_sub (l' := [(0, .int a0)]) [0] rfl (w_X6_isOne C0 hlk hret a0 μ K  hX))
/-! PhaseTonesModel.hold()V -/
abbrev rm_X6_hold : Room := rmf 0 0
theorem fw_X6_hold_6 : ∀ w ∈ wsX60, w ∈ wsX6_hold := by decide +kernel
theorem hw_X6_hold_0 : Cond.fieldLink RX6 13 RX6 (TX6 1).2.1 (TX6 1).2.2.1 ∈ wsX6_hold := by decide +kernel
theorem hw_X6_hold_1 : Cond.fieldLink RX6 7 RX6 (TX6 0).2.1 (TX6 0).2.2.1 ∈ wsX6_hold := by decide +kernel
def xb_X6_hold_L2 (K : Mem → Prop) (B : Int32 → Mem → Prop) (a1 : Int32) (μ : Mem) : Prop :=
  (166 ≤ a1 → K μ) ∧ (¬ (166 ≤ a1) → vp_in a1 166 ∧ vp_in a1 166 ∧ ∀ μ4 : Mem, μ4 = um μ 170 (upd (μ 170) a1.toNatClampNeg (μ 169 a1.toNatClampNeg)) → ∀ v5 : Int32, v5 = a1 + 1 → B v5 μ4)
def x_X6_hold_L2 (K : Mem → Prop) : Nat → Int32 → Mem → Prop
  | 0 => fun _ _ => False
  | n + 1 => fun a1 μ => xb_X6_hold_L2 K (x_X6_hold_L2 K n) a1 μ
set_option maxRecDepth 20000 in
theorem wb_X6_hold_L2 {p : Program} {l : Launch} {e : Env} {s : State} {m : MethodId} {args : Array Value} {below : List Frame} {meth : Method} {c : Code} {D : va_G} {Y : Nat → ClassId} {ad : Nat → Nat} (C0 : CX D Y ad (PA ad) rm_X6_hold 0 0 p s args m c cX6_hold 2 RX6 wsX6_hold) (hlk : meth.locks = false) (hret : meth.sig.returnType = none) (a1 : Int32) (μ : Mem) (K : Mem → Prop) (B : Int32 → Mem → Prop) (hB : ∀ (a1 : Int32) (μ : Mem), B a1 μ → J p l e rm_X6_hold s m args below meth c D Y ad (PA ad) 0 0 2 (MQ below (va_Qv K (BB D Y ad) (PA ad)) args s 0 0 (PA ad)) 2 [(0, .ref (ad 168)), (1, .int a1)] [] μ)  (hX : xb_X6_hold_L2 K B a1 μ) : J p l e rm_X6_hold s m args below meth c D Y ad (PA ad) 0 0 2 (MQ below (va_Qv K (BB D Y ad) (PA ad)) args s 0 0 (PA ad)) 2 [(0, .ref (ad 168)), (1, .int a1)] [] μ := by
  refine j_iload_n C0 1 dX6_hold_2 rfl rfl rfl ?_
  refine j_sipush C0 166 dX6_hold_3 (by decide) rfl ?_
  refine j_icmp_ge C0 (tgt := 27) dX6_hold_6 (by decide) rfl (fun c1 => ?_) (fun c1 => ?_)
  · have hX := hX.1 c1
    exact j_vret C0 hlk hret dX6_hold_27 hX
  · have hX := hX.2 c1
    refine j_aload_n C0 0 dX6_hold_9 rfl rfl rfl ?_
    refine j_get6 C0 (v := .ref (ad 170)) 1 (rfl : kd 168 = 6) fw_X6_hold_6 hw_X6_hold_0 (fun _ h9 => h9) (by decide) rfl dX6_hold_10 rfl ?_
    refine j_iload_n C0 1 dX6_hold_13 rfl rfl rfl ?_
    refine j_aload_n C0 0 dX6_hold_14 rfl rfl rfl ?_
    refine j_get6 C0 (v := .ref (ad 169)) 0 (rfl : kd 168 = 6) fw_X6_hold_6 hw_X6_hold_1 (fun _ h9 => h9) (by decide) rfl dX6_hold_15 rfl ?_
    refine j_iload_n C0 1 dX6_hold_18 rfl rfl rfl ?_
    obtain ⟨h2, hX⟩ := hX
    refine j_iald C0 (n := 166) (kd_lt (rfl : kd 169 = 18) (by decide)) (ce18 (rfl : kd 169 = 18)) h2 dX6_hold_19 rfl ?_
    obtain ⟨h3, hX⟩ := hX
    refine j_iast C0 (n := 166) (kd_lt (rfl : kd 170 = 18) (by decide)) (ce18 (rfl : kd 170 = 18)) h3 dX6_hold_20 rfl ?_
    refine j_nm (fun μ4 e_μ4 => ?_)
    have hX := hX μ4 e_μ4
    obtain ⟨v5, e_v5⟩ : ∃ z : Int32, z = a1 + 1 := ⟨_, rfl⟩
    have hX := hX v5 e_v5
    refine j_iinc C0 1 v5 [(1, .int v5), (0, .ref (ad 168))] dX6_hold_21 rfl (by rw [e_v5]; rfl) (by decide) rfl rfl ?_
    refine j_goto C0 (tgt := 2) dX6_hold_24 (by decide) ?_
    exact j_sub (l' := [(0, .ref (ad 168)), (1, .int v5)]) [1, 0] rfl (hB v5 μ4  hX)
theorem w_X6_hold_L2 {p : Program} {l : Launch} {e : Env} {s : State} {m : MethodId} {args : Array Value} {below : List Frame} {meth : Method} {c : Code} {D : va_G} {Y : Nat → ClassId} {ad : Nat → Nat} (C0 : CX D Y ad (PA ad) rm_X6_hold 0 0 p s args m c cX6_hold 2 RX6 wsX6_hold) (hlk : meth.locks = false) (hret : meth.sig.returnType = none) (K : Mem → Prop) : ∀ (n : Nat) (a1 : Int32) (μ : Mem)  (hX : x_X6_hold_L2 K n a1 μ), J p l e rm_X6_hold s m args below meth c D Y ad (PA ad) 0 0 2 (MQ below (va_Qv K (BB D Y ad) (PA ad)) args s 0 0 (PA ad)) 2 [(0, .ref (ad 168)), (1, .int a1)] [] μ
  | 0, a1, μ, hX => hX.elim
  | n + 1, a1, μ, hX => wb_X6_hold_L2 C0 hlk hret a1 μ K (x_X6_hold_L2 K n) (fun a1 μ  hx => w_X6_hold_L2 C0 hlk hret K n a1 μ  hx)  hX
def x_X6_hold  (μ : Mem) (K : Mem → Prop) : Prop :=
  ∃ n : Nat, x_X6_hold_L2 K n 0 μ
set_option maxRecDepth 20000 in
theorem w_X6_hold {p : Program} {l : Launch} {e : Env} {s : State} {m : MethodId} {args : Array Value} {below : List Frame} {meth : Method} {c : Code} {D : va_G} {Y : Nat → ClassId} {ad : Nat → Nat} (C0 : CX D Y ad (PA ad) rm_X6_hold 0 0 p s args m c cX6_hold 2 RX6 wsX6_hold) (hlk : meth.locks = false) (hret : meth.sig.returnType = none)  (μ : Mem) (K : Mem → Prop)  (hX : x_X6_hold  μ K) : J p l e rm_X6_hold s m args below meth c D Y ad (PA ad) 0 0 2 (MQ below (va_Qv K (BB D Y ad) (PA ad)) args s 0 0 (PA ad)) 0 [(0, .ref (ad 168))] [] μ := by
  refine j_iconst C0 0 dX6_hold_0 (by decide) rfl ?_
  refine j_istore_n C0 [(1, .int 0), (0, .ref (ad 168))] dX6_hold_1 rfl (by decide) rfl rfl ?_
  obtain ⟨n, hX⟩ := hX
  exact j_sub (l' := [(0, .ref (ad 168)), (1, .int 0)]) [1, 0] rfl (w_X6_hold_L2 C0 hlk hret K n 0 μ  hX)
theorem c_X6_hold {l : Launch} {D : va_G} {Y : Nat → ClassId} {ad : Nat → Nat}  {μ : Mem} {K : Mem → Prop}  (hX : x_X6_hold  μ K) : ConV l yX6_hold wsX6_hold rm_X6_hold [.ref (ad 168)] D Y ad μ K := conV_of (cc := cX6_hold) (maxL := 2) (ret := none) (own := RX6) _ (by decide +kernel) rfl rfl (Nat.le_of_ble_eq_true rfl) (fun p e s m args below meth c C0 hlk hret => j_sub (l' := [(0, .ref (ad 168))]) [0] rfl (w_X6_hold C0 hlk hret  μ K  hX))
/-! PhaseTonesModel.recorded(I)I -/
abbrev rm_X6_recorded : Room := rmf 0 0
theorem fw_X6_recorded_6 : ∀ w ∈ wsX60, w ∈ wsX6_recorded := by decide +kernel
theorem hw_X6_recorded_0 : Cond.fieldLink RX6 44 RX6 (TX6 9).2.1 (TX6 9).2.2.1 ∈ wsX6_recorded := by decide +kernel
theorem hw_X6_recorded_1 : Cond.fieldLink RX6 19 RX6 (TX6 3).2.1 (TX6 3).2.2.1 ∈ wsX6_recorded := by decide +kernel
theorem hw_X6_recorded_2 : Cond.fieldLink RX6 13 RX6 (TX6 1).2.1 (TX6 1).2.2.1 ∈ wsX6_recorded := by decide +kernel
def xb_X6_recorded_L56 (K : Int32 → Mem → Prop) (B : Int32 → Int32 → Mem → Prop) (a1 : Int32) (a2 : Int32) (μ : Mem) : Prop :=
  (166 ≤ a2 → ∀ μ6 : Mem, μ6 = um μ 168 (upd (μ 168) 9 ((μ 168 9) + 1)) → K a1 μ6) ∧ (¬ (166 ≤ a2) → vp_in a2 166 ∧ vp_in (((166 : Int32) * (μ 168 9)) + a2) 996 ∧ ∀ μ9 : Mem, μ9 = um μ 172 (upd (μ 172) (((166 : Int32) * (μ 168 9)) + a2).toNatClampNeg (μ 170 a2.toNatClampNeg)) → ∀ v10 : Int32, v10 = a2 + 1 → B a1 v10 μ9)
def x_X6_recorded_L56 (K : Int32 → Mem → Prop) : Nat → Int32 → Int32 → Mem → Prop
  | 0 => fun _ _ _ => False
  | n + 1 => fun a1 a2 μ => xb_X6_recorded_L56 K (x_X6_recorded_L56 K n) a1 a2 μ
set_option maxRecDepth 20000 in
theorem wb_X6_recorded_L56 {p : Program} {l : Launch} {e : Env} {s : State} {m : MethodId} {args : Array Value} {below : List Frame} {meth : Method} {c : Code} {D : va_G} {Y : Nat → ClassId} {ad : Nat → Nat} (C0 : CX D Y ad (PA ad) rm_X6_recorded 0 0 p s args m c cX6_recorded 3 RX6 wsX6_recorded) (hlk : meth.locks = false) (hret : meth.sig.returnType = (some .int)) (a1 : Int32) (a2 : Int32) (μ : Mem) (K : Int32 → Mem → Prop) (B : Int32 → Int32 → Mem → Prop) (hB : ∀ (a1 : Int32) (a2 : Int32) (μ : Mem), B a1 a2 μ → J p l e rm_X6_recorded s m args below meth c D Y ad (PA ad) 0 0 3 (MQ below (va_Qi K (BB D Y ad) (PA ad)) args s 0 0 (PA ad)) 56 [(0, .ref (ad 168)), (1, .int a1), (2, .int a2)] [] μ)  (hX : xb_X6_recorded_L56 K B a1 a2 μ) : J p l e rm_X6_recorded s m args below meth c D Y ad (PA ad) 0 0 3 (MQ below (va_Qi K (BB D Y ad) (PA ad)) args s 0 0 (PA ad)) 56 [(0, .ref (ad 168)), (1, .int a1), (2, .int a2)] [] μ := by
  refine j_iload_n C0 2 dX6_recorded_56 rfl rfl rfl ?_
  refine j_sipush C0 166 dX6_recorded_57 (by decide) rfl ?_
  refine j_icmp_ge C0 (tgt := 90) dX6_recorded_60 (by decide) rfl (fun c5 => ?_) (fun c5 => ?_)
  · have hX := hX.1 c5
    refine j_aload_n C0 0 dX6_recorded_90 rfl rfl rfl ?_
    refine j_dup C0 dX6_recorded_91 rfl rfl ?_
    refine j_get6 C0 (v := .int (μ 168 9)) 9 (rfl : kd 168 = 6) fw_X6_recorded_6 hw_X6_recorded_0 (fun _ h9 => h9) (by decide) rfl dX6_recorded_92 rfl ?_
    refine j_iconst C0 1 dX6_recorded_95 (by decide) rfl ?_
    refine j_iadd C0 dX6_recorded_96 rfl ?_
    refine j_put6_9 C0 (rfl : kd 168 = 6) fw_X6_recorded_6 hw_X6_recorded_0 dX6_recorded_97 rfl ?_
    refine j_nm (fun μ6 e_μ6 => ?_)
    have hX := hX μ6 e_μ6
    refine j_iload_n C0 1 dX6_recorded_100 rfl rfl rfl ?_
    exact j_iret C0 hlk hret dX6_recorded_101 hX
  · have hX := hX.2 c5
    refine j_aload_n C0 0 dX6_recorded_63 rfl rfl rfl ?_
    refine j_get6 C0 (v := .ref (ad 172)) 3 (rfl : kd 168 = 6) fw_X6_recorded_6 hw_X6_recorded_1 (fun _ h9 => h9) (by decide) rfl dX6_recorded_64 rfl ?_
    refine j_sipush C0 166 dX6_recorded_67 (by decide) rfl ?_
    refine j_aload_n C0 0 dX6_recorded_70 rfl rfl rfl ?_
    refine j_get6 C0 (v := .int (μ 168 9)) 9 (rfl : kd 168 = 6) fw_X6_recorded_6 hw_X6_recorded_0 (fun _ h9 => h9) (by decide) rfl dX6_recorded_71 rfl ?_
    refine j_imul C0 dX6_recorded_74 rfl ?_
    refine j_iload_n C0 2 dX6_recorded_75 rfl rfl rfl ?_
    refine j_iadd C0 dX6_recorded_76 rfl ?_
    refine j_aload_n C0 0 dX6_recorded_77 rfl rfl rfl ?_
    refine j_get6 C0 (v := .ref (ad 170)) 1 (rfl : kd 168 = 6) fw_X6_recorded_6 hw_X6_recorded_2 (fun _ h9 => h9) (by decide) rfl dX6_recorded_78 rfl ?_
    refine j_iload_n C0 2 dX6_recorded_81 rfl rfl rfl ?_
    obtain ⟨h7, hX⟩ := hX
    refine j_iald C0 (n := 166) (kd_lt (rfl : kd 170 = 18) (by decide)) (ce18 (rfl : kd 170 = 18)) h7 dX6_recorded_82 rfl ?_
    obtain ⟨h8, hX⟩ := hX
    refine j_iast C0 (n := 996) (kd_lt (rfl : kd 172 = 19) (by decide)) (ce19 (rfl : kd 172 = 19)) h8 dX6_recorded_83 rfl ?_
    refine j_nm (fun μ9 e_μ9 => ?_)
    have hX := hX μ9 e_μ9
    obtain ⟨v10, e_v10⟩ : ∃ z : Int32, z = a2 + 1 := ⟨_, rfl⟩
    have hX := hX v10 e_v10
    refine j_iinc C0 2 v10 [(2, .int v10), (0, .ref (ad 168)), (1, .int a1)] dX6_recorded_84 rfl (by rw [e_v10]; rfl) (by decide) rfl rfl ?_
    refine j_goto C0 (tgt := 56) dX6_recorded_87 (by decide) ?_
    exact j_sub (l' := [(0, .ref (ad 168)), (1, .int a1), (2, .int v10)]) [1, 2, 0] rfl (hB a1 v10 μ9  hX)
theorem w_X6_recorded_L56 {p : Program} {l : Launch} {e : Env} {s : State} {m : MethodId} {args : Array Value} {below : List Frame} {meth : Method} {c : Code} {D : va_G} {Y : Nat → ClassId} {ad : Nat → Nat} (C0 : CX D Y ad (PA ad) rm_X6_recorded 0 0 p s args m c cX6_recorded 3 RX6 wsX6_recorded) (hlk : meth.locks = false) (hret : meth.sig.returnType = (some .int)) (K : Int32 → Mem → Prop) : ∀ (n : Nat) (a1 : Int32) (a2 : Int32) (μ : Mem)  (hX : x_X6_recorded_L56 K n a1 a2 μ), J p l e rm_X6_recorded s m args below meth c D Y ad (PA ad) 0 0 3 (MQ below (va_Qi K (BB D Y ad) (PA ad)) args s 0 0 (PA ad)) 56 [(0, .ref (ad 168)), (1, .int a1), (2, .int a2)] [] μ
  | 0, a1, a2, μ, hX => hX.elim
  | n + 1, a1, a2, μ, hX => wb_X6_recorded_L56 C0 hlk hret a1 a2 μ K (x_X6_recorded_L56 K n) (fun a1 a2 μ  hx => w_X6_recorded_L56 C0 hlk hret K n a1 a2 μ  hx)  hX
def x_X6_recorded_L54 (K : Int32 → Mem → Prop) (a1 : Int32) (μ : Mem) : Prop :=
  ∃ n : Nat, x_X6_recorded_L56 K n a1 0 μ
set_option maxRecDepth 20000 in
theorem w_X6_recorded_L54 {p : Program} {l : Launch} {e : Env} {s : State} {m : MethodId} {args : Array Value} {below : List Frame} {meth : Method} {c : Code} {D : va_G} {Y : Nat → ClassId} {ad : Nat → Nat} (C0 : CX D Y ad (PA ad) rm_X6_recorded 0 0 p s args m c cX6_recorded 3 RX6 wsX6_recorded) (hlk : meth.locks = false) (hret : meth.sig.returnType = (some .int)) (a1 : Int32) (μ : Mem) (K : Int32 → Mem → Prop)  (hX : x_X6_recorded_L54 K a1 μ) : J p l e rm_X6_recorded s m args below meth c D Y ad (PA ad) 0 0 3 (MQ below (va_Qi K (BB D Y ad) (PA ad)) args s 0 0 (PA ad)) 54 [(0, .ref (ad 168)), (1, .int a1)] [] μ := by
  refine j_iconst C0 0 dX6_recorded_54 (by decide) rfl ?_
  refine j_istore_n C0 [(2, .int 0), (0, .ref (ad 168)), (1, .int a1)] dX6_recorded_55 rfl (by decide) rfl rfl ?_
  obtain ⟨n, hX⟩ := hX
  exact j_sub (l' := [(0, .ref (ad 168)), (1, .int a1), (2, .int 0)]) [1, 2, 0] rfl (w_X6_recorded_L56 C0 hlk hret K n a1 0 μ  hX)
def xb_X6_recorded_L15 (K : Int32 → Mem → Prop) (B : Int32 → Int32 → Mem → Prop) (a1 : Int32) (a2 : Int32) (μ : Mem) : Prop :=
  (830 ≤ a2 → ∀ μ4 : Mem, μ4 = um μ 168 (upd (μ 168) 9 ((μ 168 9) - 1)) → x_X6_recorded_L54 K a1 μ4) ∧ (¬ (830 ≤ a2) → vp_in ((166 : Int32) + a2) 996 ∧ vp_in a2 996 ∧ ∀ μ13 : Mem, μ13 = um μ 172 (upd (μ 172) a2.toNatClampNeg (μ 172 ((166 : Int32) + a2).toNatClampNeg)) → ∀ v14 : Int32, v14 = a2 + 1 → B a1 v14 μ13)
def x_X6_recorded_L15 (K : Int32 → Mem → Prop) : Nat → Int32 → Int32 → Mem → Prop
  | 0 => fun _ _ _ => False
  | n + 1 => fun a1 a2 μ => xb_X6_recorded_L15 K (x_X6_recorded_L15 K n) a1 a2 μ
set_option maxRecDepth 20000 in
theorem wb_X6_recorded_L15 {p : Program} {l : Launch} {e : Env} {s : State} {m : MethodId} {args : Array Value} {below : List Frame} {meth : Method} {c : Code} {D : va_G} {Y : Nat → ClassId} {ad : Nat → Nat} (C0 : CX D Y ad (PA ad) rm_X6_recorded 0 0 p s args m c cX6_recorded 3 RX6 wsX6_recorded) (hlk : meth.locks = false) (hret : meth.sig.returnType = (some .int)) (a1 : Int32) (a2 : Int32) (μ : Mem) (K : Int32 → Mem → Prop) (B : Int32 → Int32 → Mem → Prop) (hB : ∀ (a1 : Int32) (a2 : Int32) (μ : Mem), B a1 a2 μ → J p l e rm_X6_recorded s m args below meth c D Y ad (PA ad) 0 0 3 (MQ below (va_Qi K (BB D Y ad) (PA ad)) args s 0 0 (PA ad)) 15 [(0, .ref (ad 168)), (1, .int a1), (2, .int a2)] [] μ)  (hX : xb_X6_recorded_L15 K B a1 a2 μ) : J p l e rm_X6_recorded s m args below meth c D Y ad (PA ad) 0 0 3 (MQ below (va_Qi K (BB D Y ad) (PA ad)) args s 0 0 (PA ad)) 15 [(0, .ref (ad 168)), (1, .int a1), (2, .int a2)] [] μ := by
  refine j_iload_n C0 2 dX6_recorded_15 rfl rfl rfl ?_
  refine j_sipush C0 830 dX6_recorded_16 (by decide) rfl ?_
  refine j_icmp_ge C0 (tgt := 44) dX6_recorded_19 (by decide) rfl (fun c3 => ?_) (fun c3 => ?_)
  · have hX := hX.1 c3
    refine j_aload_n C0 0 dX6_recorded_44 rfl rfl rfl ?_
    refine j_dup C0 dX6_recorded_45 rfl rfl ?_
    refine j_get6 C0 (v := .int (μ 168 9)) 9 (rfl : kd 168 = 6) fw_X6_recorded_6 hw_X6_recorded_0 (fun _ h9 => h9) (by decide) rfl dX6_recorded_46 rfl ?_
    refine j_iconst C0 1 dX6_recorded_49 (by decide) rfl ?_
    refine j_isub C0 dX6_recorded_50 rfl ?_
    refine j_put6_9 C0 (rfl : kd 168 = 6) fw_X6_recorded_6 hw_X6_recorded_0 dX6_recorded_51 rfl ?_
    refine j_nm (fun μ4 e_μ4 => ?_)
    have hX := hX μ4 e_μ4
    exact j_sub (l' := [(0, .ref (ad 168)), (1, .int a1)]) [0, 1] rfl (w_X6_recorded_L54 C0 hlk hret a1 μ4 K  hX)
  · have hX := hX.2 c3
    refine j_aload_n C0 0 dX6_recorded_22 rfl rfl rfl ?_
    refine j_get6 C0 (v := .ref (ad 172)) 3 (rfl : kd 168 = 6) fw_X6_recorded_6 hw_X6_recorded_1 (fun _ h9 => h9) (by decide) rfl dX6_recorded_23 rfl ?_
    refine j_iload_n C0 2 dX6_recorded_26 rfl rfl rfl ?_
    refine j_aload_n C0 0 dX6_recorded_27 rfl rfl rfl ?_
    refine j_get6 C0 (v := .ref (ad 172)) 3 (rfl : kd 168 = 6) fw_X6_recorded_6 hw_X6_recorded_1 (fun _ h9 => h9) (by decide) rfl dX6_recorded_28 rfl ?_
    refine j_sipush C0 166 dX6_recorded_31 (by decide) rfl ?_
    refine j_iload_n C0 2 dX6_recorded_34 rfl rfl rfl ?_
    refine j_iadd C0 dX6_recorded_35 rfl ?_
    obtain ⟨h11, hX⟩ := hX
    refine j_iald C0 (n := 996) (kd_lt (rfl : kd 172 = 19) (by decide)) (ce19 (rfl : kd 172 = 19)) h11 dX6_recorded_36 rfl ?_
    obtain ⟨h12, hX⟩ := hX
    refine j_iast C0 (n := 996) (kd_lt (rfl : kd 172 = 19) (by decide)) (ce19 (rfl : kd 172 = 19)) h12 dX6_recorded_37 rfl ?_
    refine j_nm (fun μ13 e_μ13 => ?_)
    have hX := hX μ13 e_μ13
    obtain ⟨v14, e_v14⟩ : ∃ z : Int32, z = a2 + 1 := ⟨_, rfl⟩
    have hX := hX v14 e_v14
    refine j_iinc C0 2 v14 [(2, .int v14), (0, .ref (ad 168)), (1, .int a1)] dX6_recorded_38 rfl (by rw [e_v14]; rfl) (by decide) rfl rfl ?_
    refine j_goto C0 (tgt := 15) dX6_recorded_41 (by decide) ?_
    exact j_sub (l' := [(0, .ref (ad 168)), (1, .int a1), (2, .int v14)]) [1, 2, 0] rfl (hB a1 v14 μ13  hX)
theorem w_X6_recorded_L15 {p : Program} {l : Launch} {e : Env} {s : State} {m : MethodId} {args : Array Value} {below : List Frame} {meth : Method} {c : Code} {D : va_G} {Y : Nat → ClassId} {ad : Nat → Nat} (C0 : CX D Y ad (PA ad) rm_X6_recorded 0 0 p s args m c cX6_recorded 3 RX6 wsX6_recorded) (hlk : meth.locks = false) (hret : meth.sig.returnType = (some .int)) (K : Int32 → Mem → Prop) : ∀ (n : Nat) (a1 : Int32) (a2 : Int32) (μ : Mem)  (hX : x_X6_recorded_L15 K n a1 a2 μ), J p l e rm_X6_recorded s m args below meth c D Y ad (PA ad) 0 0 3 (MQ below (va_Qi K (BB D Y ad) (PA ad)) args s 0 0 (PA ad)) 15 [(0, .ref (ad 168)), (1, .int a1), (2, .int a2)] [] μ
  | 0, a1, a2, μ, hX => hX.elim
  | n + 1, a1, a2, μ, hX => wb_X6_recorded_L15 C0 hlk hret a1 a2 μ K (x_X6_recorded_L15 K n) (fun a1 a2 μ  hx => w_X6_recorded_L15 C0 hlk hret K n a1 a2 μ  hx)  hX
def x_X6_recorded (a1 : Int32) (μ : Mem) (K : Int32 → Mem → Prop) : Prop :=
  (a1 < 0 → K a1 μ) ∧ (¬ (a1 < 0) → ((μ 168 9) = 6 → ∃ n : Nat, x_X6_recorded_L15 K n a1 0 μ) ∧ (¬ ((μ 168 9) = 6) → x_X6_recorded_L54 K a1 μ))
set_option maxRecDepth 20000 in
theorem w_X6_recorded {p : Program} {l : Launch} {e : Env} {s : State} {m : MethodId} {args : Array Value} {below : List Frame} {meth : Method} {c : Code} {D : va_G} {Y : Nat → ClassId} {ad : Nat → Nat} (C0 : CX D Y ad (PA ad) rm_X6_recorded 0 0 p s args m c cX6_recorded 3 RX6 wsX6_recorded) (hlk : meth.locks = false) (hret : meth.sig.returnType = (some .int)) (a1 : Int32) (μ : Mem) (K : Int32 → Mem → Prop)  (hX : x_X6_recorded a1 μ K) : J p l e rm_X6_recorded s m args below meth c D Y ad (PA ad) 0 0 3 (MQ below (va_Qi K (BB D Y ad) (PA ad)) args s 0 0 (PA ad)) 0 [(0, .ref (ad 168)), (1, .int a1)] [] μ := by
  refine j_iload_n C0 1 dX6_recorded_0 rfl rfl rfl ?_
  refine j_if_lt C0 (tgt := 100) dX6_recorded_1 (by decide) rfl (fun c1 => ?_) (fun c1 => ?_)
  · have hX := hX.1 c1
    refine j_iload_n C0 1 dX6_recorded_100 rfl rfl rfl ?_
    exact j_iret C0 hlk hret dX6_recorded_101 hX
  · have hX := hX.2 c1
    refine j_aload_n C0 0 dX6_recorded_4 rfl rfl rfl ?_
    refine j_get6 C0 (v := .int (μ 168 9)) 9 (rfl : kd 168 = 6) fw_X6_recorded_6 hw_X6_recorded_0 (fun _ h9 => h9) (by decide) rfl dX6_recorded_5 rfl ?_
    refine j_bipush C0 6 dX6_recorded_8 (by decide) rfl ?_
    refine j_icmp_ne C0 (tgt := 54) dX6_recorded_10 (by decide) rfl (fun c2 => ?_) (fun c2 => ?_)
    · have hX := hX.1 c2
      refine j_iconst C0 0 dX6_recorded_13 (by decide) rfl ?_
      refine j_istore_n C0 [(2, .int 0), (0, .ref (ad 168)), (1, .int a1)] dX6_recorded_14 rfl (by decide) rfl rfl ?_
      obtain ⟨n, hX⟩ := hX
      exact j_sub (l' := [(0, .ref (ad 168)), (1, .int a1), (2, .int 0)]) [1, 2, 0] rfl (w_X6_recorded_L15 C0 hlk hret K n a1 0 μ  hX)
    · have hX := hX.2 c2
      exact j_sub (l' := [(0, .ref (ad 168)), (1, .int a1)]) [0, 1] rfl (w_X6_recorded_L54 C0 hlk hret a1 μ K  hX)
theorem c_X6_recorded {l : Launch} {D : va_G} {Y : Nat → ClassId} {ad : Nat → Nat} (a1 : Int32) {μ : Mem} {K : Int32 → Mem → Prop}  (hX : x_X6_recorded a1 μ K) : ConI l yX6_recorded wsX6_recorded rm_X6_recorded [.ref (ad 168), .int a1] D Y ad μ K := conI_of (cc := cX6_recorded) (maxL := 3) (ret := (some .int)) (own := RX6) _ (by decide +kernel) rfl rfl (Nat.le_of_ble_eq_true rfl) (fun p e s m args below meth c C0 hlk hret => j_sub (l' := [(0, .ref (ad 168)), (1, .int a1)]) [0, 1] rfl (w_X6_recorded C0 hlk hret a1 μ K  hX))
/-! PhaseTonesModel.keepTrial()V -/
abbrev rm_X6_keepTrial : Room := rmf 0 0
theorem fw_X6_keepTrial_6 : ∀ w ∈ wsX60, w ∈ wsX6_keepTrial := by decide +kernel
theorem hw_X6_keepTrial_0 : Cond.fieldLink RX6 16 RX6 (TX6 2).2.1 (TX6 2).2.2.1 ∈ wsX6_keepTrial := by decide +kernel
theorem hw_X6_keepTrial_1 : Cond.fieldLink RX6 7 RX6 (TX6 0).2.1 (TX6 0).2.2.1 ∈ wsX6_keepTrial := by decide +kernel
def xb_X6_keepTrial_L2 (K : Mem → Prop) (B : Int32 → Mem → Prop) (a1 : Int32) (μ : Mem) : Prop :=
  (166 ≤ a1 → K μ) ∧ (¬ (166 ≤ a1) → vp_in a1 166 ∧ vp_in a1 166 ∧ ∀ μ4 : Mem, μ4 = um μ 171 (upd (μ 171) a1.toNatClampNeg (μ 169 a1.toNatClampNeg)) → ∀ v5 : Int32, v5 = a1 + 1 → B v5 μ4)
def x_X6_keepTrial_L2 (K : Mem → Prop) : Nat → Int32 → Mem → Prop
  | 0 => fun _ _ => False
  | n + 1 => fun a1 μ => xb_X6_keepTrial_L2 K (x_X6_keepTrial_L2 K n) a1 μ
set_option maxRecDepth 20000 in
theorem wb_X6_keepTrial_L2 {p : Program} {l : Launch} {e : Env} {s : State} {m : MethodId} {args : Array Value} {below : List Frame} {meth : Method} {c : Code} {D : va_G} {Y : Nat → ClassId} {ad : Nat → Nat} (C0 : CX D Y ad (PA ad) rm_X6_keepTrial 0 0 p s args m c cX6_keepTrial 2 RX6 wsX6_keepTrial) (hlk : meth.locks = false) (hret : meth.sig.returnType = none) (a1 : Int32) (μ : Mem) (K : Mem → Prop) (B : Int32 → Mem → Prop) (hB : ∀ (a1 : Int32) (μ : Mem), B a1 μ → J p l e rm_X6_keepTrial s m args below meth c D Y ad (PA ad) 0 0 2 (MQ below (va_Qv K (BB D Y ad) (PA ad)) args s 0 0 (PA ad)) 2 [(0, .ref (ad 168)), (1, .int a1)] [] μ)  (hX : xb_X6_keepTrial_L2 K B a1 μ) : J p l e rm_X6_keepTrial s m args below meth c D Y ad (PA ad) 0 0 2 (MQ below (va_Qv K (BB D Y ad) (PA ad)) args s 0 0 (PA ad)) 2 [(0, .ref (ad 168)), (1, .int a1)] [] μ := by
  refine j_iload_n C0 1 dX6_keepTrial_2 rfl rfl rfl ?_
  refine j_sipush C0 166 dX6_keepTrial_3 (by decide) rfl ?_
  refine j_icmp_ge C0 (tgt := 27) dX6_keepTrial_6 (by decide) rfl (fun c1 => ?_) (fun c1 => ?_)
  · have hX := hX.1 c1
    exact j_vret C0 hlk hret dX6_keepTrial_27 hX
  · have hX := hX.2 c1
    refine j_aload_n C0 0 dX6_keepTrial_9 rfl rfl rfl ?_
    refine j_get6 C0 (v := .ref (ad 171)) 2 (rfl : kd 168 = 6) fw_X6_keepTrial_6 hw_X6_keepTrial_0 (fun _ h9 => h9) (by decide) rfl dX6_keepTrial_10 rfl ?_
    refine j_iload_n C0 1 dX6_keepTrial_13 rfl rfl rfl ?_
    refine j_aload_n C0 0 dX6_keepTrial_14 rfl rfl rfl ?_
    refine j_get6 C0 (v := .ref (ad 169)) 0 (rfl : kd 168 = 6) fw_X6_keepTrial_6 hw_X6_keepTrial_1 (fun _ h9 => h9) (by decide) rfl dX6_keepTrial_15 rfl ?_
    refine j_iload_n C0 1 dX6_keepTrial_18 rfl rfl rfl ?_
    obtain ⟨h2, hX⟩ := hX
    refine j_iald C0 (n := 166) (kd_lt (rfl : kd 169 = 18) (by decide)) (ce18 (rfl : kd 169 = 18)) h2 dX6_keepTrial_19 rfl ?_
    obtain ⟨h3, hX⟩ := hX
    refine j_iast C0 (n := 166) (kd_lt (rfl : kd 171 = 18) (by decide)) (ce18 (rfl : kd 171 = 18)) h3 dX6_keepTrial_20 rfl ?_
    refine j_nm (fun μ4 e_μ4 => ?_)
    have hX := hX μ4 e_μ4
    obtain ⟨v5, e_v5⟩ : ∃ z : Int32, z = a1 + 1 := ⟨_, rfl⟩
    have hX := hX v5 e_v5
    refine j_iinc C0 1 v5 [(1, .int v5), (0, .ref (ad 168))] dX6_keepTrial_21 rfl (by rw [e_v5]; rfl) (by decide) rfl rfl ?_
    refine j_goto C0 (tgt := 2) dX6_keepTrial_24 (by decide) ?_
    exact j_sub (l' := [(0, .ref (ad 168)), (1, .int v5)]) [1, 0] rfl (hB v5 μ4  hX)
theorem w_X6_keepTrial_L2 {p : Program} {l : Launch} {e : Env} {s : State} {m : MethodId} {args : Array Value} {below : List Frame} {meth : Method} {c : Code} {D : va_G} {Y : Nat → ClassId} {ad : Nat → Nat} (C0 : CX D Y ad (PA ad) rm_X6_keepTrial 0 0 p s args m c cX6_keepTrial 2 RX6 wsX6_keepTrial) (hlk : meth.locks = false) (hret : meth.sig.returnType = none) (K : Mem → Prop) : ∀ (n : Nat) (a1 : Int32) (μ : Mem)  (hX : x_X6_keepTrial_L2 K n a1 μ), J p l e rm_X6_keepTrial s m args below meth c D Y ad (PA ad) 0 0 2 (MQ below (va_Qv K (BB D Y ad) (PA ad)) args s 0 0 (PA ad)) 2 [(0, .ref (ad 168)), (1, .int a1)] [] μ
  | 0, a1, μ, hX => hX.elim
  | n + 1, a1, μ, hX => wb_X6_keepTrial_L2 C0 hlk hret a1 μ K (x_X6_keepTrial_L2 K n) (fun a1 μ  hx => w_X6_keepTrial_L2 C0 hlk hret K n a1 μ  hx)  hX
def x_X6_keepTrial  (μ : Mem) (K : Mem → Prop) : Prop :=
  ∃ n : Nat, x_X6_keepTrial_L2 K n 0 μ
set_option maxRecDepth 20000 in
theorem w_X6_keepTrial {p : Program} {l : Launch} {e : Env} {s : State} {m : MethodId} {args : Array Value} {below : List Frame} {meth : Method} {c : Code} {D : va_G} {Y : Nat → ClassId} {ad : Nat → Nat} (C0 : CX D Y ad (PA ad) rm_X6_keepTrial 0 0 p s args m c cX6_keepTrial 2 RX6 wsX6_keepTrial) (hlk : meth.locks = false) (hret : meth.sig.returnType = none)  (μ : Mem) (K : Mem → Prop)  (hX : x_X6_keepTrial  μ K) : J p l e rm_X6_keepTrial s m args below meth c D Y ad (PA ad) 0 0 2 (MQ below (va_Qv K (BB D Y ad) (PA ad)) args s 0 0 (PA ad)) 0 [(0, .ref (ad 168))] [] μ := by
  refine j_iconst C0 0 dX6_keepTrial_0 (by decide) rfl ?_
  refine j_istore_n C0 [(1, .int 0), (0, .ref (ad 168))] dX6_keepTrial_1 rfl (by decide) rfl rfl ?_
  obtain ⟨n, hX⟩ := hX
  exact j_sub (l' := [(0, .ref (ad 168)), (1, .int 0)]) [1, 0] rfl (w_X6_keepTrial_L2 C0 hlk hret K n 0 μ  hX)
theorem c_X6_keepTrial {l : Launch} {D : va_G} {Y : Nat → ClassId} {ad : Nat → Nat}  {μ : Mem} {K : Mem → Prop}  (hX : x_X6_keepTrial  μ K) : ConV l yX6_keepTrial wsX6_keepTrial rm_X6_keepTrial [.ref (ad 168)] D Y ad μ K := conV_of (cc := cX6_keepTrial) (maxL := 2) (ret := none) (own := RX6) _ (by decide +kernel) rfl rfl (Nat.le_of_ble_eq_true rfl) (fun p e s m args below meth c C0 hlk hret => j_sub (l' := [(0, .ref (ad 168))]) [0] rfl (w_X6_keepTrial C0 hlk hret  μ K  hX))
/-! PhaseTonesModel.putBack()V -/
abbrev rm_X6_putBack : Room := rmf 0 0
theorem fw_X6_putBack_6 : ∀ w ∈ wsX60, w ∈ wsX6_putBack := by decide +kernel
theorem hw_X6_putBack_0 : Cond.fieldLink RX6 7 RX6 (TX6 0).2.1 (TX6 0).2.2.1 ∈ wsX6_putBack := by decide +kernel
theorem hw_X6_putBack_1 : Cond.fieldLink RX6 16 RX6 (TX6 2).2.1 (TX6 2).2.2.1 ∈ wsX6_putBack := by decide +kernel
def xb_X6_putBack_L2 (K : Mem → Prop) (B : Int32 → Mem → Prop) (a1 : Int32) (μ : Mem) : Prop :=
  (166 ≤ a1 → K μ) ∧ (¬ (166 ≤ a1) → vp_in a1 166 ∧ vp_in a1 166 ∧ ∀ μ4 : Mem, μ4 = um μ 169 (upd (μ 169) a1.toNatClampNeg (μ 171 a1.toNatClampNeg)) → ∀ v5 : Int32, v5 = a1 + 1 → B v5 μ4)
def x_X6_putBack_L2 (K : Mem → Prop) : Nat → Int32 → Mem → Prop
  | 0 => fun _ _ => False
  | n + 1 => fun a1 μ => xb_X6_putBack_L2 K (x_X6_putBack_L2 K n) a1 μ
set_option maxRecDepth 20000 in
theorem wb_X6_putBack_L2 {p : Program} {l : Launch} {e : Env} {s : State} {m : MethodId} {args : Array Value} {below : List Frame} {meth : Method} {c : Code} {D : va_G} {Y : Nat → ClassId} {ad : Nat → Nat} (C0 : CX D Y ad (PA ad) rm_X6_putBack 0 0 p s args m c cX6_putBack 2 RX6 wsX6_putBack) (hlk : meth.locks = false) (hret : meth.sig.returnType = none) (a1 : Int32) (μ : Mem) (K : Mem → Prop) (B : Int32 → Mem → Prop) (hB : ∀ (a1 : Int32) (μ : Mem), B a1 μ → J p l e rm_X6_putBack s m args below meth c D Y ad (PA ad) 0 0 2 (MQ below (va_Qv K (BB D Y ad) (PA ad)) args s 0 0 (PA ad)) 2 [(0, .ref (ad 168)), (1, .int a1)] [] μ)  (hX : xb_X6_putBack_L2 K B a1 μ) : J p l e rm_X6_putBack s m args below meth c D Y ad (PA ad) 0 0 2 (MQ below (va_Qv K (BB D Y ad) (PA ad)) args s 0 0 (PA ad)) 2 [(0, .ref (ad 168)), (1, .int a1)] [] μ := by
  refine j_iload_n C0 1 dX6_putBack_2 rfl rfl rfl ?_
  refine j_sipush C0 166 dX6_putBack_3 (by decide) rfl ?_
  refine j_icmp_ge C0 (tgt := 27) dX6_putBack_6 (by decide) rfl (fun c1 => ?_) (fun c1 => ?_)
  · have hX := hX.1 c1
    exact j_vret C0 hlk hret dX6_putBack_27 hX
  · have hX := hX.2 c1
    refine j_aload_n C0 0 dX6_putBack_9 rfl rfl rfl ?_
    refine j_get6 C0 (v := .ref (ad 169)) 0 (rfl : kd 168 = 6) fw_X6_putBack_6 hw_X6_putBack_0 (fun _ h9 => h9) (by decide) rfl dX6_putBack_10 rfl ?_
    refine j_iload_n C0 1 dX6_putBack_13 rfl rfl rfl ?_
    refine j_aload_n C0 0 dX6_putBack_14 rfl rfl rfl ?_
    refine j_get6 C0 (v := .ref (ad 171)) 2 (rfl : kd 168 = 6) fw_X6_putBack_6 hw_X6_putBack_1 (fun _ h9 => h9) (by decide) rfl dX6_putBack_15 rfl ?_
    refine j_iload_n C0 1 dX6_putBack_18 rfl rfl rfl ?_
    obtain ⟨h2, hX⟩ := hX
    refine j_iald C0 (n := 166) (kd_lt (rfl : kd 171 = 18) (by decide)) (ce18 (rfl : kd 171 = 18)) h2 dX6_putBack_19 rfl ?_
    obtain ⟨h3, hX⟩ := hX
    refine j_iast C0 (n := 166) (kd_lt (rfl : kd 169 = 18) (by decide)) (ce18 (rfl : kd 169 = 18)) h3 dX6_putBack_20 rfl ?_
    refine j_nm (fun μ4 e_μ4 => ?_)
    have hX := hX μ4 e_μ4
    obtain ⟨v5, e_v5⟩ : ∃ z : Int32, z = a1 + 1 := ⟨_, rfl⟩
    have hX := hX v5 e_v5
    refine j_iinc C0 1 v5 [(1, .int v5), (0, .ref (ad 168))] dX6_putBack_21 rfl (by rw [e_v5]; rfl) (by decide) rfl rfl ?_
    refine j_goto C0 (tgt := 2) dX6_putBack_24 (by decide) ?_
    exact j_sub (l' := [(0, .ref (ad 168)), (1, .int v5)]) [1, 0] rfl (hB v5 μ4  hX)
theorem w_X6_putBack_L2 {p : Program} {l : Launch} {e : Env} {s : State} {m : MethodId} {args : Array Value} {below : List Frame} {meth : Method} {c : Code} {D : va_G} {Y : Nat → ClassId} {ad : Nat → Nat} (C0 : CX D Y ad (PA ad) rm_X6_putBack 0 0 p s args m c cX6_putBack 2 RX6 wsX6_putBack) (hlk : meth.locks = false) (hret : meth.sig.returnType = none) (K : Mem → Prop) : ∀ (n : Nat) (a1 : Int32) (μ : Mem)  (hX : x_X6_putBack_L2 K n a1 μ), J p l e rm_X6_putBack s m args below meth c D Y ad (PA ad) 0 0 2 (MQ below (va_Qv K (BB D Y ad) (PA ad)) args s 0 0 (PA ad)) 2 [(0, .ref (ad 168)), (1, .int a1)] [] μ
  | 0, a1, μ, hX => hX.elim
  | n + 1, a1, μ, hX => wb_X6_putBack_L2 C0 hlk hret a1 μ K (x_X6_putBack_L2 K n) (fun a1 μ  hx => w_X6_putBack_L2 C0 hlk hret K n a1 μ  hx)  hX
def x_X6_putBack  (μ : Mem) (K : Mem → Prop) : Prop :=
  ∃ n : Nat, x_X6_putBack_L2 K n 0 μ
set_option maxRecDepth 20000 in
theorem w_X6_putBack {p : Program} {l : Launch} {e : Env} {s : State} {m : MethodId} {args : Array Value} {below : List Frame} {meth : Method} {c : Code} {D : va_G} {Y : Nat → ClassId} {ad : Nat → Nat} (C0 : CX D Y ad (PA ad) rm_X6_putBack 0 0 p s args m c cX6_putBack 2 RX6 wsX6_putBack) (hlk : meth.locks = false) (hret : meth.sig.returnType = none)  (μ : Mem) (K : Mem → Prop)  (hX : x_X6_putBack  μ K) : J p l e rm_X6_putBack s m args below meth c D Y ad (PA ad) 0 0 2 (MQ below (va_Qv K (BB D Y ad) (PA ad)) args s 0 0 (PA ad)) 0 [(0, .ref (ad 168))] [] μ := by
  refine j_iconst C0 0 dX6_putBack_0 (by decide) rfl ?_
  refine j_istore_n C0 [(1, .int 0), (0, .ref (ad 168))] dX6_putBack_1 rfl (by decide) rfl rfl ?_
  obtain ⟨n, hX⟩ := hX
  exact j_sub (l' := [(0, .ref (ad 168)), (1, .int 0)]) [1, 0] rfl (w_X6_putBack_L2 C0 hlk hret K n 0 μ  hX)
theorem c_X6_putBack {l : Launch} {D : va_G} {Y : Nat → ClassId} {ad : Nat → Nat}  {μ : Mem} {K : Mem → Prop}  (hX : x_X6_putBack  μ K) : ConV l yX6_putBack wsX6_putBack rm_X6_putBack [.ref (ad 168)] D Y ad μ K := conV_of (cc := cX6_putBack) (maxL := 2) (ret := none) (own := RX6) _ (by decide +kernel) rfl rfl (Nat.le_of_ble_eq_true rfl) (fun p e s m args below meth c C0 hlk hret => j_sub (l' := [(0, .ref (ad 168))]) [0] rfl (w_X6_putBack C0 hlk hret  μ K  hX))
/-! PhaseTonesModel.gives(I)I -/
abbrev rm_X6_gives : Room := rmf 1 20
theorem fw_X6_gives_6 : ∀ w ∈ wsX60, w ∈ wsX6_gives := by decide +kernel
theorem hw_X6_gives_0 : Cond.fieldLink RX6 7 RX6 (TX6 0).2.1 (TX6 0).2.2.1 ∈ wsX6_gives := by decide +kernel
def x_X6_gives (a1 : Int32) (μ : Mem) (K : Int32 → Mem → Prop) : Prop :=
  x_X6_w a1 μ (fun r2 μ1 => vp_in (r2 + 2) 166 ∧ vp_in (r2 + 0) 166 ∧ vp_in (((6 : Int32) + ((16 : Int32) * (μ1 169 (r2 + 2).toNatClampNeg))) + ((μ1 169 (r2 + 0).toNatClampNeg) / 4096)) 166 ∧ vp_in (r2 + 3) 166 ∧ K ((μ1 169 (((6 : Int32) + ((16 : Int32) * (μ1 169 (r2 + 2).toNatClampNeg))) + ((μ1 169 (r2 + 0).toNatClampNeg) / 4096)).toNatClampNeg) * (μ1 169 (r2 + 3).toNatClampNeg)) μ1)
set_option maxRecDepth 20000 in
theorem w_X6_gives {p : Program} {l : Launch} {e : Env} {s : State} {m : MethodId} {args : Array Value} {below : List Frame} {meth : Method} {c : Code} {D : va_G} {Y : Nat → ClassId} {ad : Nat → Nat} (C0 : CX D Y ad (PA ad) rm_X6_gives 0 0 p s args m c cX6_gives 3 RX6 wsX6_gives) (hlk : meth.locks = false) (hret : meth.sig.returnType = (some .int)) (a1 : Int32) (μ : Mem) (K : Int32 → Mem → Prop)  (hX : x_X6_gives a1 μ K) : J p l e rm_X6_gives s m args below meth c D Y ad (PA ad) 0 0 3 (MQ below (va_Qi K (BB D Y ad) (PA ad)) args s 0 0 (PA ad)) 0 [(0, .ref (ad 168)), (1, .int a1)] [] μ := by
  refine j_iload_n C0 1 dX6_gives_0 rfl rfl rfl ?_
  refine j_callSi C0 1 [.int a1] (c_X6_w a1  hX) dX6_gives_1 gX6_gives_X6_w rfl (by decide +kernel) ⟨⟨Nat.le_of_ble_eq_true rfl, Nat.le_of_ble_eq_true rfl⟩, rfl, rfl⟩ rfl rfl (Nat.le_of_ble_eq_true rfl) rfl (fun r2 μ1 hX => ?_)
  refine j_istore_n C0 [(2, .int r2), (0, .ref (ad 168)), (1, .int a1)] dX6_gives_4 rfl (by decide) rfl rfl ?_
  refine j_aload_n C0 1 dX6_gives_5 rfl rfl rfl ?_
  refine j_get6 C0 (v := .ref (ad 169)) 0 (rfl : kd 168 = 6) fw_X6_gives_6 hw_X6_gives_0 (fun _ h9 => h9) (by decide) rfl dX6_gives_6 rfl ?_
  refine j_bipush C0 6 dX6_gives_9 (by decide) rfl ?_
  refine j_bipush C0 16 dX6_gives_11 (by decide) rfl ?_
  refine j_aload_n C0 1 dX6_gives_13 rfl rfl rfl ?_
  refine j_get6 C0 (v := .ref (ad 169)) 0 (rfl : kd 168 = 6) fw_X6_gives_6 hw_X6_gives_0 (fun _ h9 => h9) (by decide) rfl dX6_gives_14 rfl ?_
  refine j_iload_n C0 0 dX6_gives_17 rfl rfl rfl ?_
  refine j_iconst C0 2 dX6_gives_18 (by decide) rfl ?_
  refine j_iadd C0 dX6_gives_19 rfl ?_
  obtain ⟨h3, hX⟩ := hX
  refine j_iald C0 (n := 166) (kd_lt (rfl : kd 169 = 18) (by decide)) (ce18 (rfl : kd 169 = 18)) h3 dX6_gives_20 rfl ?_
  refine j_imul C0 dX6_gives_21 rfl ?_
  refine j_iadd C0 dX6_gives_22 rfl ?_
  refine j_aload_n C0 1 dX6_gives_23 rfl rfl rfl ?_
  refine j_get6 C0 (v := .ref (ad 169)) 0 (rfl : kd 168 = 6) fw_X6_gives_6 hw_X6_gives_0 (fun _ h9 => h9) (by decide) rfl dX6_gives_24 rfl ?_
  refine j_iload_n C0 0 dX6_gives_27 rfl rfl rfl ?_
  refine j_iconst C0 0 dX6_gives_28 (by decide) rfl ?_
  refine j_iadd C0 dX6_gives_29 rfl ?_
  obtain ⟨h4, hX⟩ := hX
  refine j_iald C0 (n := 166) (kd_lt (rfl : kd 169 = 18) (by decide)) (ce18 (rfl : kd 169 = 18)) h4 dX6_gives_30 rfl ?_
  refine j_sipush C0 4096 dX6_gives_31 (by decide) rfl ?_
  refine j_idiv C0 dX6_gives_34 (by decide) rfl ?_
  refine j_iadd C0 dX6_gives_35 rfl ?_
  obtain ⟨h5, hX⟩ := hX
  refine j_iald C0 (n := 166) (kd_lt (rfl : kd 169 = 18) (by decide)) (ce18 (rfl : kd 169 = 18)) h5 dX6_gives_36 rfl ?_
  refine j_aload_n C0 1 dX6_gives_37 rfl rfl rfl ?_
  refine j_get6 C0 (v := .ref (ad 169)) 0 (rfl : kd 168 = 6) fw_X6_gives_6 hw_X6_gives_0 (fun _ h9 => h9) (by decide) rfl dX6_gives_38 rfl ?_
  refine j_iload_n C0 0 dX6_gives_41 rfl rfl rfl ?_
  refine j_iconst C0 3 dX6_gives_42 (by decide) rfl ?_
  refine j_iadd C0 dX6_gives_43 rfl ?_
  obtain ⟨h6, hX⟩ := hX
  refine j_iald C0 (n := 166) (kd_lt (rfl : kd 169 = 18) (by decide)) (ce18 (rfl : kd 169 = 18)) h6 dX6_gives_44 rfl ?_
  refine j_imul C0 dX6_gives_45 rfl ?_
  exact j_iret C0 hlk hret dX6_gives_46 hX
theorem c_X6_gives {l : Launch} {D : va_G} {Y : Nat → ClassId} {ad : Nat → Nat} (a1 : Int32) {μ : Mem} {K : Int32 → Mem → Prop}  (hX : x_X6_gives a1 μ K) : ConI l yX6_gives wsX6_gives rm_X6_gives [.ref (ad 168), .int a1] D Y ad μ K := conI_of (cc := cX6_gives) (maxL := 3) (ret := (some .int)) (own := RX6) _ (by decide +kernel) rfl rfl (Nat.le_of_ble_eq_true rfl) (fun p e s m args below meth c C0 hlk hret => j_sub (l' := [(0, .ref (ad 168)), (1, .int a1)]) [0, 1] rfl (w_X6_gives C0 hlk hret a1 μ K  hX))
/-! PhaseTonesModel.mixture()I -/
abbrev rm_X6_mixture : Room := rmf 2 42
theorem fw_X6_mixture_6 : ∀ w ∈ wsX60, w ∈ wsX6_mixture := by decide +kernel
theorem hw_X6_mixture_0 : Cond.fieldLink RX6 7 RX6 (TX6 0).2.1 (TX6 0).2.2.1 ∈ wsX6_mixture := by decide +kernel
def x_X6_mixture_L34 (K : Int32 → Mem → Prop) (B : Int32 → Int32 → Mem → Prop) (a2 : Int32) (as0 : Int32) (as1 : Int32) (μ : Mem) : Prop :=
  ∀ v8 : Int32, v8 = (as1 + as0) → ∀ v9 : Int32, v9 = a2 + 1 → B v8 v9 μ
set_option maxRecDepth 20000 in
theorem w_X6_mixture_L34 {p : Program} {l : Launch} {e : Env} {s : State} {m : MethodId} {args : Array Value} {below : List Frame} {meth : Method} {c : Code} {D : va_G} {Y : Nat → ClassId} {ad : Nat → Nat} (C0 : CX D Y ad (PA ad) rm_X6_mixture 0 0 p s args m c cX6_mixture 3 RX6 wsX6_mixture) (hlk : meth.locks = false) (hret : meth.sig.returnType = (some .int)) (a2 : Int32) (as0 : Int32) (as1 : Int32) (μ : Mem) (K : Int32 → Mem → Prop) (B : Int32 → Int32 → Mem → Prop) (hB : ∀ (a1 : Int32) (a2 : Int32) (μ : Mem), B a1 a2 μ → J p l e rm_X6_mixture s m args below meth c D Y ad (PA ad) 0 0 3 (MQ below (va_Qi K (BB D Y ad) (PA ad)) args s 0 0 (PA ad)) 4 [(0, .ref (ad 168)), (1, .int a1), (2, .int a2)] [] μ)  (hX : x_X6_mixture_L34 K B a2 as0 as1 μ) : J p l e rm_X6_mixture s m args below meth c D Y ad (PA ad) 0 0 3 (MQ below (va_Qi K (BB D Y ad) (PA ad)) args s 0 0 (PA ad)) 34 [(0, .ref (ad 168)), (2, .int a2)] [.int as0, .int as1] μ := by
  refine j_iadd C0 dX6_mixture_34 rfl ?_
  refine j_topi (fun v8 e_v8 => ?_)
  have hX := hX v8 e_v8
  refine j_istore_n C0 [(1, .int v8), (0, .ref (ad 168)), (2, .int a2)] dX6_mixture_35 rfl (by decide) rfl rfl ?_
  obtain ⟨v9, e_v9⟩ : ∃ z : Int32, z = a2 + 1 := ⟨_, rfl⟩
  have hX := hX v9 e_v9
  refine j_iinc C0 2 v9 [(2, .int v9), (1, .int v8), (0, .ref (ad 168))] dX6_mixture_36 rfl (by rw [e_v9]; rfl) (by decide) rfl rfl ?_
  refine j_goto C0 (tgt := 4) dX6_mixture_39 (by decide) ?_
  exact j_sub (l' := [(0, .ref (ad 168)), (1, .int v8), (2, .int v9)]) [2, 1, 0] rfl (hB v8 v9 μ  hX)
def xb_X6_mixture_L4 (K : Int32 → Mem → Prop) (B : Int32 → Int32 → Mem → Prop) (a1 : Int32) (a2 : Int32) (μ : Mem) : Prop :=
  (4 ≤ a2 → K a1 μ) ∧ (¬ (4 ≤ a2) → x_X6_w a2 μ (fun r3 μ2 => vp_in (r3 + 4) 166 ∧ ((μ2 169 (r3 + 4).toNatClampNeg) = 1 → x_X6_gives a2 μ2 (fun r7 μ6 => x_X6_mixture_L34 K B a2 r7 a1 μ6)) ∧ (¬ ((μ2 169 (r3 + 4).toNatClampNeg) = 1) → x_X6_mixture_L34 K B a2 0 a1 μ2)))
def x_X6_mixture_L4 (K : Int32 → Mem → Prop) : Nat → Int32 → Int32 → Mem → Prop
  | 0 => fun _ _ _ => False
  | n + 1 => fun a1 a2 μ => xb_X6_mixture_L4 K (x_X6_mixture_L4 K n) a1 a2 μ
set_option maxRecDepth 20000 in
theorem wb_X6_mixture_L4 {p : Program} {l : Launch} {e : Env} {s : State} {m : MethodId} {args : Array Value} {below : List Frame} {meth : Method} {c : Code} {D : va_G} {Y : Nat → ClassId} {ad : Nat → Nat} (C0 : CX D Y ad (PA ad) rm_X6_mixture 0 0 p s args m c cX6_mixture 3 RX6 wsX6_mixture) (hlk : meth.locks = false) (hret : meth.sig.returnType = (some .int)) (a1 : Int32) (a2 : Int32) (μ : Mem) (K : Int32 → Mem → Prop) (B : Int32 → Int32 → Mem → Prop) (hB : ∀ (a1 : Int32) (a2 : Int32) (μ : Mem), B a1 a2 μ → J p l e rm_X6_mixture s m args below meth c D Y ad (PA ad) 0 0 3 (MQ below (va_Qi K (BB D Y ad) (PA ad)) args s 0 0 (PA ad)) 4 [(0, .ref (ad 168)), (1, .int a1), (2, .int a2)] [] μ)  (hX : xb_X6_mixture_L4 K B a1 a2 μ) : J p l e rm_X6_mixture s m args below meth c D Y ad (PA ad) 0 0 3 (MQ below (va_Qi K (BB D Y ad) (PA ad)) args s 0 0 (PA ad)) 4 [(0, .ref (ad 168)), (1, .int a1), (2, .int a2)] [] μ := by
  refine j_iload_n C0 2 dX6_mixture_4 rfl rfl rfl ?_
  refine j_iconst C0 4 dX6_mixture_5 (by decide) rfl ?_
  refine j_icmp_ge C0 (tgt := 42) dX6_mixture_6 (by decide) rfl (fun c1 => ?_) (fun c1 => ?_)
  · have hX := hX.1 c1
    refine j_iload_n C0 1 dX6_mixture_42 rfl rfl rfl ?_
    exact j_iret C0 hlk hret dX6_mixture_43 hX
  · have hX := hX.2 c1
    refine j_iload_n C0 1 dX6_mixture_9 rfl rfl rfl ?_
    refine j_aload_n C0 0 dX6_mixture_10 rfl rfl rfl ?_
    refine j_get6 C0 (v := .ref (ad 169)) 0 (rfl : kd 168 = 6) fw_X6_mixture_6 hw_X6_mixture_0 (fun _ h9 => h9) (by decide) rfl dX6_mixture_11 rfl ?_
    refine j_iload_n C0 2 dX6_mixture_14 rfl rfl rfl ?_
    refine j_callSi C0 1 [.int a2] (c_X6_w a2  hX) dX6_mixture_15 gX6_mixture_X6_w rfl (by decide +kernel) ⟨⟨Nat.le_of_ble_eq_true rfl, Nat.le_of_ble_eq_true rfl⟩, rfl, rfl⟩ rfl rfl (Nat.le_of_ble_eq_true rfl) rfl (fun r3 μ2 hX => ?_)
    refine j_iconst C0 4 dX6_mixture_18 (by decide) rfl ?_
    refine j_iadd C0 dX6_mixture_19 rfl ?_
    obtain ⟨h4, hX⟩ := hX
    refine j_iald C0 (n := 166) (kd_lt (rfl : kd 169 = 18) (by decide)) (ce18 (rfl : kd 169 = 18)) h4 dX6_mixture_20 rfl ?_
    refine j_iconst C0 1 dX6_mixture_21 (by decide) rfl ?_
    refine j_icmp_ne C0 (tgt := 33) dX6_mixture_22 (by decide) rfl (fun c5 => ?_) (fun c5 => ?_)
    · have hX := hX.1 c5
      refine j_aload_n C0 0 dX6_mixture_25 rfl rfl rfl ?_
      refine j_iload_n C0 2 dX6_mixture_26 rfl rfl rfl ?_
      refine j_callVi C0 1 [.int a2] (c_X6_gives a2  hX) dX6_mixture_27 gX6_mixture_X6_gives rfl (by decide +kernel) ⟨⟨Nat.le_of_ble_eq_true rfl, Nat.le_of_ble_eq_true rfl⟩, rfl, rfl⟩ (kd_lt (rfl : kd 168 = 6) (by decide)) (ce6 (rfl : kd 168 = 6)) rfl rfl rfl (Nat.le_of_ble_eq_true rfl) rfl (fun r7 μ6 hX => ?_)
      refine j_goto C0 (tgt := 34) dX6_mixture_30 (by decide) ?_
      exact j_sub (l' := [(0, .ref (ad 168)), (2, .int a2)]) [0, 2] rfl (w_X6_mixture_L34 C0 hlk hret a2 r7 a1 μ6 K B hB  hX)
    · have hX := hX.2 c5
      refine j_iconst C0 0 dX6_mixture_33 (by decide) rfl ?_
      exact j_sub (l' := [(0, .ref (ad 168)), (2, .int a2)]) [0, 2] rfl (w_X6_mixture_L34 C0 hlk hret a2 0 a1 μ2 K B hB  hX)
theorem w_X6_mixture_L4 {p : Program} {l : Launch} {e : Env} {s : State} {m : MethodId} {args : Array Value} {below : List Frame} {meth : Method} {c : Code} {D : va_G} {Y : Nat → ClassId} {ad : Nat → Nat} (C0 : CX D Y ad (PA ad) rm_X6_mixture 0 0 p s args m c cX6_mixture 3 RX6 wsX6_mixture) (hlk : meth.locks = false) (hret : meth.sig.returnType = (some .int)) (K : Int32 → Mem → Prop) : ∀ (n : Nat) (a1 : Int32) (a2 : Int32) (μ : Mem)  (hX : x_X6_mixture_L4 K n a1 a2 μ), J p l e rm_X6_mixture s m args below meth c D Y ad (PA ad) 0 0 3 (MQ below (va_Qi K (BB D Y ad) (PA ad)) args s 0 0 (PA ad)) 4 [(0, .ref (ad 168)), (1, .int a1), (2, .int a2)] [] μ
  | 0, a1, a2, μ, hX => hX.elim
  | n + 1, a1, a2, μ, hX => wb_X6_mixture_L4 C0 hlk hret a1 a2 μ K (x_X6_mixture_L4 K n) (fun a1 a2 μ  hx => w_X6_mixture_L4 C0 hlk hret K n a1 a2 μ  hx)  hX
def x_X6_mixture  (μ : Mem) (K : Int32 → Mem → Prop) : Prop :=
  ∃ n : Nat, x_X6_mixture_L4 K n 0 0 μ
set_option maxRecDepth 20000 in
theorem w_X6_mixture {p : Program} {l : Launch} {e : Env} {s : State} {m : MethodId} {args : Array Value} {below : List Frame} {meth : Method} {c : Code} {D : va_G} {Y : Nat → ClassId} {ad : Nat → Nat} (C0 : CX D Y ad (PA ad) rm_X6_mixture 0 0 p s args m c cX6_mixture 3 RX6 wsX6_mixture) (hlk : meth.locks = false) (hret : meth.sig.returnType = (some .int))  (μ : Mem) (K : Int32 → Mem → Prop)  (hX : x_X6_mixture  μ K) : J p l e rm_X6_mixture s m args below meth c D Y ad (PA ad) 0 0 3 (MQ below (va_Qi K (BB D Y ad) (PA ad)) args s 0 0 (PA ad)) 0 [(0, .ref (ad 168))] [] μ := by
  refine j_iconst C0 0 dX6_mixture_0 (by decide) rfl ?_
  refine j_istore_n C0 [(1, .int 0), (0, .ref (ad 168))] dX6_mixture_1 rfl (by decide) rfl rfl ?_
  refine j_iconst C0 0 dX6_mixture_2 (by decide) rfl ?_
  refine j_istore_n C0 [(2, .int 0), (1, .int 0), (0, .ref (ad 168))] dX6_mixture_3 rfl (by decide) rfl rfl ?_
  obtain ⟨n, hX⟩ := hX
  exact j_sub (l' := [(0, .ref (ad 168)), (1, .int 0), (2, .int 0)]) [2, 1, 0] rfl (w_X6_mixture_L4 C0 hlk hret K n 0 0 μ  hX)
theorem c_X6_mixture {l : Launch} {D : va_G} {Y : Nat → ClassId} {ad : Nat → Nat}  {μ : Mem} {K : Int32 → Mem → Prop}  (hX : x_X6_mixture  μ K) : ConI l yX6_mixture wsX6_mixture rm_X6_mixture [.ref (ad 168)] D Y ad μ K := conI_of (cc := cX6_mixture) (maxL := 3) (ret := (some .int)) (own := RX6) _ (by decide +kernel) rfl rfl (Nat.le_of_ble_eq_true rfl) (fun p e s m args below meth c C0 hlk hret => j_sub (l' := [(0, .ref (ad 168))]) [0] rfl (w_X6_mixture C0 hlk hret  μ K  hX))
/-! PhaseTonesModel.goesOn(I)V -/
abbrev rm_X6_goesOn : Room := rmf 1 20
theorem fw_X6_goesOn_6 : ∀ w ∈ wsX60, w ∈ wsX6_goesOn := by decide +kernel
theorem hw_X6_goesOn_0 : Cond.fieldLink RX6 7 RX6 (TX6 0).2.1 (TX6 0).2.2.1 ∈ wsX6_goesOn := by decide +kernel
theorem hw_X6_goesOn_1 : Cond.constant RX6 51 (65536) ∈ wsX6_goesOn := by decide +kernel
def xb_X6_goesOn_L143 (K : Mem → Prop) (B : Int32 → Int32 → Mem → Prop) (a2 : Int32) (a3 : Int32) (μ : Mem) : Prop :=
  (14 ≤ a3 → vp_in (a2 + 5) 166 ∧ vp_in (a2 + 5) 166 ∧ ∀ μ26 : Mem, μ26 = um μ 169 (upd (μ 169) (a2 + 5).toNatClampNeg ((μ 169 (a2 + 5).toNatClampNeg) - 1)) → vp_in (a2 + 6) 166 ∧ ∀ μ28 : Mem, μ28 = um μ26 169 (upd (μ26 169) (a2 + 6).toNatClampNeg 0) → vp_in (a2 + 1) 166 ∧ vp_in (a2 + 7) 166 ∧ ∀ μ31 : Mem, μ31 = um μ28 169 (upd (μ28 169) (a2 + 7).toNatClampNeg (μ28 169 (a2 + 1).toNatClampNeg)) → K μ31) ∧ (¬ (14 ≤ a3) → vp_in ((a2 + a3) + 2) 166 ∧ vp_in (a2 + a3) 166 ∧ ∀ μ34 : Mem, μ34 = um μ 169 (upd (μ 169) (a2 + a3).toNatClampNeg (μ 169 ((a2 + a3) + 2).toNatClampNeg)) → ∀ v35 : Int32, v35 = a3 + 1 → B a2 v35 μ34)
def x_X6_goesOn_L143 (K : Mem → Prop) : Nat → Int32 → Int32 → Mem → Prop
  | 0 => fun _ _ _ => False
  | n + 1 => fun a2 a3 μ => xb_X6_goesOn_L143 K (x_X6_goesOn_L143 K n) a2 a3 μ
set_option maxRecDepth 20000 in
theorem wb_X6_goesOn_L143 {p : Program} {l : Launch} {e : Env} {s : State} {m : MethodId} {args : Array Value} {below : List Frame} {meth : Method} {c : Code} {D : va_G} {Y : Nat → ClassId} {ad : Nat → Nat} (C0 : CX D Y ad (PA ad) rm_X6_goesOn 0 0 p s args m c cX6_goesOn 4 RX6 wsX6_goesOn) (hlk : meth.locks = false) (hret : meth.sig.returnType = none) (a2 : Int32) (a3 : Int32) (μ : Mem) (K : Mem → Prop) (B : Int32 → Int32 → Mem → Prop) (hB : ∀ (a2 : Int32) (a3 : Int32) (μ : Mem), B a2 a3 μ → J p l e rm_X6_goesOn s m args below meth c D Y ad (PA ad) 0 0 4 (MQ below (va_Qv K (BB D Y ad) (PA ad)) args s 0 0 (PA ad)) 143 [(0, .ref (ad 168)), (2, .int a2), (3, .int a3)] [] μ)  (hX : xb_X6_goesOn_L143 K B a2 a3 μ) : J p l e rm_X6_goesOn s m args below meth c D Y ad (PA ad) 0 0 4 (MQ below (va_Qv K (BB D Y ad) (PA ad)) args s 0 0 (PA ad)) 143 [(0, .ref (ad 168)), (2, .int a2), (3, .int a3)] [] μ := by
  refine j_iload_n C0 2 dX6_goesOn_143 rfl rfl rfl ?_
  refine j_bipush C0 14 dX6_goesOn_144 (by decide) rfl ?_
  refine j_icmp_ge C0 (tgt := 173) dX6_goesOn_146 (by decide) rfl (fun c23 => ?_) (fun c23 => ?_)
  · have hX := hX.1 c23
    refine j_aload_n C0 0 dX6_goesOn_173 rfl rfl rfl ?_
    refine j_get6 C0 (v := .ref (ad 169)) 0 (rfl : kd 168 = 6) fw_X6_goesOn_6 hw_X6_goesOn_0 (fun _ h9 => h9) (by decide) rfl dX6_goesOn_174 rfl ?_
    refine j_iload_n C0 1 dX6_goesOn_177 rfl rfl rfl ?_
    refine j_iconst C0 5 dX6_goesOn_178 (by decide) rfl ?_
    refine j_iadd C0 dX6_goesOn_179 rfl ?_
    refine j_dup2 C0 dX6_goesOn_180 rfl rfl rfl ?_
    obtain ⟨h24, hX⟩ := hX
    refine j_iald C0 (n := 166) (kd_lt (rfl : kd 169 = 18) (by decide)) (ce18 (rfl : kd 169 = 18)) h24 dX6_goesOn_181 rfl ?_
    refine j_iconst C0 1 dX6_goesOn_182 (by decide) rfl ?_
    refine j_isub C0 dX6_goesOn_183 rfl ?_
    obtain ⟨h25, hX⟩ := hX
    refine j_iast C0 (n := 166) (kd_lt (rfl : kd 169 = 18) (by decide)) (ce18 (rfl : kd 169 = 18)) h25 dX6_goesOn_184 rfl ?_
    refine j_nm (fun μ26 e_μ26 => ?_)
    have hX := hX μ26 e_μ26
    refine j_aload_n C0 0 dX6_goesOn_185 rfl rfl rfl ?_
    refine j_get6 C0 (v := .ref (ad 169)) 0 (rfl : kd 168 = 6) fw_X6_goesOn_6 hw_X6_goesOn_0 (fun _ h9 => h9) (by decide) rfl dX6_goesOn_186 rfl ?_
    refine j_iload_n C0 1 dX6_goesOn_189 rfl rfl rfl ?_
    refine j_bipush C0 6 dX6_goesOn_190 (by decide) rfl ?_
    refine j_iadd C0 dX6_goesOn_192 rfl ?_
    refine j_iconst C0 0 dX6_goesOn_193 (by decide) rfl ?_
    obtain ⟨h27, hX⟩ := hX
    refine j_iast C0 (n := 166) (kd_lt (rfl : kd 169 = 18) (by decide)) (ce18 (rfl : kd 169 = 18)) h27 dX6_goesOn_194 rfl ?_
    refine j_nm (fun μ28 e_μ28 => ?_)
    have hX := hX μ28 e_μ28
    refine j_aload_n C0 0 dX6_goesOn_195 rfl rfl rfl ?_
    refine j_get6 C0 (v := .ref (ad 169)) 0 (rfl : kd 168 = 6) fw_X6_goesOn_6 hw_X6_goesOn_0 (fun _ h9 => h9) (by decide) rfl dX6_goesOn_196 rfl ?_
    refine j_iload_n C0 1 dX6_goesOn_199 rfl rfl rfl ?_
    refine j_bipush C0 7 dX6_goesOn_200 (by decide) rfl ?_
    refine j_iadd C0 dX6_goesOn_202 rfl ?_
    refine j_aload_n C0 0 dX6_goesOn_203 rfl rfl rfl ?_
    refine j_get6 C0 (v := .ref (ad 169)) 0 (rfl : kd 168 = 6) fw_X6_goesOn_6 hw_X6_goesOn_0 (fun _ h9 => h9) (by decide) rfl dX6_goesOn_204 rfl ?_
    refine j_iload_n C0 1 dX6_goesOn_207 rfl rfl rfl ?_
    refine j_iconst C0 1 dX6_goesOn_208 (by decide) rfl ?_
    refine j_iadd C0 dX6_goesOn_209 rfl ?_
    obtain ⟨h29, hX⟩ := hX
    refine j_iald C0 (n := 166) (kd_lt (rfl : kd 169 = 18) (by decide)) (ce18 (rfl : kd 169 = 18)) h29 dX6_goesOn_210 rfl ?_
    obtain ⟨h30, hX⟩ := hX
    refine j_iast C0 (n := 166) (kd_lt (rfl : kd 169 = 18) (by decide)) (ce18 (rfl : kd 169 = 18)) h30 dX6_goesOn_211 rfl ?_
    refine j_nm (fun μ31 e_μ31 => ?_)
    have hX := hX μ31 e_μ31
    exact j_vret C0 hlk hret dX6_goesOn_212 hX
  · have hX := hX.2 c23
    refine j_aload_n C0 0 dX6_goesOn_149 rfl rfl rfl ?_
    refine j_get6 C0 (v := .ref (ad 169)) 0 (rfl : kd 168 = 6) fw_X6_goesOn_6 hw_X6_goesOn_0 (fun _ h9 => h9) (by decide) rfl dX6_goesOn_150 rfl ?_
    refine j_iload_n C0 1 dX6_goesOn_153 rfl rfl rfl ?_
    refine j_iload_n C0 2 dX6_goesOn_154 rfl rfl rfl ?_
    refine j_iadd C0 dX6_goesOn_155 rfl ?_
    refine j_aload_n C0 0 dX6_goesOn_156 rfl rfl rfl ?_
    refine j_get6 C0 (v := .ref (ad 169)) 0 (rfl : kd 168 = 6) fw_X6_goesOn_6 hw_X6_goesOn_0 (fun _ h9 => h9) (by decide) rfl dX6_goesOn_157 rfl ?_
    refine j_iload_n C0 1 dX6_goesOn_160 rfl rfl rfl ?_
    refine j_iload_n C0 2 dX6_goesOn_161 rfl rfl rfl ?_
    refine j_iadd C0 dX6_goesOn_162 rfl ?_
    refine j_iconst C0 2 dX6_goesOn_163 (by decide) rfl ?_
    refine j_iadd C0 dX6_goesOn_164 rfl ?_
    obtain ⟨h32, hX⟩ := hX
    refine j_iald C0 (n := 166) (kd_lt (rfl : kd 169 = 18) (by decide)) (ce18 (rfl : kd 169 = 18)) h32 dX6_goesOn_165 rfl ?_
    obtain ⟨h33, hX⟩ := hX
    refine j_iast C0 (n := 166) (kd_lt (rfl : kd 169 = 18) (by decide)) (ce18 (rfl : kd 169 = 18)) h33 dX6_goesOn_166 rfl ?_
    refine j_nm (fun μ34 e_μ34 => ?_)
    have hX := hX μ34 e_μ34
    obtain ⟨v35, e_v35⟩ : ∃ z : Int32, z = a3 + 1 := ⟨_, rfl⟩
    have hX := hX v35 e_v35
    refine j_iinc C0 2 v35 [(3, .int v35), (0, .ref (ad 168)), (2, .int a2)] dX6_goesOn_167 rfl (by rw [e_v35]; rfl) (by decide) rfl rfl ?_
    refine j_goto C0 (tgt := 143) dX6_goesOn_170 (by decide) ?_
    exact j_sub (l' := [(0, .ref (ad 168)), (2, .int a2), (3, .int v35)]) [1, 2, 0] rfl (hB a2 v35 μ34  hX)
theorem w_X6_goesOn_L143 {p : Program} {l : Launch} {e : Env} {s : State} {m : MethodId} {args : Array Value} {below : List Frame} {meth : Method} {c : Code} {D : va_G} {Y : Nat → ClassId} {ad : Nat → Nat} (C0 : CX D Y ad (PA ad) rm_X6_goesOn 0 0 p s args m c cX6_goesOn 4 RX6 wsX6_goesOn) (hlk : meth.locks = false) (hret : meth.sig.returnType = none) (K : Mem → Prop) : ∀ (n : Nat) (a2 : Int32) (a3 : Int32) (μ : Mem)  (hX : x_X6_goesOn_L143 K n a2 a3 μ), J p l e rm_X6_goesOn s m args below meth c D Y ad (PA ad) 0 0 4 (MQ below (va_Qv K (BB D Y ad) (PA ad)) args s 0 0 (PA ad)) 143 [(0, .ref (ad 168)), (2, .int a2), (3, .int a3)] [] μ
  | 0, a2, a3, μ, hX => hX.elim
  | n + 1, a2, a3, μ, hX => wb_X6_goesOn_L143 C0 hlk hret a2 a3 μ K (x_X6_goesOn_L143 K n) (fun a2 a3 μ  hx => w_X6_goesOn_L143 C0 hlk hret K n a2 a3 μ  hx)  hX
def x_X6_goesOn (a1 : Int32) (μ : Mem) (K : Mem → Prop) : Prop :=
  x_X6_w a1 μ (fun r2 μ1 => vp_in (r2 + 0) 166 ∧ vp_in (r2 + 1) 166 ∧ vp_in (r2 + 0) 166 ∧ ∀ μ6 : Mem, μ6 = um μ1 169 (upd (μ1 169) (r2 + 0).toNatClampNeg (((μ1 169 (r2 + 0).toNatClampNeg) + (μ1 169 (r2 + 1).toNatClampNeg)) - ((μ1 169 (r2 + 0).toNatClampNeg) + (μ1 169 (r2 + 1).toNatClampNeg)) / 65536 * 65536)) → vp_in (r2 + 5) 166 ∧ ((μ6 169 (r2 + 5).toNatClampNeg) = 0 → K μ6) ∧ (¬ ((μ6 169 (r2 + 5).toNatClampNeg) = 0) → vp_in (r2 + 6) 166 ∧ vp_in (r2 + 6) 166 ∧ ∀ μ11 : Mem, μ11 = um μ6 169 (upd (μ6 169) (r2 + 6).toNatClampNeg ((μ6 169 (r2 + 6).toNatClampNeg) + 1)) → vp_in (r2 + 7) 166 ∧ vp_in (r2 + 8) 166 ∧ vp_in (r2 + 7) 166 ∧ vp_in (r2 + 6) 166 ∧ vp_in ((r2 + 8) + 1) 166 ∧ ¬ (μ11 169 ((r2 + 8) + 1).toNatClampNeg) = 0 ∧ vp_in (r2 + 1) 166 ∧ ∀ μ19 : Mem, μ19 = um μ11 169 (upd (μ11 169) (r2 + 1).toNatClampNeg ((μ11 169 (r2 + 7).toNatClampNeg) + ((((μ11 169 (r2 + 8).toNatClampNeg) - (μ11 169 (r2 + 7).toNatClampNeg)) * (μ11 169 (r2 + 6).toNatClampNeg)) / (μ11 169 ((r2 + 8) + 1).toNatClampNeg)))) → vp_in (r2 + 6) 166 ∧ vp_in ((r2 + 8) + 1) 166 ∧ ((μ19 169 (r2 + 6).toNatClampNeg) = (μ19 169 ((r2 + 8) + 1).toNatClampNeg) → ∃ n : Nat, x_X6_goesOn_L143 K n r2 8 μ19) ∧ (¬ ((μ19 169 (r2 + 6).toNatClampNeg) = (μ19 169 ((r2 + 8) + 1).toNatClampNeg)) → K μ19)))
set_option maxRecDepth 20000 in
theorem w_X6_goesOn {p : Program} {l : Launch} {e : Env} {s : State} {m : MethodId} {args : Array Value} {below : List Frame} {meth : Method} {c : Code} {D : va_G} {Y : Nat → ClassId} {ad : Nat → Nat} (C0 : CX D Y ad (PA ad) rm_X6_goesOn 0 0 p s args m c cX6_goesOn 4 RX6 wsX6_goesOn) (hlk : meth.locks = false) (hret : meth.sig.returnType = none) (a1 : Int32) (μ : Mem) (K : Mem → Prop)  (hX : x_X6_goesOn a1 μ K) : J p l e rm_X6_goesOn s m args below meth c D Y ad (PA ad) 0 0 4 (MQ below (va_Qv K (BB D Y ad) (PA ad)) args s 0 0 (PA ad)) 0 [(0, .ref (ad 168)), (1, .int a1)] [] μ := by
  refine j_iload_n C0 1 dX6_goesOn_0 rfl rfl rfl ?_
  refine j_callSi C0 1 [.int a1] (c_X6_w a1  hX) dX6_goesOn_1 gX6_goesOn_X6_w rfl (by decide +kernel) ⟨⟨Nat.le_of_ble_eq_true rfl, Nat.le_of_ble_eq_true rfl⟩, rfl, rfl⟩ rfl rfl (Nat.le_of_ble_eq_true rfl) rfl (fun r2 μ1 hX => ?_)
  refine j_istore_n C0 [(2, .int r2), (0, .ref (ad 168)), (1, .int a1)] dX6_goesOn_4 rfl (by decide) rfl rfl ?_
  refine j_aload_n C0 1 dX6_goesOn_5 rfl rfl rfl ?_
  refine j_get6 C0 (v := .ref (ad 169)) 0 (rfl : kd 168 = 6) fw_X6_goesOn_6 hw_X6_goesOn_0 (fun _ h9 => h9) (by decide) rfl dX6_goesOn_6 rfl ?_
  refine j_iload_n C0 0 dX6_goesOn_9 rfl rfl rfl ?_
  refine j_iconst C0 0 dX6_goesOn_10 (by decide) rfl ?_
  refine j_iadd C0 dX6_goesOn_11 rfl ?_
  refine j_aload_n C0 1 dX6_goesOn_12 rfl rfl rfl ?_
  refine j_get6 C0 (v := .ref (ad 169)) 0 (rfl : kd 168 = 6) fw_X6_goesOn_6 hw_X6_goesOn_0 (fun _ h9 => h9) (by decide) rfl dX6_goesOn_13 rfl ?_
  refine j_iload_n C0 0 dX6_goesOn_16 rfl rfl rfl ?_
  refine j_iconst C0 0 dX6_goesOn_17 (by decide) rfl ?_
  refine j_iadd C0 dX6_goesOn_18 rfl ?_
  obtain ⟨h3, hX⟩ := hX
  refine j_iald C0 (n := 166) (kd_lt (rfl : kd 169 = 18) (by decide)) (ce18 (rfl : kd 169 = 18)) h3 dX6_goesOn_19 rfl ?_
  refine j_aload_n C0 1 dX6_goesOn_20 rfl rfl rfl ?_
  refine j_get6 C0 (v := .ref (ad 169)) 0 (rfl : kd 168 = 6) fw_X6_goesOn_6 hw_X6_goesOn_0 (fun _ h9 => h9) (by decide) rfl dX6_goesOn_21 rfl ?_
  refine j_iload_n C0 0 dX6_goesOn_24 rfl rfl rfl ?_
  refine j_iconst C0 1 dX6_goesOn_25 (by decide) rfl ?_
  refine j_iadd C0 dX6_goesOn_26 rfl ?_
  obtain ⟨h4, hX⟩ := hX
  refine j_iald C0 (n := 166) (kd_lt (rfl : kd 169 = 18) (by decide)) (ce18 (rfl : kd 169 = 18)) h4 dX6_goesOn_27 rfl ?_
  refine j_iadd C0 dX6_goesOn_28 rfl ?_
  refine j_ldc C0 65536 dX6_goesOn_29 hw_X6_goesOn_1 rfl ?_
  refine j_irem C0 dX6_goesOn_31 (by decide) rfl ?_
  obtain ⟨h5, hX⟩ := hX
  refine j_iast C0 (n := 166) (kd_lt (rfl : kd 169 = 18) (by decide)) (ce18 (rfl : kd 169 = 18)) h5 dX6_goesOn_32 rfl ?_
  refine j_nm (fun μ6 e_μ6 => ?_)
  have hX := hX μ6 e_μ6
  refine j_aload_n C0 1 dX6_goesOn_33 rfl rfl rfl ?_
  refine j_get6 C0 (v := .ref (ad 169)) 0 (rfl : kd 168 = 6) fw_X6_goesOn_6 hw_X6_goesOn_0 (fun _ h9 => h9) (by decide) rfl dX6_goesOn_34 rfl ?_
  refine j_iload_n C0 0 dX6_goesOn_37 rfl rfl rfl ?_
  refine j_iconst C0 5 dX6_goesOn_38 (by decide) rfl ?_
  refine j_iadd C0 dX6_goesOn_39 rfl ?_
  obtain ⟨h7, hX⟩ := hX
  refine j_iald C0 (n := 166) (kd_lt (rfl : kd 169 = 18) (by decide)) (ce18 (rfl : kd 169 = 18)) h7 dX6_goesOn_40 rfl ?_
  refine j_if_ne C0 (tgt := 45) dX6_goesOn_41 (by decide) rfl (fun c8 => ?_) (fun c8 => ?_)
  · have hX := hX.1 c8
    exact j_vret C0 hlk hret dX6_goesOn_44 hX
  · have hX := hX.2 c8
    refine j_aload_n C0 1 dX6_goesOn_45 rfl rfl rfl ?_
    refine j_get6 C0 (v := .ref (ad 169)) 0 (rfl : kd 168 = 6) fw_X6_goesOn_6 hw_X6_goesOn_0 (fun _ h9 => h9) (by decide) rfl dX6_goesOn_46 rfl ?_
    refine j_iload_n C0 0 dX6_goesOn_49 rfl rfl rfl ?_
    refine j_bipush C0 6 dX6_goesOn_50 (by decide) rfl ?_
    refine j_iadd C0 dX6_goesOn_52 rfl ?_
    refine j_dup2 C0 dX6_goesOn_53 rfl rfl rfl ?_
    obtain ⟨h9, hX⟩ := hX
    refine j_iald C0 (n := 166) (kd_lt (rfl : kd 169 = 18) (by decide)) (ce18 (rfl : kd 169 = 18)) h9 dX6_goesOn_54 rfl ?_
    refine j_iconst C0 1 dX6_goesOn_55 (by decide) rfl ?_
    refine j_iadd C0 dX6_goesOn_56 rfl ?_
    obtain ⟨h10, hX⟩ := hX
    refine j_iast C0 (n := 166) (kd_lt (rfl : kd 169 = 18) (by decide)) (ce18 (rfl : kd 169 = 18)) h10 dX6_goesOn_57 rfl ?_
    refine j_nm (fun μ11 e_μ11 => ?_)
    have hX := hX μ11 e_μ11
    refine j_aload_n C0 1 dX6_goesOn_58 rfl rfl rfl ?_
    refine j_get6 C0 (v := .ref (ad 169)) 0 (rfl : kd 168 = 6) fw_X6_goesOn_6 hw_X6_goesOn_0 (fun _ h9 => h9) (by decide) rfl dX6_goesOn_59 rfl ?_
    refine j_iload_n C0 0 dX6_goesOn_62 rfl rfl rfl ?_
    refine j_iconst C0 1 dX6_goesOn_63 (by decide) rfl ?_
    refine j_iadd C0 dX6_goesOn_64 rfl ?_
    refine j_aload_n C0 1 dX6_goesOn_65 rfl rfl rfl ?_
    refine j_get6 C0 (v := .ref (ad 169)) 0 (rfl : kd 168 = 6) fw_X6_goesOn_6 hw_X6_goesOn_0 (fun _ h9 => h9) (by decide) rfl dX6_goesOn_66 rfl ?_
    refine j_iload_n C0 0 dX6_goesOn_69 rfl rfl rfl ?_
    refine j_bipush C0 7 dX6_goesOn_70 (by decide) rfl ?_
    refine j_iadd C0 dX6_goesOn_72 rfl ?_
    obtain ⟨h12, hX⟩ := hX
    refine j_iald C0 (n := 166) (kd_lt (rfl : kd 169 = 18) (by decide)) (ce18 (rfl : kd 169 = 18)) h12 dX6_goesOn_73 rfl ?_
    refine j_aload_n C0 1 dX6_goesOn_74 rfl rfl rfl ?_
    refine j_get6 C0 (v := .ref (ad 169)) 0 (rfl : kd 168 = 6) fw_X6_goesOn_6 hw_X6_goesOn_0 (fun _ h9 => h9) (by decide) rfl dX6_goesOn_75 rfl ?_
    refine j_iload_n C0 0 dX6_goesOn_78 rfl rfl rfl ?_
    refine j_bipush C0 8 dX6_goesOn_79 (by decide) rfl ?_
    refine j_iadd C0 dX6_goesOn_81 rfl ?_
    obtain ⟨h13, hX⟩ := hX
    refine j_iald C0 (n := 166) (kd_lt (rfl : kd 169 = 18) (by decide)) (ce18 (rfl : kd 169 = 18)) h13 dX6_goesOn_82 rfl ?_
    refine j_aload_n C0 1 dX6_goesOn_83 rfl rfl rfl ?_
    refine j_get6 C0 (v := .ref (ad 169)) 0 (rfl : kd 168 = 6) fw_X6_goesOn_6 hw_X6_goesOn_0 (fun _ h9 => h9) (by decide) rfl dX6_goesOn_84 rfl ?_
    refine j_iload_n C0 0 dX6_goesOn_87 rfl rfl rfl ?_
    refine j_bipush C0 7 dX6_goesOn_88 (by decide) rfl ?_
    refine j_iadd C0 dX6_goesOn_90 rfl ?_
    obtain ⟨h14, hX⟩ := hX
    refine j_iald C0 (n := 166) (kd_lt (rfl : kd 169 = 18) (by decide)) (ce18 (rfl : kd 169 = 18)) h14 dX6_goesOn_91 rfl ?_
    refine j_isub C0 dX6_goesOn_92 rfl ?_
    refine j_aload_n C0 1 dX6_goesOn_93 rfl rfl rfl ?_
    refine j_get6 C0 (v := .ref (ad 169)) 0 (rfl : kd 168 = 6) fw_X6_goesOn_6 hw_X6_goesOn_0 (fun _ h9 => h9) (by decide) rfl dX6_goesOn_94 rfl ?_
    refine j_iload_n C0 0 dX6_goesOn_97 rfl rfl rfl ?_
    refine j_bipush C0 6 dX6_goesOn_98 (by decide) rfl ?_
    refine j_iadd C0 dX6_goesOn_100 rfl ?_
    obtain ⟨h15, hX⟩ := hX
    refine j_iald C0 (n := 166) (kd_lt (rfl : kd 169 = 18) (by decide)) (ce18 (rfl : kd 169 = 18)) h15 dX6_goesOn_101 rfl ?_
    refine j_imul C0 dX6_goesOn_102 rfl ?_
    refine j_aload_n C0 1 dX6_goesOn_103 rfl rfl rfl ?_
    refine j_get6 C0 (v := .ref (ad 169)) 0 (rfl : kd 168 = 6) fw_X6_goesOn_6 hw_X6_goesOn_0 (fun _ h9 => h9) (by decide) rfl dX6_goesOn_104 rfl ?_
    refine j_iload_n C0 0 dX6_goesOn_107 rfl rfl rfl ?_
    refine j_bipush C0 8 dX6_goesOn_108 (by decide) rfl ?_
    refine j_iadd C0 dX6_goesOn_110 rfl ?_
    refine j_iconst C0 1 dX6_goesOn_111 (by decide) rfl ?_
    refine j_iadd C0 dX6_goesOn_112 rfl ?_
    obtain ⟨h16, hX⟩ := hX
    refine j_iald C0 (n := 166) (kd_lt (rfl : kd 169 = 18) (by decide)) (ce18 (rfl : kd 169 = 18)) h16 dX6_goesOn_113 rfl ?_
    obtain ⟨h17, hX⟩ := hX
    refine j_idiv C0 dX6_goesOn_114 h17 rfl ?_
    refine j_iadd C0 dX6_goesOn_115 rfl ?_
    obtain ⟨h18, hX⟩ := hX
    refine j_iast C0 (n := 166) (kd_lt (rfl : kd 169 = 18) (by decide)) (ce18 (rfl : kd 169 = 18)) h18 dX6_goesOn_116 rfl ?_
    refine j_nm (fun μ19 e_μ19 => ?_)
    have hX := hX μ19 e_μ19
    refine j_aload_n C0 1 dX6_goesOn_117 rfl rfl rfl ?_
    refine j_get6 C0 (v := .ref (ad 169)) 0 (rfl : kd 168 = 6) fw_X6_goesOn_6 hw_X6_goesOn_0 (fun _ h9 => h9) (by decide) rfl dX6_goesOn_118 rfl ?_
    refine j_iload_n C0 0 dX6_goesOn_121 rfl rfl rfl ?_
    refine j_bipush C0 6 dX6_goesOn_122 (by decide) rfl ?_
    refine j_iadd C0 dX6_goesOn_124 rfl ?_
    obtain ⟨h20, hX⟩ := hX
    refine j_iald C0 (n := 166) (kd_lt (rfl : kd 169 = 18) (by decide)) (ce18 (rfl : kd 169 = 18)) h20 dX6_goesOn_125 rfl ?_
    refine j_aload_n C0 1 dX6_goesOn_126 rfl rfl rfl ?_
    refine j_get6 C0 (v := .ref (ad 169)) 0 (rfl : kd 168 = 6) fw_X6_goesOn_6 hw_X6_goesOn_0 (fun _ h9 => h9) (by decide) rfl dX6_goesOn_127 rfl ?_
    refine j_iload_n C0 0 dX6_goesOn_130 rfl rfl rfl ?_
    refine j_bipush C0 8 dX6_goesOn_131 (by decide) rfl ?_
    refine j_iadd C0 dX6_goesOn_133 rfl ?_
    refine j_iconst C0 1 dX6_goesOn_134 (by decide) rfl ?_
    refine j_iadd C0 dX6_goesOn_135 rfl ?_
    obtain ⟨h21, hX⟩ := hX
    refine j_iald C0 (n := 166) (kd_lt (rfl : kd 169 = 18) (by decide)) (ce18 (rfl : kd 169 = 18)) h21 dX6_goesOn_136 rfl ?_
    refine j_icmp_ne C0 (tgt := 212) dX6_goesOn_137 (by decide) rfl (fun c22 => ?_) (fun c22 => ?_)
    · have hX := hX.1 c22
      refine j_bipush C0 8 dX6_goesOn_140 (by decide) rfl ?_
      refine j_istore_n C0 [(3, .int 8), (2, .int r2), (0, .ref (ad 168)), (1, .int a1)] dX6_goesOn_142 rfl (by decide) rfl rfl ?_
      obtain ⟨n, hX⟩ := hX
      exact j_sub (l' := [(0, .ref (ad 168)), (2, .int r2), (3, .int 8)]) [2, 1, 0] rfl (w_X6_goesOn_L143 C0 hlk hret K n r2 8 μ19  hX)
    · have hX := hX.2 c22
      exact j_vret C0 hlk hret dX6_goesOn_212 hX
theorem c_X6_goesOn {l : Launch} {D : va_G} {Y : Nat → ClassId} {ad : Nat → Nat} (a1 : Int32) {μ : Mem} {K : Mem → Prop}  (hX : x_X6_goesOn a1 μ K) : ConV l yX6_goesOn wsX6_goesOn rm_X6_goesOn [.ref (ad 168), .int a1] D Y ad μ K := conV_of (cc := cX6_goesOn) (maxL := 4) (ret := none) (own := RX6) _ (by decide +kernel) rfl rfl (Nat.le_of_ble_eq_true rfl) (fun p e s m args below meth c C0 hlk hret => j_sub (l' := [(0, .ref (ad 168)), (1, .int a1)]) [0, 1] rfl (w_X6_goesOn C0 hlk hret a1 μ K  hX))
/-! PhaseTonesModel.makes()I -/
abbrev rm_X6_makes : Room := rmf 3 64
theorem fw_X6_makes_6 : ∀ w ∈ wsX60, w ∈ wsX6_makes := by decide +kernel
theorem hw_X6_makes_0 : Cond.fieldLink RX6 7 RX6 (TX6 0).2.1 (TX6 0).2.2.1 ∈ wsX6_makes := by decide +kernel
theorem hw_X6_makes_1 : Cond.constant RX6 56 (1000003) ∈ wsX6_makes := by decide +kernel
def x_X6_makes_L163 (K : Int32 → Mem → Prop) (B : Int32 → Int32 → Mem → Prop) (a2 : Int32) (a3 : Int32) (μ : Mem) : Prop :=
  ∀ v21 : Int32, v21 = a3 + 1 → B a2 v21 μ
set_option maxRecDepth 20000 in
theorem w_X6_makes_L163 {p : Program} {l : Launch} {e : Env} {s : State} {m : MethodId} {args : Array Value} {below : List Frame} {meth : Method} {c : Code} {D : va_G} {Y : Nat → ClassId} {ad : Nat → Nat} (C0 : CX D Y ad (PA ad) rm_X6_makes 0 0 p s args m c cX6_makes 4 RX6 wsX6_makes) (hlk : meth.locks = false) (hret : meth.sig.returnType = (some .int)) (a2 : Int32) (a3 : Int32) (μ : Mem) (K : Int32 → Mem → Prop) (B : Int32 → Int32 → Mem → Prop) (hB : ∀ (a2 : Int32) (a3 : Int32) (μ : Mem), B a2 a3 μ → J p l e rm_X6_makes s m args below meth c D Y ad (PA ad) 0 0 4 (MQ below (va_Qi K (BB D Y ad) (PA ad)) args s 0 0 (PA ad)) 138 [(0, .ref (ad 168)), (2, .int a2), (3, .int a3)] [] μ)  (hX : x_X6_makes_L163 K B a2 a3 μ) : J p l e rm_X6_makes s m args below meth c D Y ad (PA ad) 0 0 4 (MQ below (va_Qi K (BB D Y ad) (PA ad)) args s 0 0 (PA ad)) 163 [(0, .ref (ad 168)), (2, .int a2), (3, .int a3)] [] μ := by
  obtain ⟨v21, e_v21⟩ : ∃ z : Int32, z = a3 + 1 := ⟨_, rfl⟩
  have hX := hX v21 e_v21
  refine j_iinc C0 2 v21 [(3, .int v21), (0, .ref (ad 168)), (2, .int a2)] dX6_makes_163 rfl (by rw [e_v21]; rfl) (by decide) rfl rfl ?_
  refine j_goto C0 (tgt := 138) dX6_makes_166 (by decide) ?_
  exact j_sub (l' := [(0, .ref (ad 168)), (2, .int a2), (3, .int v21)]) [1, 2, 0] rfl (hB a2 v21 μ  hX)
def xb_X6_makes_L138 (K : Int32 → Mem → Prop) (B : Int32 → Int32 → Mem → Prop) (a2 : Int32) (a3 : Int32) (μ : Mem) : Prop :=
  (4 ≤ a3 → K a2 μ) ∧ (¬ (4 ≤ a3) → x_X6_w a3 μ (fun r17 μ16 => vp_in (r17 + 4) 166 ∧ ((μ16 169 (r17 + 4).toNatClampNeg) = 1 → x_X6_goesOn a3 μ16 (fun μ20 => x_X6_makes_L163 K B a2 a3 μ20)) ∧ (¬ ((μ16 169 (r17 + 4).toNatClampNeg) = 1) → x_X6_makes_L163 K B a2 a3 μ16)))
def x_X6_makes_L138 (K : Int32 → Mem → Prop) : Nat → Int32 → Int32 → Mem → Prop
  | 0 => fun _ _ _ => False
  | n + 1 => fun a2 a3 μ => xb_X6_makes_L138 K (x_X6_makes_L138 K n) a2 a3 μ
set_option maxRecDepth 20000 in
theorem wb_X6_makes_L138 {p : Program} {l : Launch} {e : Env} {s : State} {m : MethodId} {args : Array Value} {below : List Frame} {meth : Method} {c : Code} {D : va_G} {Y : Nat → ClassId} {ad : Nat → Nat} (C0 : CX D Y ad (PA ad) rm_X6_makes 0 0 p s args m c cX6_makes 4 RX6 wsX6_makes) (hlk : meth.locks = false) (hret : meth.sig.returnType = (some .int)) (a2 : Int32) (a3 : Int32) (μ : Mem) (K : Int32 → Mem → Prop) (B : Int32 → Int32 → Mem → Prop) (hB : ∀ (a2 : Int32) (a3 : Int32) (μ : Mem), B a2 a3 μ → J p l e rm_X6_makes s m args below meth c D Y ad (PA ad) 0 0 4 (MQ below (va_Qi K (BB D Y ad) (PA ad)) args s 0 0 (PA ad)) 138 [(0, .ref (ad 168)), (2, .int a2), (3, .int a3)] [] μ)  (hX : xb_X6_makes_L138 K B a2 a3 μ) : J p l e rm_X6_makes s m args below meth c D Y ad (PA ad) 0 0 4 (MQ below (va_Qi K (BB D Y ad) (PA ad)) args s 0 0 (PA ad)) 138 [(0, .ref (ad 168)), (2, .int a2), (3, .int a3)] [] μ := by
  refine j_iload_n C0 2 dX6_makes_138 rfl rfl rfl ?_
  refine j_iconst C0 4 dX6_makes_139 (by decide) rfl ?_
  refine j_icmp_ge C0 (tgt := 169) dX6_makes_140 (by decide) rfl (fun c15 => ?_) (fun c15 => ?_)
  · have hX := hX.1 c15
    refine j_iload_n C0 1 dX6_makes_169 rfl rfl rfl ?_
    exact j_iret C0 hlk hret dX6_makes_170 hX
  · have hX := hX.2 c15
    refine j_aload_n C0 0 dX6_makes_143 rfl rfl rfl ?_
    refine j_get6 C0 (v := .ref (ad 169)) 0 (rfl : kd 168 = 6) fw_X6_makes_6 hw_X6_makes_0 (fun _ h9 => h9) (by decide) rfl dX6_makes_144 rfl ?_
    refine j_iload_n C0 2 dX6_makes_147 rfl rfl rfl ?_
    refine j_callSi C0 1 [.int a3] (c_X6_w a3  hX) dX6_makes_148 gX6_makes_X6_w rfl (by decide +kernel) ⟨⟨Nat.le_of_ble_eq_true rfl, Nat.le_of_ble_eq_true rfl⟩, rfl, rfl⟩ rfl rfl (Nat.le_of_ble_eq_true rfl) rfl (fun r17 μ16 hX => ?_)
    refine j_iconst C0 4 dX6_makes_151 (by decide) rfl ?_
    refine j_iadd C0 dX6_makes_152 rfl ?_
    obtain ⟨h18, hX⟩ := hX
    refine j_iald C0 (n := 166) (kd_lt (rfl : kd 169 = 18) (by decide)) (ce18 (rfl : kd 169 = 18)) h18 dX6_makes_153 rfl ?_
    refine j_iconst C0 1 dX6_makes_154 (by decide) rfl ?_
    refine j_icmp_ne C0 (tgt := 163) dX6_makes_155 (by decide) rfl (fun c19 => ?_) (fun c19 => ?_)
    · have hX := hX.1 c19
      refine j_aload_n C0 0 dX6_makes_158 rfl rfl rfl ?_
      refine j_iload_n C0 2 dX6_makes_159 rfl rfl rfl ?_
      refine j_callVv C0 1 [.int a3] (c_X6_goesOn a3  hX) dX6_makes_160 gX6_makes_X6_goesOn rfl (by decide +kernel) ⟨⟨Nat.le_of_ble_eq_true rfl, Nat.le_of_ble_eq_true rfl⟩, rfl, rfl⟩ (kd_lt (rfl : kd 168 = 6) (by decide)) (ce6 (rfl : kd 168 = 6)) rfl rfl rfl (Nat.le_of_ble_eq_true rfl) rfl (fun μ20 hX => ?_)
      exact j_sub (l' := [(0, .ref (ad 168)), (2, .int a2), (3, .int a3)]) [0, 1, 2] rfl (w_X6_makes_L163 C0 hlk hret a2 a3 μ20 K B hB  hX)
    · have hX := hX.2 c19
      exact j_sub (l' := [(0, .ref (ad 168)), (2, .int a2), (3, .int a3)]) [0, 1, 2] rfl (w_X6_makes_L163 C0 hlk hret a2 a3 μ16 K B hB  hX)
theorem w_X6_makes_L138 {p : Program} {l : Launch} {e : Env} {s : State} {m : MethodId} {args : Array Value} {below : List Frame} {meth : Method} {c : Code} {D : va_G} {Y : Nat → ClassId} {ad : Nat → Nat} (C0 : CX D Y ad (PA ad) rm_X6_makes 0 0 p s args m c cX6_makes 4 RX6 wsX6_makes) (hlk : meth.locks = false) (hret : meth.sig.returnType = (some .int)) (K : Int32 → Mem → Prop) : ∀ (n : Nat) (a2 : Int32) (a3 : Int32) (μ : Mem)  (hX : x_X6_makes_L138 K n a2 a3 μ), J p l e rm_X6_makes s m args below meth c D Y ad (PA ad) 0 0 4 (MQ below (va_Qi K (BB D Y ad) (PA ad)) args s 0 0 (PA ad)) 138 [(0, .ref (ad 168)), (2, .int a2), (3, .int a3)] [] μ
  | 0, a2, a3, μ, hX => hX.elim
  | n + 1, a2, a3, μ, hX => wb_X6_makes_L138 C0 hlk hret a2 a3 μ K (x_X6_makes_L138 K n) (fun a2 a3 μ  hx => w_X6_makes_L138 C0 hlk hret K n a2 a3 μ  hx)  hX
def x_X6_makes_L98 (K : Int32 → Mem → Prop) (a2 : Int32) (as0 : Int32) (as1 : Int32) (as2 : Int32) (μ : Mem) : Prop :=
  vp_in as2 166 ∧ ∀ μ10 : Mem, μ10 = um μ 169 (upd (μ 169) as2.toNatClampNeg (as1 + as0)) → ∀ μ11 : Mem, μ11 = um μ10 169 (upd (μ10 169) 5 a2) → vp_in ((134 : Int32) + ((μ11 169 1) - (μ11 169 1) / 32 * 32)) 166 ∧ ∀ μ13 : Mem, μ13 = um μ11 169 (upd (μ11 169) ((134 : Int32) + ((μ11 169 1) - (μ11 169 1) / 32 * 32)).toNatClampNeg a2) → ∀ μ14 : Mem, μ14 = um μ13 169 (upd (μ13 169) 1 ((μ13 169 1) + 1)) → ∃ n : Nat, x_X6_makes_L138 K n a2 0 μ14
set_option maxRecDepth 20000 in
theorem w_X6_makes_L98 {p : Program} {l : Launch} {e : Env} {s : State} {m : MethodId} {args : Array Value} {below : List Frame} {meth : Method} {c : Code} {D : va_G} {Y : Nat → ClassId} {ad : Nat → Nat} (C0 : CX D Y ad (PA ad) rm_X6_makes 0 0 p s args m c cX6_makes 4 RX6 wsX6_makes) (hlk : meth.locks = false) (hret : meth.sig.returnType = (some .int)) (a2 : Int32) (as0 : Int32) (as1 : Int32) (as2 : Int32) (μ : Mem) (K : Int32 → Mem → Prop)  (hX : x_X6_makes_L98 K a2 as0 as1 as2 μ) : J p l e rm_X6_makes s m args below meth c D Y ad (PA ad) 0 0 4 (MQ below (va_Qi K (BB D Y ad) (PA ad)) args s 0 0 (PA ad)) 98 [(0, .ref (ad 168)), (2, .int a2)] [.int as0, .int as1, .int as2, .ref (ad 169)] μ := by
  refine j_iadd C0 dX6_makes_98 rfl ?_
  obtain ⟨h9, hX⟩ := hX
  refine j_iast C0 (n := 166) (kd_lt (rfl : kd 169 = 18) (by decide)) (ce18 (rfl : kd 169 = 18)) h9 dX6_makes_99 rfl ?_
  refine j_nm (fun μ10 e_μ10 => ?_)
  have hX := hX μ10 e_μ10
  refine j_aload_n C0 0 dX6_makes_100 rfl rfl rfl ?_
  refine j_get6 C0 (v := .ref (ad 169)) 0 (rfl : kd 168 = 6) fw_X6_makes_6 hw_X6_makes_0 (fun _ h9 => h9) (by decide) rfl dX6_makes_101 rfl ?_
  refine j_iconst C0 5 dX6_makes_104 (by decide) rfl ?_
  refine j_iload_n C0 1 dX6_makes_105 rfl rfl rfl ?_
  refine j_iast C0 (n := 166) (kd_lt (rfl : kd 169 = 18) (by decide)) (ce18 (rfl : kd 169 = 18)) (vp_lit (i := 5) (by decide)) dX6_makes_106 rfl ?_
  refine j_nm (fun μ11 e_μ11 => ?_)
  have hX := hX μ11 e_μ11
  refine j_aload_n C0 0 dX6_makes_107 rfl rfl rfl ?_
  refine j_get6 C0 (v := .ref (ad 169)) 0 (rfl : kd 168 = 6) fw_X6_makes_6 hw_X6_makes_0 (fun _ h9 => h9) (by decide) rfl dX6_makes_108 rfl ?_
  refine j_sipush C0 134 dX6_makes_111 (by decide) rfl ?_
  refine j_aload_n C0 0 dX6_makes_114 rfl rfl rfl ?_
  refine j_get6 C0 (v := .ref (ad 169)) 0 (rfl : kd 168 = 6) fw_X6_makes_6 hw_X6_makes_0 (fun _ h9 => h9) (by decide) rfl dX6_makes_115 rfl ?_
  refine j_iconst C0 1 dX6_makes_118 (by decide) rfl ?_
  refine j_iald C0 (n := 166) (kd_lt (rfl : kd 169 = 18) (by decide)) (ce18 (rfl : kd 169 = 18)) (vp_lit (i := 1) (by decide)) dX6_makes_119 rfl ?_
  refine j_val (μ11 169 1) rfl ?_
  refine j_bipush C0 32 dX6_makes_120 (by decide) rfl ?_
  refine j_irem C0 dX6_makes_122 (by decide) rfl ?_
  refine j_iadd C0 dX6_makes_123 rfl ?_
  refine j_iload_n C0 1 dX6_makes_124 rfl rfl rfl ?_
  obtain ⟨h12, hX⟩ := hX
  refine j_iast C0 (n := 166) (kd_lt (rfl : kd 169 = 18) (by decide)) (ce18 (rfl : kd 169 = 18)) h12 dX6_makes_125 rfl ?_
  refine j_nm (fun μ13 e_μ13 => ?_)
  have hX := hX μ13 e_μ13
  refine j_aload_n C0 0 dX6_makes_126 rfl rfl rfl ?_
  refine j_get6 C0 (v := .ref (ad 169)) 0 (rfl : kd 168 = 6) fw_X6_makes_6 hw_X6_makes_0 (fun _ h9 => h9) (by decide) rfl dX6_makes_127 rfl ?_
  refine j_iconst C0 1 dX6_makes_130 (by decide) rfl ?_
  refine j_dup2 C0 dX6_makes_131 rfl rfl rfl ?_
  refine j_iald C0 (n := 166) (kd_lt (rfl : kd 169 = 18) (by decide)) (ce18 (rfl : kd 169 = 18)) (vp_lit (i := 1) (by decide)) dX6_makes_132 rfl ?_
  refine j_val (μ13 169 1) rfl ?_
  refine j_iconst C0 1 dX6_makes_133 (by decide) rfl ?_
  refine j_iadd C0 dX6_makes_134 rfl ?_
  refine j_iast C0 (n := 166) (kd_lt (rfl : kd 169 = 18) (by decide)) (ce18 (rfl : kd 169 = 18)) (vp_lit (i := 1) (by decide)) dX6_makes_135 rfl ?_
  refine j_nm (fun μ14 e_μ14 => ?_)
  have hX := hX μ14 e_μ14
  refine j_iconst C0 0 dX6_makes_136 (by decide) rfl ?_
  refine j_istore_n C0 [(3, .int 0), (0, .ref (ad 168)), (2, .int a2)] dX6_makes_137 rfl (by decide) rfl rfl ?_
  obtain ⟨n, hX⟩ := hX
  exact j_sub (l' := [(0, .ref (ad 168)), (2, .int a2), (3, .int 0)]) [1, 2, 0] rfl (w_X6_makes_L138 C0 hlk hret K n a2 0 μ14  hX)
def x_X6_makes_L97 (K : Int32 → Mem → Prop) (a2 : Int32) (as0 : Int32) (as1 : Int32) (μ : Mem) : Prop :=
  x_X6_makes_L98 K a2 0 as0 as1 μ
set_option maxRecDepth 20000 in
theorem w_X6_makes_L97 {p : Program} {l : Launch} {e : Env} {s : State} {m : MethodId} {args : Array Value} {below : List Frame} {meth : Method} {c : Code} {D : va_G} {Y : Nat → ClassId} {ad : Nat → Nat} (C0 : CX D Y ad (PA ad) rm_X6_makes 0 0 p s args m c cX6_makes 4 RX6 wsX6_makes) (hlk : meth.locks = false) (hret : meth.sig.returnType = (some .int)) (a2 : Int32) (as0 : Int32) (as1 : Int32) (μ : Mem) (K : Int32 → Mem → Prop)  (hX : x_X6_makes_L97 K a2 as0 as1 μ) : J p l e rm_X6_makes s m args below meth c D Y ad (PA ad) 0 0 4 (MQ below (va_Qi K (BB D Y ad) (PA ad)) args s 0 0 (PA ad)) 97 [(0, .ref (ad 168)), (2, .int a2)] [.int as0, .int as1, .ref (ad 169)] μ := by
  refine j_iconst C0 0 dX6_makes_97 (by decide) rfl ?_
  exact j_sub (l' := [(0, .ref (ad 168)), (2, .int a2)]) [0, 1] rfl (w_X6_makes_L98 C0 hlk hret a2 0 as0 as1 μ K  hX)
def x_X6_makes_L48 (K : Int32 → Mem → Prop) (a2 : Int32) (as0 : Int32) (as1 : Int32) (as2 : Int32) (μ : Mem) : Prop :=
  vp_in as2 166 ∧ ∀ μ6 : Mem, μ6 = um μ 169 (upd (μ 169) as2.toNatClampNeg (as1 + as0)) → ∀ μ7 : Mem, μ7 = um μ6 169 (upd (μ6 169) 3 (((μ6 169 3) + a2) - ((μ6 169 3) + a2) / 1000003 * 1000003)) → ((μ7 169 5) < 0 → x_X6_makes_L97 K a2 (μ7 169 4) 4 μ7) ∧ (¬ ((μ7 169 5) < 0) → (a2 ≤ (μ7 169 5) → x_X6_makes_L97 K a2 (μ7 169 4) 4 μ7) ∧ (¬ (a2 ≤ (μ7 169 5)) → x_X6_makes_L98 K a2 1 (μ7 169 4) 4 μ7))
set_option maxRecDepth 20000 in
theorem w_X6_makes_L48 {p : Program} {l : Launch} {e : Env} {s : State} {m : MethodId} {args : Array Value} {below : List Frame} {meth : Method} {c : Code} {D : va_G} {Y : Nat → ClassId} {ad : Nat → Nat} (C0 : CX D Y ad (PA ad) rm_X6_makes 0 0 p s args m c cX6_makes 4 RX6 wsX6_makes) (hlk : meth.locks = false) (hret : meth.sig.returnType = (some .int)) (a2 : Int32) (as0 : Int32) (as1 : Int32) (as2 : Int32) (μ : Mem) (K : Int32 → Mem → Prop)  (hX : x_X6_makes_L48 K a2 as0 as1 as2 μ) : J p l e rm_X6_makes s m args below meth c D Y ad (PA ad) 0 0 4 (MQ below (va_Qi K (BB D Y ad) (PA ad)) args s 0 0 (PA ad)) 48 [(0, .ref (ad 168)), (2, .int a2)] [.int as0, .int as1, .int as2, .ref (ad 169)] μ := by
  refine j_iadd C0 dX6_makes_48 rfl ?_
  obtain ⟨h5, hX⟩ := hX
  refine j_iast C0 (n := 166) (kd_lt (rfl : kd 169 = 18) (by decide)) (ce18 (rfl : kd 169 = 18)) h5 dX6_makes_49 rfl ?_
  refine j_nm (fun μ6 e_μ6 => ?_)
  have hX := hX μ6 e_μ6
  refine j_aload_n C0 0 dX6_makes_50 rfl rfl rfl ?_
  refine j_get6 C0 (v := .ref (ad 169)) 0 (rfl : kd 168 = 6) fw_X6_makes_6 hw_X6_makes_0 (fun _ h9 => h9) (by decide) rfl dX6_makes_51 rfl ?_
  refine j_iconst C0 3 dX6_makes_54 (by decide) rfl ?_
  refine j_aload_n C0 0 dX6_makes_55 rfl rfl rfl ?_
  refine j_get6 C0 (v := .ref (ad 169)) 0 (rfl : kd 168 = 6) fw_X6_makes_6 hw_X6_makes_0 (fun _ h9 => h9) (by decide) rfl dX6_makes_56 rfl ?_
  refine j_iconst C0 3 dX6_makes_59 (by decide) rfl ?_
  refine j_iald C0 (n := 166) (kd_lt (rfl : kd 169 = 18) (by decide)) (ce18 (rfl : kd 169 = 18)) (vp_lit (i := 3) (by decide)) dX6_makes_60 rfl ?_
  refine j_val (μ6 169 3) rfl ?_
  refine j_iload_n C0 1 dX6_makes_61 rfl rfl rfl ?_
  refine j_iadd C0 dX6_makes_62 rfl ?_
  refine j_ldc C0 1000003 dX6_makes_63 hw_X6_makes_1 rfl ?_
  refine j_irem C0 dX6_makes_65 (by decide) rfl ?_
  refine j_iast C0 (n := 166) (kd_lt (rfl : kd 169 = 18) (by decide)) (ce18 (rfl : kd 169 = 18)) (vp_lit (i := 3) (by decide)) dX6_makes_66 rfl ?_
  refine j_nm (fun μ7 e_μ7 => ?_)
  have hX := hX μ7 e_μ7
  refine j_aload_n C0 0 dX6_makes_67 rfl rfl rfl ?_
  refine j_get6 C0 (v := .ref (ad 169)) 0 (rfl : kd 168 = 6) fw_X6_makes_6 hw_X6_makes_0 (fun _ h9 => h9) (by decide) rfl dX6_makes_68 rfl ?_
  refine j_iconst C0 4 dX6_makes_71 (by decide) rfl ?_
  refine j_dup2 C0 dX6_makes_72 rfl rfl rfl ?_
  refine j_iald C0 (n := 166) (kd_lt (rfl : kd 169 = 18) (by decide)) (ce18 (rfl : kd 169 = 18)) (vp_lit (i := 4) (by decide)) dX6_makes_73 rfl ?_
  refine j_val (μ7 169 4) rfl ?_
  refine j_aload_n C0 0 dX6_makes_74 rfl rfl rfl ?_
  refine j_get6 C0 (v := .ref (ad 169)) 0 (rfl : kd 168 = 6) fw_X6_makes_6 hw_X6_makes_0 (fun _ h9 => h9) (by decide) rfl dX6_makes_75 rfl ?_
  refine j_iconst C0 5 dX6_makes_78 (by decide) rfl ?_
  refine j_iald C0 (n := 166) (kd_lt (rfl : kd 169 = 18) (by decide)) (ce18 (rfl : kd 169 = 18)) (vp_lit (i := 5) (by decide)) dX6_makes_79 rfl ?_
  refine j_val (μ7 169 5) rfl ?_
  refine j_if_lt C0 (tgt := 97) dX6_makes_80 (by decide) rfl (fun c8 => ?_) (fun c8 => ?_)
  · have hX := hX.1 c8
    exact j_sub (l' := [(0, .ref (ad 168)), (2, .int a2)]) [0, 1] rfl (w_X6_makes_L97 C0 hlk hret a2 (μ7 169 4) 4 μ7 K  hX)
  · have hX := hX.2 c8
    refine j_iload_n C0 1 dX6_makes_83 rfl rfl rfl ?_
    refine j_aload_n C0 0 dX6_makes_84 rfl rfl rfl ?_
    refine j_get6 C0 (v := .ref (ad 169)) 0 (rfl : kd 168 = 6) fw_X6_makes_6 hw_X6_makes_0 (fun _ h9 => h9) (by decide) rfl dX6_makes_85 rfl ?_
    refine j_iconst C0 5 dX6_makes_88 (by decide) rfl ?_
    refine j_iald C0 (n := 166) (kd_lt (rfl : kd 169 = 18) (by decide)) (ce18 (rfl : kd 169 = 18)) (vp_lit (i := 5) (by decide)) dX6_makes_89 rfl ?_
    refine j_val (μ7 169 5) rfl ?_
    refine j_icmp_le C0 (tgt := 97) dX6_makes_90 (by decide) rfl (fun c22 => ?_) (fun c22 => ?_)
    · have hX := hX.1 c22
      exact j_sub (l' := [(0, .ref (ad 168)), (2, .int a2)]) [0, 1] rfl (w_X6_makes_L97 C0 hlk hret a2 (μ7 169 4) 4 μ7 K  hX)
    · have hX := hX.2 c22
      refine j_iconst C0 1 dX6_makes_93 (by decide) rfl ?_
      refine j_goto C0 (tgt := 98) dX6_makes_94 (by decide) ?_
      exact j_sub (l' := [(0, .ref (ad 168)), (2, .int a2)]) [0, 1] rfl (w_X6_makes_L98 C0 hlk hret a2 1 (μ7 169 4) 4 μ7 K  hX)
def x_X6_makes_L25 (K : Int32 → Mem → Prop) (a1 : Int32) (as0 : Int32) (μ : Mem) : Prop :=
  (a1 ≤ (μ 169 0) → x_X6_makes_L48 K as0 0 (μ 169 2) 2 μ) ∧ (¬ (a1 ≤ (μ 169 0)) → x_X6_makes_L48 K as0 1 (μ 169 2) 2 μ)
set_option maxRecDepth 20000 in
theorem w_X6_makes_L25 {p : Program} {l : Launch} {e : Env} {s : State} {m : MethodId} {args : Array Value} {below : List Frame} {meth : Method} {c : Code} {D : va_G} {Y : Nat → ClassId} {ad : Nat → Nat} (C0 : CX D Y ad (PA ad) rm_X6_makes 0 0 p s args m c cX6_makes 4 RX6 wsX6_makes) (hlk : meth.locks = false) (hret : meth.sig.returnType = (some .int)) (a1 : Int32) (as0 : Int32) (μ : Mem) (K : Int32 → Mem → Prop)  (hX : x_X6_makes_L25 K a1 as0 μ) : J p l e rm_X6_makes s m args below meth c D Y ad (PA ad) 0 0 4 (MQ below (va_Qi K (BB D Y ad) (PA ad)) args s 0 0 (PA ad)) 25 [(0, .ref (ad 168)), (1, .int a1)] [.int as0] μ := by
  refine j_istore_n C0 [(2, .int as0), (0, .ref (ad 168)), (1, .int a1)] dX6_makes_25 rfl (by decide) rfl rfl ?_
  refine j_aload_n C0 1 dX6_makes_26 rfl rfl rfl ?_
  refine j_get6 C0 (v := .ref (ad 169)) 0 (rfl : kd 168 = 6) fw_X6_makes_6 hw_X6_makes_0 (fun _ h9 => h9) (by decide) rfl dX6_makes_27 rfl ?_
  refine j_iconst C0 2 dX6_makes_30 (by decide) rfl ?_
  refine j_dup2 C0 dX6_makes_31 rfl rfl rfl ?_
  refine j_iald C0 (n := 166) (kd_lt (rfl : kd 169 = 18) (by decide)) (ce18 (rfl : kd 169 = 18)) (vp_lit (i := 2) (by decide)) dX6_makes_32 rfl ?_
  refine j_val (μ 169 2) rfl ?_
  refine j_iload_n C0 2 dX6_makes_33 rfl rfl rfl ?_
  refine j_aload_n C0 1 dX6_makes_34 rfl rfl rfl ?_
  refine j_get6 C0 (v := .ref (ad 169)) 0 (rfl : kd 168 = 6) fw_X6_makes_6 hw_X6_makes_0 (fun _ h9 => h9) (by decide) rfl dX6_makes_35 rfl ?_
  refine j_iconst C0 0 dX6_makes_38 (by decide) rfl ?_
  refine j_iald C0 (n := 166) (kd_lt (rfl : kd 169 = 18) (by decide)) (ce18 (rfl : kd 169 = 18)) (vp_lit (i := 0) (by decide)) dX6_makes_39 rfl ?_
  refine j_val (μ 169 0) rfl ?_
  refine j_icmp_le C0 (tgt := 47) dX6_makes_40 (by decide) rfl (fun c4 => ?_) (fun c4 => ?_)
  · have hX := hX.1 c4
    refine j_iconst C0 0 dX6_makes_47 (by decide) rfl ?_
    exact j_sub (l' := [(0, .ref (ad 168)), (2, .int as0)]) [1, 0] rfl (w_X6_makes_L48 C0 hlk hret as0 0 (μ 169 2) 2 μ K  hX)
  · have hX := hX.2 c4
    refine j_iconst C0 1 dX6_makes_43 (by decide) rfl ?_
    refine j_goto C0 (tgt := 48) dX6_makes_44 (by decide) ?_
    exact j_sub (l' := [(0, .ref (ad 168)), (2, .int as0)]) [1, 0] rfl (w_X6_makes_L48 C0 hlk hret as0 1 (μ 169 2) 2 μ K  hX)
def x_X6_makes  (μ : Mem) (K : Int32 → Mem → Prop) : Prop :=
  x_X6_mixture  μ (fun r2 μ1 => (r2 ≤ (μ1 169 0) → x_X6_makes_L25 K r2 r2 μ1) ∧ (¬ (r2 ≤ (μ1 169 0)) → x_X6_makes_L25 K r2 (μ1 169 0) μ1))
set_option maxRecDepth 20000 in
theorem w_X6_makes {p : Program} {l : Launch} {e : Env} {s : State} {m : MethodId} {args : Array Value} {below : List Frame} {meth : Method} {c : Code} {D : va_G} {Y : Nat → ClassId} {ad : Nat → Nat} (C0 : CX D Y ad (PA ad) rm_X6_makes 0 0 p s args m c cX6_makes 4 RX6 wsX6_makes) (hlk : meth.locks = false) (hret : meth.sig.returnType = (some .int))  (μ : Mem) (K : Int32 → Mem → Prop)  (hX : x_X6_makes  μ K) : J p l e rm_X6_makes s m args below meth c D Y ad (PA ad) 0 0 4 (MQ below (va_Qi K (BB D Y ad) (PA ad)) args s 0 0 (PA ad)) 0 [(0, .ref (ad 168))] [] μ := by
  refine j_aload_n C0 0 dX6_makes_0 rfl rfl rfl ?_
  refine j_callVi C0 0 [] (c_X6_mixture   hX) dX6_makes_1 gX6_makes_X6_mixture rfl (by decide +kernel) ⟨⟨Nat.le_of_ble_eq_true rfl, Nat.le_of_ble_eq_true rfl⟩, rfl, rfl⟩ (kd_lt (rfl : kd 168 = 6) (by decide)) (ce6 (rfl : kd 168 = 6)) rfl rfl rfl (Nat.le_of_ble_eq_true rfl) rfl (fun r2 μ1 hX => ?_)
  refine j_istore_n C0 [(1, .int r2), (0, .ref (ad 168))] dX6_makes_4 rfl (by decide) rfl rfl ?_
  refine j_iload_n C0 0 dX6_makes_5 rfl rfl rfl ?_
  refine j_aload_n C0 1 dX6_makes_6 rfl rfl rfl ?_
  refine j_get6 C0 (v := .ref (ad 169)) 0 (rfl : kd 168 = 6) fw_X6_makes_6 hw_X6_makes_0 (fun _ h9 => h9) (by decide) rfl dX6_makes_7 rfl ?_
  refine j_iconst C0 0 dX6_makes_10 (by decide) rfl ?_
  refine j_iald C0 (n := 166) (kd_lt (rfl : kd 169 = 18) (by decide)) (ce18 (rfl : kd 169 = 18)) (vp_lit (i := 0) (by decide)) dX6_makes_11 rfl ?_
  refine j_val (μ1 169 0) rfl ?_
  refine j_icmp_le C0 (tgt := 24) dX6_makes_12 (by decide) rfl (fun c3 => ?_) (fun c3 => ?_)
  · have hX := hX.1 c3
    refine j_iload_n C0 0 dX6_makes_24 rfl rfl rfl ?_
    exact j_sub (l' := [(0, .ref (ad 168)), (1, .int r2)]) [1, 0] rfl (w_X6_makes_L25 C0 hlk hret r2 r2 μ1 K  hX)
  · have hX := hX.2 c3
    refine j_aload_n C0 1 dX6_makes_15 rfl rfl rfl ?_
    refine j_get6 C0 (v := .ref (ad 169)) 0 (rfl : kd 168 = 6) fw_X6_makes_6 hw_X6_makes_0 (fun _ h9 => h9) (by decide) rfl dX6_makes_16 rfl ?_
    refine j_iconst C0 0 dX6_makes_19 (by decide) rfl ?_
    refine j_iald C0 (n := 166) (kd_lt (rfl : kd 169 = 18) (by decide)) (ce18 (rfl : kd 169 = 18)) (vp_lit (i := 0) (by decide)) dX6_makes_20 rfl ?_
    refine j_val (μ1 169 0) rfl ?_
    refine j_goto C0 (tgt := 25) dX6_makes_21 (by decide) ?_
    exact j_sub (l' := [(0, .ref (ad 168)), (1, .int r2)]) [1, 0] rfl (w_X6_makes_L25 C0 hlk hret r2 (μ1 169 0) μ1 K  hX)
theorem c_X6_makes {l : Launch} {D : va_G} {Y : Nat → ClassId} {ad : Nat → Nat}  {μ : Mem} {K : Int32 → Mem → Prop}  (hX : x_X6_makes  μ K) : ConI l yX6_makes wsX6_makes rm_X6_makes [.ref (ad 168)] D Y ad μ K := conI_of (cc := cX6_makes) (maxL := 4) (ret := (some .int)) (own := RX6) _ (by decide +kernel) rfl rfl (Nat.le_of_ble_eq_true rfl) (fun p e s m args below meth c C0 hlk hret => j_sub (l' := [(0, .ref (ad 168))]) [0] rfl (w_X6_makes C0 hlk hret  μ K  hX))
/-! PhaseTonesModel.steps(II)I -/
abbrev rm_X6_steps : Room := rmf 2 42
theorem fw_X6_steps_6 : ∀ w ∈ wsX60, w ∈ wsX6_steps := by decide +kernel
theorem hw_X6_steps_0 : Cond.constant RX6 65 (65535) ∈ wsX6_steps := by decide +kernel
theorem hw_X6_steps_1 : Cond.fieldLink RX6 7 RX6 (TX6 0).2.1 (TX6 0).2.2.1 ∈ wsX6_steps := by decide +kernel
def x_X6_steps (a1 : Int32) (a2 : Int32) (μ : Mem) (K : Int32 → Mem → Prop) : Prop :=
  x_X6_isOne a1 μ (fun r2 μ1 => (r2 = 0 → K (-1) μ1) ∧ (¬ (r2 = 0) → x_X6_in a2 0 65535 μ1 (fun r5 μ4 => (r5 = 0 → K (-2) μ4) ∧ (¬ (r5 = 0) → x_X6_w a1 μ4 (fun r8 μ7 => vp_in (r8 + 1) 166 ∧ ∀ v10 : Int32, v10 = (μ7 169 (r8 + 1).toNatClampNeg) → vp_in (r8 + 1) 166 ∧ ∀ μ12 : Mem, μ12 = um μ7 169 (upd (μ7 169) (r8 + 1).toNatClampNeg a2) → vp_in (r8 + 5) 166 ∧ ∀ μ14 : Mem, μ14 = um μ12 169 (upd (μ12 169) (r8 + 5).toNatClampNeg 0) → vp_in (r8 + 6) 166 ∧ ∀ μ16 : Mem, μ16 = um μ14 169 (upd (μ14 169) (r8 + 6).toNatClampNeg 0) → K v10 μ16)))))
set_option maxRecDepth 20000 in
theorem w_X6_steps {p : Program} {l : Launch} {e : Env} {s : State} {m : MethodId} {args : Array Value} {below : List Frame} {meth : Method} {c : Code} {D : va_G} {Y : Nat → ClassId} {ad : Nat → Nat} (C0 : CX D Y ad (PA ad) rm_X6_steps 0 0 p s args m c cX6_steps 5 RX6 wsX6_steps) (hlk : meth.locks = false) (hret : meth.sig.returnType = (some .int)) (a1 : Int32) (a2 : Int32) (μ : Mem) (K : Int32 → Mem → Prop)  (hX : x_X6_steps a1 a2 μ K) : J p l e rm_X6_steps s m args below meth c D Y ad (PA ad) 0 0 5 (MQ below (va_Qi K (BB D Y ad) (PA ad)) args s 0 0 (PA ad)) 0 [(0, .ref (ad 168)), (1, .int a1), (2, .int a2)] [] μ := by
  refine j_iload_n C0 1 dX6_steps_0 rfl rfl rfl ?_
  refine j_callSi C0 1 [.int a1] (c_X6_isOne a1  hX) dX6_steps_1 gX6_steps_X6_isOne rfl (by decide +kernel) ⟨⟨Nat.le_of_ble_eq_true rfl, Nat.le_of_ble_eq_true rfl⟩, rfl, rfl⟩ rfl rfl (Nat.le_of_ble_eq_true rfl) rfl (fun r2 μ1 hX => ?_)
  refine j_if_ne C0 (tgt := 9) dX6_steps_4 (by decide) rfl (fun c3 => ?_) (fun c3 => ?_)
  · have hX := hX.1 c3
    refine j_iconst C0 (-1) dX6_steps_7 (by decide) rfl ?_
    exact j_iret C0 hlk hret dX6_steps_8 hX
  · have hX := hX.2 c3
    refine j_iload_n C0 2 dX6_steps_9 rfl rfl rfl ?_
    refine j_iconst C0 0 dX6_steps_10 (by decide) rfl ?_
    refine j_ldc C0 65535 dX6_steps_11 hw_X6_steps_0 rfl ?_
    refine j_callSi C0 3 [.int a2, .int 0, .int 65535] (c_X6_in a2 0 65535  hX) dX6_steps_13 gX6_steps_X6_in rfl (by decide +kernel) ⟨⟨Nat.le_of_ble_eq_true rfl, Nat.le_of_ble_eq_true rfl⟩, rfl, rfl⟩ rfl rfl (Nat.le_of_ble_eq_true rfl) rfl (fun r5 μ4 hX => ?_)
    refine j_if_ne C0 (tgt := 22) dX6_steps_16 (by decide) rfl (fun c6 => ?_) (fun c6 => ?_)
    · have hX := hX.1 c6
      refine j_bipush C0 (-2) dX6_steps_19 (by decide) rfl ?_
      exact j_iret C0 hlk hret dX6_steps_21 hX
    · have hX := hX.2 c6
      refine j_iload_n C0 1 dX6_steps_22 rfl rfl rfl ?_
      refine j_callSi C0 1 [.int a1] (c_X6_w a1  hX) dX6_steps_23 gX6_steps_X6_w rfl (by decide +kernel) ⟨⟨Nat.le_of_ble_eq_true rfl, Nat.le_of_ble_eq_true rfl⟩, rfl, rfl⟩ rfl rfl (Nat.le_of_ble_eq_true rfl) rfl (fun r8 μ7 hX => ?_)
      refine j_istore_n C0 [(3, .int r8), (0, .ref (ad 168)), (1, .int a1), (2, .int a2)] dX6_steps_26 rfl (by decide) rfl rfl ?_
      refine j_aload_n C0 1 dX6_steps_27 rfl rfl rfl ?_
      refine j_get6 C0 (v := .ref (ad 169)) 0 (rfl : kd 168 = 6) fw_X6_steps_6 hw_X6_steps_1 (fun _ h9 => h9) (by decide) rfl dX6_steps_28 rfl ?_
      refine j_iload_n C0 0 dX6_steps_31 rfl rfl rfl ?_
      refine j_iconst C0 1 dX6_steps_32 (by decide) rfl ?_
      refine j_iadd C0 dX6_steps_33 rfl ?_
      obtain ⟨h9, hX⟩ := hX
      refine j_iald C0 (n := 166) (kd_lt (rfl : kd 169 = 18) (by decide)) (ce18 (rfl : kd 169 = 18)) h9 dX6_steps_34 rfl ?_
      refine j_topi (fun v10 e_v10 => ?_)
      have hX := hX v10 e_v10
      refine j_istore C0 [(4, .int v10), (3, .int r8), (0, .ref (ad 168)), (1, .int a1), (2, .int a2)] dX6_steps_35 (by decide) rfl rfl ?_
      refine j_aload_n C0 2 dX6_steps_37 rfl rfl rfl ?_
      refine j_get6 C0 (v := .ref (ad 169)) 0 (rfl : kd 168 = 6) fw_X6_steps_6 hw_X6_steps_1 (fun _ h9 => h9) (by decide) rfl dX6_steps_38 rfl ?_
      refine j_iload_n C0 1 dX6_steps_41 rfl rfl rfl ?_
      refine j_iconst C0 1 dX6_steps_42 (by decide) rfl ?_
      refine j_iadd C0 dX6_steps_43 rfl ?_
      refine j_iload_n C0 4 dX6_steps_44 rfl rfl rfl ?_
      obtain ⟨h11, hX⟩ := hX
      refine j_iast C0 (n := 166) (kd_lt (rfl : kd 169 = 18) (by decide)) (ce18 (rfl : kd 169 = 18)) h11 dX6_steps_45 rfl ?_
      refine j_nm (fun μ12 e_μ12 => ?_)
      have hX := hX μ12 e_μ12
      refine j_aload_n C0 2 dX6_steps_46 rfl rfl rfl ?_
      refine j_get6 C0 (v := .ref (ad 169)) 0 (rfl : kd 168 = 6) fw_X6_steps_6 hw_X6_steps_1 (fun _ h9 => h9) (by decide) rfl dX6_steps_47 rfl ?_
      refine j_iload_n C0 1 dX6_steps_50 rfl rfl rfl ?_
      refine j_iconst C0 5 dX6_steps_51 (by decide) rfl ?_
      refine j_iadd C0 dX6_steps_52 rfl ?_
      refine j_iconst C0 0 dX6_steps_53 (by decide) rfl ?_
      obtain ⟨h13, hX⟩ := hX
      refine j_iast C0 (n := 166) (kd_lt (rfl : kd 169 = 18) (by decide)) (ce18 (rfl : kd 169 = 18)) h13 dX6_steps_54 rfl ?_
      refine j_nm (fun μ14 e_μ14 => ?_)
      have hX := hX μ14 e_μ14
      refine j_aload_n C0 2 dX6_steps_55 rfl rfl rfl ?_
      refine j_get6 C0 (v := .ref (ad 169)) 0 (rfl : kd 168 = 6) fw_X6_steps_6 hw_X6_steps_1 (fun _ h9 => h9) (by decide) rfl dX6_steps_56 rfl ?_
      refine j_iload_n C0 1 dX6_steps_59 rfl rfl rfl ?_
      refine j_bipush C0 6 dX6_steps_60 (by decide) rfl ?_
      refine j_iadd C0 dX6_steps_62 rfl ?_
      refine j_iconst C0 0 dX6_steps_63 (by decide) rfl ?_
      obtain ⟨h15, hX⟩ := hX
      refine j_iast C0 (n := 166) (kd_lt (rfl : kd 169 = 18) (by decide)) (ce18 (rfl : kd 169 = 18)) h15 dX6_steps_64 rfl ?_
      refine j_nm (fun μ16 e_μ16 => ?_)
      have hX := hX μ16 e_μ16
      refine j_iload C0 0 dX6_steps_65 rfl rfl ?_
      exact j_iret C0 hlk hret dX6_steps_67 hX
theorem c_X6_steps {l : Launch} {D : va_G} {Y : Nat → ClassId} {ad : Nat → Nat} (a1 : Int32) (a2 : Int32) {μ : Mem} {K : Int32 → Mem → Prop}  (hX : x_X6_steps a1 a2 μ K) : ConI l yX6_steps wsX6_steps rm_X6_steps [.ref (ad 168), .int a1, .int a2] D Y ad μ K := conI_of (cc := cX6_steps) (maxL := 5) (ret := (some .int)) (own := RX6) _ (by decide +kernel) rfl rfl (Nat.le_of_ble_eq_true rfl) (fun p e s m args below meth c C0 hlk hret => j_sub (l' := [(0, .ref (ad 168)), (1, .int a1), (2, .int a2)]) [0, 1, 2] rfl (w_X6_steps C0 hlk hret a1 a2 μ K  hX))
/-! PhaseTonesModel.tables(II)I -/
abbrev rm_X6_tables : Room := rmf 2 42
theorem fw_X6_tables_6 : ∀ w ∈ wsX60, w ∈ wsX6_tables := by decide +kernel
theorem hw_X6_tables_0 : Cond.fieldLink RX6 7 RX6 (TX6 0).2.1 (TX6 0).2.2.1 ∈ wsX6_tables := by decide +kernel
def x_X6_tables (a1 : Int32) (a2 : Int32) (μ : Mem) (K : Int32 → Mem → Prop) : Prop :=
  x_X6_isOne a1 μ (fun r2 μ1 => (r2 = 0 → K (-1) μ1) ∧ (¬ (r2 = 0) → x_X6_isOne a2 μ1 (fun r5 μ4 => (r5 = 0 → K (-1) μ4) ∧ (¬ (r5 = 0) → x_X6_w a1 μ4 (fun r8 μ7 => vp_in (r8 + 2) 166 ∧ ∀ v10 : Int32, v10 = (μ7 169 (r8 + 2).toNatClampNeg) → x_X6_w a1 μ7 (fun r12 μ11 => vp_in (r12 + 2) 166 ∧ ∀ μ14 : Mem, μ14 = um μ11 169 (upd (μ11 169) (r12 + 2).toNatClampNeg a2) → K v10 μ14))))))
set_option maxRecDepth 20000 in
theorem w_X6_tables {p : Program} {l : Launch} {e : Env} {s : State} {m : MethodId} {args : Array Value} {below : List Frame} {meth : Method} {c : Code} {D : va_G} {Y : Nat → ClassId} {ad : Nat → Nat} (C0 : CX D Y ad (PA ad) rm_X6_tables 0 0 p s args m c cX6_tables 4 RX6 wsX6_tables) (hlk : meth.locks = false) (hret : meth.sig.returnType = (some .int)) (a1 : Int32) (a2 : Int32) (μ : Mem) (K : Int32 → Mem → Prop)  (hX : x_X6_tables a1 a2 μ K) : J p l e rm_X6_tables s m args below meth c D Y ad (PA ad) 0 0 4 (MQ below (va_Qi K (BB D Y ad) (PA ad)) args s 0 0 (PA ad)) 0 [(0, .ref (ad 168)), (1, .int a1), (2, .int a2)] [] μ := by
  refine j_iload_n C0 1 dX6_tables_0 rfl rfl rfl ?_
  refine j_callSi C0 1 [.int a1] (c_X6_isOne a1  hX) dX6_tables_1 gX6_tables_X6_isOne rfl (by decide +kernel) ⟨⟨Nat.le_of_ble_eq_true rfl, Nat.le_of_ble_eq_true rfl⟩, rfl, rfl⟩ rfl rfl (Nat.le_of_ble_eq_true rfl) rfl (fun r2 μ1 hX => ?_)
  refine j_if_eq C0 (tgt := 14) dX6_tables_4 (by decide) rfl (fun c3 => ?_) (fun c3 => ?_)
  · have hX := hX.1 c3
    refine j_iconst C0 (-1) dX6_tables_14 (by decide) rfl ?_
    exact j_iret C0 hlk hret dX6_tables_15 hX
  · have hX := hX.2 c3
    refine j_iload_n C0 2 dX6_tables_7 rfl rfl rfl ?_
    refine j_callSi C0 1 [.int a2] (c_X6_isOne a2  hX) dX6_tables_8 gX6_tables_X6_isOne rfl (by decide +kernel) ⟨⟨Nat.le_of_ble_eq_true rfl, Nat.le_of_ble_eq_true rfl⟩, rfl, rfl⟩ rfl rfl (Nat.le_of_ble_eq_true rfl) rfl (fun r5 μ4 hX => ?_)
    refine j_if_ne C0 (tgt := 16) dX6_tables_11 (by decide) rfl (fun c6 => ?_) (fun c6 => ?_)
    · have hX := hX.1 c6
      refine j_iconst C0 (-1) dX6_tables_14 (by decide) rfl ?_
      exact j_iret C0 hlk hret dX6_tables_15 hX
    · have hX := hX.2 c6
      refine j_aload_n C0 0 dX6_tables_16 rfl rfl rfl ?_
      refine j_get6 C0 (v := .ref (ad 169)) 0 (rfl : kd 168 = 6) fw_X6_tables_6 hw_X6_tables_0 (fun _ h9 => h9) (by decide) rfl dX6_tables_17 rfl ?_
      refine j_iload_n C0 1 dX6_tables_20 rfl rfl rfl ?_
      refine j_callSi C0 1 [.int a1] (c_X6_w a1  hX) dX6_tables_21 gX6_tables_X6_w rfl (by decide +kernel) ⟨⟨Nat.le_of_ble_eq_true rfl, Nat.le_of_ble_eq_true rfl⟩, rfl, rfl⟩ rfl rfl (Nat.le_of_ble_eq_true rfl) rfl (fun r8 μ7 hX => ?_)
      refine j_iconst C0 2 dX6_tables_24 (by decide) rfl ?_
      refine j_iadd C0 dX6_tables_25 rfl ?_
      obtain ⟨h9, hX⟩ := hX
      refine j_iald C0 (n := 166) (kd_lt (rfl : kd 169 = 18) (by decide)) (ce18 (rfl : kd 169 = 18)) h9 dX6_tables_26 rfl ?_
      refine j_topi (fun v10 e_v10 => ?_)
      have hX := hX v10 e_v10
      refine j_istore_n C0 [(3, .int v10), (0, .ref (ad 168)), (1, .int a1), (2, .int a2)] dX6_tables_27 rfl (by decide) rfl rfl ?_
      refine j_aload_n C0 1 dX6_tables_28 rfl rfl rfl ?_
      refine j_get6 C0 (v := .ref (ad 169)) 0 (rfl : kd 168 = 6) fw_X6_tables_6 hw_X6_tables_0 (fun _ h9 => h9) (by decide) rfl dX6_tables_29 rfl ?_
      refine j_iload_n C0 2 dX6_tables_32 rfl rfl rfl ?_
      refine j_callSi C0 1 [.int a1] (c_X6_w a1  hX) dX6_tables_33 gX6_tables_X6_w rfl (by decide +kernel) ⟨⟨Nat.le_of_ble_eq_true rfl, Nat.le_of_ble_eq_true rfl⟩, rfl, rfl⟩ rfl rfl (Nat.le_of_ble_eq_true rfl) rfl (fun r12 μ11 hX => ?_)
      refine j_iconst C0 2 dX6_tables_36 (by decide) rfl ?_
      refine j_iadd C0 dX6_tables_37 rfl ?_
      refine j_iload_n C0 3 dX6_tables_38 rfl rfl rfl ?_
      obtain ⟨h13, hX⟩ := hX
      refine j_iast C0 (n := 166) (kd_lt (rfl : kd 169 = 18) (by decide)) (ce18 (rfl : kd 169 = 18)) h13 dX6_tables_39 rfl ?_
      refine j_nm (fun μ14 e_μ14 => ?_)
      have hX := hX μ14 e_μ14
      refine j_iload_n C0 0 dX6_tables_40 rfl rfl rfl ?_
      exact j_iret C0 hlk hret dX6_tables_41 hX
theorem c_X6_tables {l : Launch} {D : va_G} {Y : Nat → ClassId} {ad : Nat → Nat} (a1 : Int32) (a2 : Int32) {μ : Mem} {K : Int32 → Mem → Prop}  (hX : x_X6_tables a1 a2 μ K) : ConI l yX6_tables wsX6_tables rm_X6_tables [.ref (ad 168), .int a1, .int a2] D Y ad μ K := conI_of (cc := cX6_tables) (maxL := 4) (ret := (some .int)) (own := RX6) _ (by decide +kernel) rfl rfl (Nat.le_of_ble_eq_true rfl) (fun p e s m args below meth c C0 hlk hret => j_sub (l' := [(0, .ref (ad 168)), (1, .int a1), (2, .int a2)]) [0, 1, 2] rfl (w_X6_tables C0 hlk hret a1 a2 μ K  hX))
/-! PhaseTonesModel.volumes(II)I -/
abbrev rm_X6_volumes : Room := rmf 2 42
theorem fw_X6_volumes_6 : ∀ w ∈ wsX60, w ∈ wsX6_volumes := by decide +kernel
theorem hw_X6_volumes_0 : Cond.fieldLink RX6 7 RX6 (TX6 0).2.1 (TX6 0).2.2.1 ∈ wsX6_volumes := by decide +kernel
def x_X6_volumes (a1 : Int32) (a2 : Int32) (μ : Mem) (K : Int32 → Mem → Prop) : Prop :=
  x_X6_isOne a1 μ (fun r2 μ1 => (r2 = 0 → K (-1) μ1) ∧ (¬ (r2 = 0) → x_X6_in a2 0 16 μ1 (fun r5 μ4 => (r5 = 0 → K (-2) μ4) ∧ (¬ (r5 = 0) → x_X6_w a1 μ4 (fun r8 μ7 => vp_in (r8 + 3) 166 ∧ ∀ v10 : Int32, v10 = (μ7 169 (r8 + 3).toNatClampNeg) → x_X6_w a1 μ7 (fun r12 μ11 => vp_in (r12 + 3) 166 ∧ ∀ μ14 : Mem, μ14 = um μ11 169 (upd (μ11 169) (r12 + 3).toNatClampNeg a2) → K v10 μ14))))))
set_option maxRecDepth 20000 in
theorem w_X6_volumes {p : Program} {l : Launch} {e : Env} {s : State} {m : MethodId} {args : Array Value} {below : List Frame} {meth : Method} {c : Code} {D : va_G} {Y : Nat → ClassId} {ad : Nat → Nat} (C0 : CX D Y ad (PA ad) rm_X6_volumes 0 0 p s args m c cX6_volumes 4 RX6 wsX6_volumes) (hlk : meth.locks = false) (hret : meth.sig.returnType = (some .int)) (a1 : Int32) (a2 : Int32) (μ : Mem) (K : Int32 → Mem → Prop)  (hX : x_X6_volumes a1 a2 μ K) : J p l e rm_X6_volumes s m args below meth c D Y ad (PA ad) 0 0 4 (MQ below (va_Qi K (BB D Y ad) (PA ad)) args s 0 0 (PA ad)) 0 [(0, .ref (ad 168)), (1, .int a1), (2, .int a2)] [] μ := by
  refine j_iload_n C0 1 dX6_volumes_0 rfl rfl rfl ?_
  refine j_callSi C0 1 [.int a1] (c_X6_isOne a1  hX) dX6_volumes_1 gX6_volumes_X6_isOne rfl (by decide +kernel) ⟨⟨Nat.le_of_ble_eq_true rfl, Nat.le_of_ble_eq_true rfl⟩, rfl, rfl⟩ rfl rfl (Nat.le_of_ble_eq_true rfl) rfl (fun r2 μ1 hX => ?_)
  refine j_if_ne C0 (tgt := 9) dX6_volumes_4 (by decide) rfl (fun c3 => ?_) (fun c3 => ?_)
  · have hX := hX.1 c3
    refine j_iconst C0 (-1) dX6_volumes_7 (by decide) rfl ?_
    exact j_iret C0 hlk hret dX6_volumes_8 hX
  · have hX := hX.2 c3
    refine j_iload_n C0 2 dX6_volumes_9 rfl rfl rfl ?_
    refine j_iconst C0 0 dX6_volumes_10 (by decide) rfl ?_
    refine j_bipush C0 16 dX6_volumes_11 (by decide) rfl ?_
    refine j_callSi C0 3 [.int a2, .int 0, .int 16] (c_X6_in a2 0 16  hX) dX6_volumes_13 gX6_volumes_X6_in rfl (by decide +kernel) ⟨⟨Nat.le_of_ble_eq_true rfl, Nat.le_of_ble_eq_true rfl⟩, rfl, rfl⟩ rfl rfl (Nat.le_of_ble_eq_true rfl) rfl (fun r5 μ4 hX => ?_)
    refine j_if_ne C0 (tgt := 22) dX6_volumes_16 (by decide) rfl (fun c6 => ?_) (fun c6 => ?_)
    · have hX := hX.1 c6
      refine j_bipush C0 (-2) dX6_volumes_19 (by decide) rfl ?_
      exact j_iret C0 hlk hret dX6_volumes_21 hX
    · have hX := hX.2 c6
      refine j_aload_n C0 0 dX6_volumes_22 rfl rfl rfl ?_
      refine j_get6 C0 (v := .ref (ad 169)) 0 (rfl : kd 168 = 6) fw_X6_volumes_6 hw_X6_volumes_0 (fun _ h9 => h9) (by decide) rfl dX6_volumes_23 rfl ?_
      refine j_iload_n C0 1 dX6_volumes_26 rfl rfl rfl ?_
      refine j_callSi C0 1 [.int a1] (c_X6_w a1  hX) dX6_volumes_27 gX6_volumes_X6_w rfl (by decide +kernel) ⟨⟨Nat.le_of_ble_eq_true rfl, Nat.le_of_ble_eq_true rfl⟩, rfl, rfl⟩ rfl rfl (Nat.le_of_ble_eq_true rfl) rfl (fun r8 μ7 hX => ?_)
      refine j_iconst C0 3 dX6_volumes_30 (by decide) rfl ?_
      refine j_iadd C0 dX6_volumes_31 rfl ?_
      obtain ⟨h9, hX⟩ := hX
      refine j_iald C0 (n := 166) (kd_lt (rfl : kd 169 = 18) (by decide)) (ce18 (rfl : kd 169 = 18)) h9 dX6_volumes_32 rfl ?_
      refine j_topi (fun v10 e_v10 => ?_)
      have hX := hX v10 e_v10
      refine j_istore_n C0 [(3, .int v10), (0, .ref (ad 168)), (1, .int a1), (2, .int a2)] dX6_volumes_33 rfl (by decide) rfl rfl ?_
      refine j_aload_n C0 1 dX6_volumes_34 rfl rfl rfl ?_
      refine j_get6 C0 (v := .ref (ad 169)) 0 (rfl : kd 168 = 6) fw_X6_volumes_6 hw_X6_volumes_0 (fun _ h9 => h9) (by decide) rfl dX6_volumes_35 rfl ?_
      refine j_iload_n C0 2 dX6_volumes_38 rfl rfl rfl ?_
      refine j_callSi C0 1 [.int a1] (c_X6_w a1  hX) dX6_volumes_39 gX6_volumes_X6_w rfl (by decide +kernel) ⟨⟨Nat.le_of_ble_eq_true rfl, Nat.le_of_ble_eq_true rfl⟩, rfl, rfl⟩ rfl rfl (Nat.le_of_ble_eq_true rfl) rfl (fun r12 μ11 hX => ?_)
      refine j_iconst C0 3 dX6_volumes_42 (by decide) rfl ?_
      refine j_iadd C0 dX6_volumes_43 rfl ?_
      refine j_iload_n C0 3 dX6_volumes_44 rfl rfl rfl ?_
      obtain ⟨h13, hX⟩ := hX
      refine j_iast C0 (n := 166) (kd_lt (rfl : kd 169 = 18) (by decide)) (ce18 (rfl : kd 169 = 18)) h13 dX6_volumes_45 rfl ?_
      refine j_nm (fun μ14 e_μ14 => ?_)
      have hX := hX μ14 e_μ14
      refine j_iload_n C0 0 dX6_volumes_46 rfl rfl rfl ?_
      exact j_iret C0 hlk hret dX6_volumes_47 hX
theorem c_X6_volumes {l : Launch} {D : va_G} {Y : Nat → ClassId} {ad : Nat → Nat} (a1 : Int32) (a2 : Int32) {μ : Mem} {K : Int32 → Mem → Prop}  (hX : x_X6_volumes a1 a2 μ K) : ConI l yX6_volumes wsX6_volumes rm_X6_volumes [.ref (ad 168), .int a1, .int a2] D Y ad μ K := conI_of (cc := cX6_volumes) (maxL := 4) (ret := (some .int)) (own := RX6) _ (by decide +kernel) rfl rfl (Nat.le_of_ble_eq_true rfl) (fun p e s m args below meth c C0 hlk hret => j_sub (l' := [(0, .ref (ad 168)), (1, .int a1), (2, .int a2)]) [0, 1, 2] rfl (w_X6_volumes C0 hlk hret a1 a2 μ K  hX))
/-! PhaseTonesModel.onWheels()I -/
abbrev rm_X6_onWheels : Room := rmf 1 20
theorem fw_X6_onWheels_6 : ∀ w ∈ wsX60, w ∈ wsX6_onWheels := by decide +kernel
theorem hw_X6_onWheels_0 : Cond.fieldLink RX6 7 RX6 (TX6 0).2.1 (TX6 0).2.2.1 ∈ wsX6_onWheels := by decide +kernel
def xb_X6_onWheels_L4 (K : Int32 → Mem → Prop) (B : Int32 → Int32 → Mem → Prop) (a1 : Int32) (a2 : Int32) (μ : Mem) : Prop :=
  (4 ≤ a2 → K a1 μ) ∧ (¬ (4 ≤ a2) → x_X6_w a2 μ (fun r3 μ2 => vp_in (r3 + 4) 166 ∧ ∀ v5 : Int32, v5 = (a1 ||| ((μ2 169 (r3 + 4).toNatClampNeg) <<< (a2 &&& 31))) → ∀ v6 : Int32, v6 = a2 + 1 → B v5 v6 μ2))
def x_X6_onWheels_L4 (K : Int32 → Mem → Prop) : Nat → Int32 → Int32 → Mem → Prop
  | 0 => fun _ _ _ => False
  | n + 1 => fun a1 a2 μ => xb_X6_onWheels_L4 K (x_X6_onWheels_L4 K n) a1 a2 μ
set_option maxRecDepth 20000 in
theorem wb_X6_onWheels_L4 {p : Program} {l : Launch} {e : Env} {s : State} {m : MethodId} {args : Array Value} {below : List Frame} {meth : Method} {c : Code} {D : va_G} {Y : Nat → ClassId} {ad : Nat → Nat} (C0 : CX D Y ad (PA ad) rm_X6_onWheels 0 0 p s args m c cX6_onWheels 3 RX6 wsX6_onWheels) (hlk : meth.locks = false) (hret : meth.sig.returnType = (some .int)) (a1 : Int32) (a2 : Int32) (μ : Mem) (K : Int32 → Mem → Prop) (B : Int32 → Int32 → Mem → Prop) (hB : ∀ (a1 : Int32) (a2 : Int32) (μ : Mem), B a1 a2 μ → J p l e rm_X6_onWheels s m args below meth c D Y ad (PA ad) 0 0 3 (MQ below (va_Qi K (BB D Y ad) (PA ad)) args s 0 0 (PA ad)) 4 [(0, .ref (ad 168)), (1, .int a1), (2, .int a2)] [] μ)  (hX : xb_X6_onWheels_L4 K B a1 a2 μ) : J p l e rm_X6_onWheels s m args below meth c D Y ad (PA ad) 0 0 3 (MQ below (va_Qi K (BB D Y ad) (PA ad)) args s 0 0 (PA ad)) 4 [(0, .ref (ad 168)), (1, .int a1), (2, .int a2)] [] μ := by
  refine j_iload_n C0 2 dX6_onWheels_4 rfl rfl rfl ?_
  refine j_iconst C0 4 dX6_onWheels_5 (by decide) rfl ?_
  refine j_icmp_ge C0 (tgt := 31) dX6_onWheels_6 (by decide) rfl (fun c1 => ?_) (fun c1 => ?_)
  · have hX := hX.1 c1
    refine j_iload_n C0 1 dX6_onWheels_31 rfl rfl rfl ?_
    exact j_iret C0 hlk hret dX6_onWheels_32 hX
  · have hX := hX.2 c1
    refine j_iload_n C0 1 dX6_onWheels_9 rfl rfl rfl ?_
    refine j_aload_n C0 0 dX6_onWheels_10 rfl rfl rfl ?_
    refine j_get6 C0 (v := .ref (ad 169)) 0 (rfl : kd 168 = 6) fw_X6_onWheels_6 hw_X6_onWheels_0 (fun _ h9 => h9) (by decide) rfl dX6_onWheels_11 rfl ?_
    refine j_iload_n C0 2 dX6_onWheels_14 rfl rfl rfl ?_
    refine j_callSi C0 1 [.int a2] (c_X6_w a2  hX) dX6_onWheels_15 gX6_onWheels_X6_w rfl (by decide +kernel) ⟨⟨Nat.le_of_ble_eq_true rfl, Nat.le_of_ble_eq_true rfl⟩, rfl, rfl⟩ rfl rfl (Nat.le_of_ble_eq_true rfl) rfl (fun r3 μ2 hX => ?_)
    refine j_iconst C0 4 dX6_onWheels_18 (by decide) rfl ?_
    refine j_iadd C0 dX6_onWheels_19 rfl ?_
    obtain ⟨h4, hX⟩ := hX
    refine j_iald C0 (n := 166) (kd_lt (rfl : kd 169 = 18) (by decide)) (ce18 (rfl : kd 169 = 18)) h4 dX6_onWheels_20 rfl ?_
    refine j_iload_n C0 2 dX6_onWheels_21 rfl rfl rfl ?_
    refine j_ishl C0 dX6_onWheels_22 rfl ?_
    refine j_ior C0 dX6_onWheels_23 rfl ?_
    refine j_topi (fun v5 e_v5 => ?_)
    have hX := hX v5 e_v5
    refine j_istore_n C0 [(1, .int v5), (0, .ref (ad 168)), (2, .int a2)] dX6_onWheels_24 rfl (by decide) rfl rfl ?_
    obtain ⟨v6, e_v6⟩ : ∃ z : Int32, z = a2 + 1 := ⟨_, rfl⟩
    have hX := hX v6 e_v6
    refine j_iinc C0 2 v6 [(2, .int v6), (1, .int v5), (0, .ref (ad 168))] dX6_onWheels_25 rfl (by rw [e_v6]; rfl) (by decide) rfl rfl ?_
    refine j_goto C0 (tgt := 4) dX6_onWheels_28 (by decide) ?_
    exact j_sub (l' := [(0, .ref (ad 168)), (1, .int v5), (2, .int v6)]) [2, 1, 0] rfl (hB v5 v6 μ2  hX)
theorem w_X6_onWheels_L4 {p : Program} {l : Launch} {e : Env} {s : State} {m : MethodId} {args : Array Value} {below : List Frame} {meth : Method} {c : Code} {D : va_G} {Y : Nat → ClassId} {ad : Nat → Nat} (C0 : CX D Y ad (PA ad) rm_X6_onWheels 0 0 p s args m c cX6_onWheels 3 RX6 wsX6_onWheels) (hlk : meth.locks = false) (hret : meth.sig.returnType = (some .int)) (K : Int32 → Mem → Prop) : ∀ (n : Nat) (a1 : Int32) (a2 : Int32) (μ : Mem)  (hX : x_X6_onWheels_L4 K n a1 a2 μ), J p l e rm_X6_onWheels s m args below meth c D Y ad (PA ad) 0 0 3 (MQ below (va_Qi K (BB D Y ad) (PA ad)) args s 0 0 (PA ad)) 4 [(0, .ref (ad 168)), (1, .int a1), (2, .int a2)] [] μ
  | 0, a1, a2, μ, hX => hX.elim
  | n + 1, a1, a2, μ, hX => wb_X6_onWheels_L4 C0 hlk hret a1 a2 μ K (x_X6_onWheels_L4 K n) (fun a1 a2 μ  hx => w_X6_onWheels_L4 C0 hlk hret K n a1 a2 μ  hx)  hX
def x_X6_onWheels  (μ : Mem) (K : Int32 → Mem → Prop) : Prop :=
  ∃ n : Nat, x_X6_onWheels_L4 K n 0 0 μ
set_option maxRecDepth 20000 in
theorem w_X6_onWheels {p : Program} {l : Launch} {e : Env} {s : State} {m : MethodId} {args : Array Value} {below : List Frame} {meth : Method} {c : Code} {D : va_G} {Y : Nat → ClassId} {ad : Nat → Nat} (C0 : CX D Y ad (PA ad) rm_X6_onWheels 0 0 p s args m c cX6_onWheels 3 RX6 wsX6_onWheels) (hlk : meth.locks = false) (hret : meth.sig.returnType = (some .int))  (μ : Mem) (K : Int32 → Mem → Prop)  (hX : x_X6_onWheels  μ K) : J p l e rm_X6_onWheels s m args below meth c D Y ad (PA ad) 0 0 3 (MQ below (va_Qi K (BB D Y ad) (PA ad)) args s 0 0 (PA ad)) 0 [(0, .ref (ad 168))] [] μ := by
  refine j_iconst C0 0 dX6_onWheels_0 (by decide) rfl ?_
  refine j_istore_n C0 [(1, .int 0), (0, .ref (ad 168))] dX6_onWheels_1 rfl (by decide) rfl rfl ?_
  refine j_iconst C0 0 dX6_onWheels_2 (by decide) rfl ?_
  refine j_istore_n C0 [(2, .int 0), (1, .int 0), (0, .ref (ad 168))] dX6_onWheels_3 rfl (by decide) rfl rfl ?_
  obtain ⟨n, hX⟩ := hX
  exact j_sub (l' := [(0, .ref (ad 168)), (1, .int 0), (2, .int 0)]) [2, 1, 0] rfl (w_X6_onWheels_L4 C0 hlk hret K n 0 0 μ  hX)
theorem c_X6_onWheels {l : Launch} {D : va_G} {Y : Nat → ClassId} {ad : Nat → Nat}  {μ : Mem} {K : Int32 → Mem → Prop}  (hX : x_X6_onWheels  μ K) : ConI l yX6_onWheels wsX6_onWheels rm_X6_onWheels [.ref (ad 168)] D Y ad μ K := conI_of (cc := cX6_onWheels) (maxL := 3) (ret := (some .int)) (own := RX6) _ (by decide +kernel) rfl rfl (Nat.le_of_ble_eq_true rfl) (fun p e s m args below meth c C0 hlk hret => j_sub (l' := [(0, .ref (ad 168))]) [0] rfl (w_X6_onWheels C0 hlk hret  μ K  hX))
/-! PhaseTonesModel.turns(II)I -/
abbrev rm_X6_turns : Room := rmf 2 42
theorem fw_X6_turns_6 : ∀ w ∈ wsX60, w ∈ wsX6_turns := by decide +kernel
theorem hw_X6_turns_0 : Cond.fieldLink RX6 7 RX6 (TX6 0).2.1 (TX6 0).2.2.1 ∈ wsX6_turns := by decide +kernel
def x_X6_turns (a1 : Int32) (a2 : Int32) (μ : Mem) (K : Int32 → Mem → Prop) : Prop :=
  x_X6_isOne a1 μ (fun r2 μ1 => (r2 = 0 → K (-1) μ1) ∧ (¬ (r2 = 0) → x_X6_w a1 μ1 (fun r5 μ4 => vp_in (r5 + 4) 166 ∧ ((μ4 169 (r5 + 4).toNatClampNeg) = a2 → K (-5) μ4) ∧ (¬ ((μ4 169 (r5 + 4).toNatClampNeg) = a2) → x_X6_w a1 μ4 (fun r9 μ8 => vp_in (r9 + 4) 166 ∧ ∀ μ11 : Mem, μ11 = um μ8 169 (upd (μ8 169) (r9 + 4).toNatClampNeg a2) → x_X6_onWheels  μ11 (fun r13 μ12 => K ((((r13 &&& 1) + ((r13 >>> ((1 : Int32) &&& 31)) &&& 1)) + ((r13 >>> ((2 : Int32) &&& 31)) &&& 1)) + (r13 >>> ((3 : Int32) &&& 31))) μ12))))))
set_option maxRecDepth 20000 in
theorem w_X6_turns {p : Program} {l : Launch} {e : Env} {s : State} {m : MethodId} {args : Array Value} {below : List Frame} {meth : Method} {c : Code} {D : va_G} {Y : Nat → ClassId} {ad : Nat → Nat} (C0 : CX D Y ad (PA ad) rm_X6_turns 0 0 p s args m c cX6_turns 4 RX6 wsX6_turns) (hlk : meth.locks = false) (hret : meth.sig.returnType = (some .int)) (a1 : Int32) (a2 : Int32) (μ : Mem) (K : Int32 → Mem → Prop)  (hX : x_X6_turns a1 a2 μ K) : J p l e rm_X6_turns s m args below meth c D Y ad (PA ad) 0 0 4 (MQ below (va_Qi K (BB D Y ad) (PA ad)) args s 0 0 (PA ad)) 0 [(0, .ref (ad 168)), (1, .int a1), (2, .int a2)] [] μ := by
  refine j_iload_n C0 1 dX6_turns_0 rfl rfl rfl ?_
  refine j_callSi C0 1 [.int a1] (c_X6_isOne a1  hX) dX6_turns_1 gX6_turns_X6_isOne rfl (by decide +kernel) ⟨⟨Nat.le_of_ble_eq_true rfl, Nat.le_of_ble_eq_true rfl⟩, rfl, rfl⟩ rfl rfl (Nat.le_of_ble_eq_true rfl) rfl (fun r2 μ1 hX => ?_)
  refine j_if_ne C0 (tgt := 9) dX6_turns_4 (by decide) rfl (fun c3 => ?_) (fun c3 => ?_)
  · have hX := hX.1 c3
    refine j_iconst C0 (-1) dX6_turns_7 (by decide) rfl ?_
    exact j_iret C0 hlk hret dX6_turns_8 hX
  · have hX := hX.2 c3
    refine j_aload_n C0 0 dX6_turns_9 rfl rfl rfl ?_
    refine j_get6 C0 (v := .ref (ad 169)) 0 (rfl : kd 168 = 6) fw_X6_turns_6 hw_X6_turns_0 (fun _ h9 => h9) (by decide) rfl dX6_turns_10 rfl ?_
    refine j_iload_n C0 1 dX6_turns_13 rfl rfl rfl ?_
    refine j_callSi C0 1 [.int a1] (c_X6_w a1  hX) dX6_turns_14 gX6_turns_X6_w rfl (by decide +kernel) ⟨⟨Nat.le_of_ble_eq_true rfl, Nat.le_of_ble_eq_true rfl⟩, rfl, rfl⟩ rfl rfl (Nat.le_of_ble_eq_true rfl) rfl (fun r5 μ4 hX => ?_)
    refine j_iconst C0 4 dX6_turns_17 (by decide) rfl ?_
    refine j_iadd C0 dX6_turns_18 rfl ?_
    obtain ⟨h6, hX⟩ := hX
    refine j_iald C0 (n := 166) (kd_lt (rfl : kd 169 = 18) (by decide)) (ce18 (rfl : kd 169 = 18)) h6 dX6_turns_19 rfl ?_
    refine j_iload_n C0 2 dX6_turns_20 rfl rfl rfl ?_
    refine j_icmp_ne C0 (tgt := 27) dX6_turns_21 (by decide) rfl (fun c7 => ?_) (fun c7 => ?_)
    · have hX := hX.1 c7
      refine j_bipush C0 (-5) dX6_turns_24 (by decide) rfl ?_
      exact j_iret C0 hlk hret dX6_turns_26 hX
    · have hX := hX.2 c7
      refine j_aload_n C0 0 dX6_turns_27 rfl rfl rfl ?_
      refine j_get6 C0 (v := .ref (ad 169)) 0 (rfl : kd 168 = 6) fw_X6_turns_6 hw_X6_turns_0 (fun _ h9 => h9) (by decide) rfl dX6_turns_28 rfl ?_
      refine j_iload_n C0 1 dX6_turns_31 rfl rfl rfl ?_
      refine j_callSi C0 1 [.int a1] (c_X6_w a1  hX) dX6_turns_32 gX6_turns_X6_w rfl (by decide +kernel) ⟨⟨Nat.le_of_ble_eq_true rfl, Nat.le_of_ble_eq_true rfl⟩, rfl, rfl⟩ rfl rfl (Nat.le_of_ble_eq_true rfl) rfl (fun r9 μ8 hX => ?_)
      refine j_iconst C0 4 dX6_turns_35 (by decide) rfl ?_
      refine j_iadd C0 dX6_turns_36 rfl ?_
      refine j_iload_n C0 2 dX6_turns_37 rfl rfl rfl ?_
      obtain ⟨h10, hX⟩ := hX
      refine j_iast C0 (n := 166) (kd_lt (rfl : kd 169 = 18) (by decide)) (ce18 (rfl : kd 169 = 18)) h10 dX6_turns_38 rfl ?_
      refine j_nm (fun μ11 e_μ11 => ?_)
      have hX := hX μ11 e_μ11
      refine j_aload_n C0 0 dX6_turns_39 rfl rfl rfl ?_
      refine j_callVi C0 0 [] (c_X6_onWheels   hX) dX6_turns_40 gX6_turns_X6_onWheels rfl (by decide +kernel) ⟨⟨Nat.le_of_ble_eq_true rfl, Nat.le_of_ble_eq_true rfl⟩, rfl, rfl⟩ (kd_lt (rfl : kd 168 = 6) (by decide)) (ce6 (rfl : kd 168 = 6)) rfl rfl rfl (Nat.le_of_ble_eq_true rfl) rfl (fun r13 μ12 hX => ?_)
      refine j_istore_n C0 [(3, .int r13), (0, .ref (ad 168)), (1, .int a1), (2, .int a2)] dX6_turns_43 rfl (by decide) rfl rfl ?_
      refine j_iload_n C0 0 dX6_turns_44 rfl rfl rfl ?_
      refine j_iconst C0 1 dX6_turns_45 (by decide) rfl ?_
      refine j_iand C0 dX6_turns_46 rfl ?_
      refine j_iload_n C0 0 dX6_turns_47 rfl rfl rfl ?_
      refine j_iconst C0 1 dX6_turns_48 (by decide) rfl ?_
      refine j_ishr C0 dX6_turns_49 rfl ?_
      refine j_iconst C0 1 dX6_turns_50 (by decide) rfl ?_
      refine j_iand C0 dX6_turns_51 rfl ?_
      refine j_iadd C0 dX6_turns_52 rfl ?_
      refine j_iload_n C0 0 dX6_turns_53 rfl rfl rfl ?_
      refine j_iconst C0 2 dX6_turns_54 (by decide) rfl ?_
      refine j_ishr C0 dX6_turns_55 rfl ?_
      refine j_iconst C0 1 dX6_turns_56 (by decide) rfl ?_
      refine j_iand C0 dX6_turns_57 rfl ?_
      refine j_iadd C0 dX6_turns_58 rfl ?_
      refine j_iload_n C0 0 dX6_turns_59 rfl rfl rfl ?_
      refine j_iconst C0 3 dX6_turns_60 (by decide) rfl ?_
      refine j_ishr C0 dX6_turns_61 rfl ?_
      refine j_iadd C0 dX6_turns_62 rfl ?_
      exact j_iret C0 hlk hret dX6_turns_63 hX
theorem c_X6_turns {l : Launch} {D : va_G} {Y : Nat → ClassId} {ad : Nat → Nat} (a1 : Int32) (a2 : Int32) {μ : Mem} {K : Int32 → Mem → Prop}  (hX : x_X6_turns a1 a2 μ K) : ConI l yX6_turns wsX6_turns rm_X6_turns [.ref (ad 168), .int a1, .int a2] D Y ad μ K := conI_of (cc := cX6_turns) (maxL := 4) (ret := (some .int)) (own := RX6) _ (by decide +kernel) rfl rfl (Nat.le_of_ble_eq_true rfl) (fun p e s m args below meth c C0 hlk hret => j_sub (l' := [(0, .ref (ad 168)), (1, .int a1), (2, .int a2)]) [0, 1, 2] rfl (w_X6_turns C0 hlk hret a1 a2 μ K  hX))
/-! PhaseTonesModel.sweeps(III)I -/
abbrev rm_X6_sweeps : Room := rmf 2 42
theorem fw_X6_sweeps_6 : ∀ w ∈ wsX60, w ∈ wsX6_sweeps := by decide +kernel
theorem hw_X6_sweeps_0 : Cond.constant RX6 65 (65535) ∈ wsX6_sweeps := by decide +kernel
theorem hw_X6_sweeps_1 : Cond.fieldLink RX6 7 RX6 (TX6 0).2.1 (TX6 0).2.2.1 ∈ wsX6_sweeps := by decide +kernel
def x_X6_sweeps (a1 : Int32) (a2 : Int32) (a3 : Int32) (μ : Mem) (K : Int32 → Mem → Prop) : Prop :=
  x_X6_isOne a1 μ (fun r2 μ1 => (r2 = 0 → K (-1) μ1) ∧ (¬ (r2 = 0) → x_X6_in a2 0 65535 μ1 (fun r5 μ4 => (r5 = 0 → K (-2) μ4) ∧ (¬ (r5 = 0) → x_X6_in a3 1 999 μ4 (fun r8 μ7 => (r8 = 0 → K (-2) μ7) ∧ (¬ (r8 = 0) → x_X6_w a1 μ7 (fun r11 μ10 => vp_in (r11 + 5) 166 ∧ ∀ v13 : Int32, v13 = (μ10 169 (r11 + 5).toNatClampNeg) → (v13 = 4 → K (-4) μ10) ∧ (¬ (v13 = 4) → vp_in ((r11 + 8) + ((2 : Int32) * v13)) 166 ∧ ∀ μ16 : Mem, μ16 = um μ10 169 (upd (μ10 169) ((r11 + 8) + ((2 : Int32) * v13)).toNatClampNeg a2) → vp_in (((r11 + 8) + ((2 : Int32) * v13)) + 1) 166 ∧ ∀ μ18 : Mem, μ18 = um μ16 169 (upd (μ16 169) (((r11 + 8) + ((2 : Int32) * v13)) + 1).toNatClampNeg a3) → vp_in (r11 + 5) 166 ∧ vp_in (r11 + 5) 166 ∧ ∀ μ21 : Mem, μ21 = um μ18 169 (upd (μ18 169) (r11 + 5).toNatClampNeg ((μ18 169 (r11 + 5).toNatClampNeg) + 1)) → (v13 = 0 → vp_in (r11 + 6) 166 ∧ ∀ μ24 : Mem, μ24 = um μ21 169 (upd (μ21 169) (r11 + 6).toNatClampNeg 0) → vp_in (r11 + 1) 166 ∧ vp_in (r11 + 7) 166 ∧ ∀ μ27 : Mem, μ27 = um μ24 169 (upd (μ24 169) (r11 + 7).toNatClampNeg (μ24 169 (r11 + 1).toNatClampNeg)) → K (v13 + 1) μ27) ∧ (¬ (v13 = 0) → K (v13 + 1) μ21)))))))))
set_option maxRecDepth 20000 in
theorem w_X6_sweeps {p : Program} {l : Launch} {e : Env} {s : State} {m : MethodId} {args : Array Value} {below : List Frame} {meth : Method} {c : Code} {D : va_G} {Y : Nat → ClassId} {ad : Nat → Nat} (C0 : CX D Y ad (PA ad) rm_X6_sweeps 0 0 p s args m c cX6_sweeps 6 RX6 wsX6_sweeps) (hlk : meth.locks = false) (hret : meth.sig.returnType = (some .int)) (a1 : Int32) (a2 : Int32) (a3 : Int32) (μ : Mem) (K : Int32 → Mem → Prop)  (hX : x_X6_sweeps a1 a2 a3 μ K) : J p l e rm_X6_sweeps s m args below meth c D Y ad (PA ad) 0 0 6 (MQ below (va_Qi K (BB D Y ad) (PA ad)) args s 0 0 (PA ad)) 0 [(0, .ref (ad 168)), (1, .int a1), (2, .int a2), (3, .int a3)] [] μ := by
  refine j_iload_n C0 1 dX6_sweeps_0 rfl rfl rfl ?_
  refine j_callSi C0 1 [.int a1] (c_X6_isOne a1  hX) dX6_sweeps_1 gX6_sweeps_X6_isOne rfl (by decide +kernel) ⟨⟨Nat.le_of_ble_eq_true rfl, Nat.le_of_ble_eq_true rfl⟩, rfl, rfl⟩ rfl rfl (Nat.le_of_ble_eq_true rfl) rfl (fun r2 μ1 hX => ?_)
  refine j_if_ne C0 (tgt := 9) dX6_sweeps_4 (by decide) rfl (fun c3 => ?_) (fun c3 => ?_)
  · have hX := hX.1 c3
    refine j_iconst C0 (-1) dX6_sweeps_7 (by decide) rfl ?_
    exact j_iret C0 hlk hret dX6_sweeps_8 hX
  · have hX := hX.2 c3
    refine j_iload_n C0 2 dX6_sweeps_9 rfl rfl rfl ?_
    refine j_iconst C0 0 dX6_sweeps_10 (by decide) rfl ?_
    refine j_ldc C0 65535 dX6_sweeps_11 hw_X6_sweeps_0 rfl ?_
    refine j_callSi C0 3 [.int a2, .int 0, .int 65535] (c_X6_in a2 0 65535  hX) dX6_sweeps_13 gX6_sweeps_X6_in rfl (by decide +kernel) ⟨⟨Nat.le_of_ble_eq_true rfl, Nat.le_of_ble_eq_true rfl⟩, rfl, rfl⟩ rfl rfl (Nat.le_of_ble_eq_true rfl) rfl (fun r5 μ4 hX => ?_)
    refine j_if_eq C0 (tgt := 30) dX6_sweeps_16 (by decide) rfl (fun c6 => ?_) (fun c6 => ?_)
    · have hX := hX.1 c6
      refine j_bipush C0 (-2) dX6_sweeps_30 (by decide) rfl ?_
      exact j_iret C0 hlk hret dX6_sweeps_32 hX
    · have hX := hX.2 c6
      refine j_iload_n C0 3 dX6_sweeps_19 rfl rfl rfl ?_
      refine j_iconst C0 1 dX6_sweeps_20 (by decide) rfl ?_
      refine j_sipush C0 999 dX6_sweeps_21 (by decide) rfl ?_
      refine j_callSi C0 3 [.int a3, .int 1, .int 999] (c_X6_in a3 1 999  hX) dX6_sweeps_24 gX6_sweeps_X6_in rfl (by decide +kernel) ⟨⟨Nat.le_of_ble_eq_true rfl, Nat.le_of_ble_eq_true rfl⟩, rfl, rfl⟩ rfl rfl (Nat.le_of_ble_eq_true rfl) rfl (fun r8 μ7 hX => ?_)
      refine j_if_ne C0 (tgt := 33) dX6_sweeps_27 (by decide) rfl (fun c9 => ?_) (fun c9 => ?_)
      · have hX := hX.1 c9
        refine j_bipush C0 (-2) dX6_sweeps_30 (by decide) rfl ?_
        exact j_iret C0 hlk hret dX6_sweeps_32 hX
      · have hX := hX.2 c9
        refine j_iload_n C0 1 dX6_sweeps_33 rfl rfl rfl ?_
        refine j_callSi C0 1 [.int a1] (c_X6_w a1  hX) dX6_sweeps_34 gX6_sweeps_X6_w rfl (by decide +kernel) ⟨⟨Nat.le_of_ble_eq_true rfl, Nat.le_of_ble_eq_true rfl⟩, rfl, rfl⟩ rfl rfl (Nat.le_of_ble_eq_true rfl) rfl (fun r11 μ10 hX => ?_)
        refine j_istore C0 [(4, .int r11), (0, .ref (ad 168)), (1, .int a1), (2, .int a2), (3, .int a3)] dX6_sweeps_37 (by decide) rfl rfl ?_
        refine j_aload_n C0 1 dX6_sweeps_39 rfl rfl rfl ?_
        refine j_get6 C0 (v := .ref (ad 169)) 0 (rfl : kd 168 = 6) fw_X6_sweeps_6 hw_X6_sweeps_1 (fun _ h9 => h9) (by decide) rfl dX6_sweeps_40 rfl ?_
        refine j_iload C0 0 dX6_sweeps_43 rfl rfl ?_
        refine j_iconst C0 5 dX6_sweeps_45 (by decide) rfl ?_
        refine j_iadd C0 dX6_sweeps_46 rfl ?_
        obtain ⟨h12, hX⟩ := hX
        refine j_iald C0 (n := 166) (kd_lt (rfl : kd 169 = 18) (by decide)) (ce18 (rfl : kd 169 = 18)) h12 dX6_sweeps_47 rfl ?_
        refine j_topi (fun v13 e_v13 => ?_)
        have hX := hX v13 e_v13
        refine j_istore C0 [(5, .int v13), (4, .int r11), (0, .ref (ad 168)), (1, .int a1), (2, .int a2), (3, .int a3)] dX6_sweeps_48 (by decide) rfl rfl ?_
        refine j_iload C0 0 dX6_sweeps_50 rfl rfl ?_
        refine j_iconst C0 4 dX6_sweeps_52 (by decide) rfl ?_
        refine j_icmp_ne C0 (tgt := 59) dX6_sweeps_53 (by decide) rfl (fun c14 => ?_) (fun c14 => ?_)
        · have hX := hX.1 c14
          refine j_bipush C0 (-4) dX6_sweeps_56 (by decide) rfl ?_
          exact j_iret C0 hlk hret dX6_sweeps_58 hX
        · have hX := hX.2 c14
          refine j_aload_n C0 2 dX6_sweeps_59 rfl rfl rfl ?_
          refine j_get6 C0 (v := .ref (ad 169)) 0 (rfl : kd 168 = 6) fw_X6_sweeps_6 hw_X6_sweeps_1 (fun _ h9 => h9) (by decide) rfl dX6_sweeps_60 rfl ?_
          refine j_iload C0 1 dX6_sweeps_63 rfl rfl ?_
          refine j_bipush C0 8 dX6_sweeps_65 (by decide) rfl ?_
          refine j_iadd C0 dX6_sweeps_67 rfl ?_
          refine j_iconst C0 2 dX6_sweeps_68 (by decide) rfl ?_
          refine j_iload C0 0 dX6_sweeps_69 rfl rfl ?_
          refine j_imul C0 dX6_sweeps_71 rfl ?_
          refine j_iadd C0 dX6_sweeps_72 rfl ?_
          refine j_iload_n C0 4 dX6_sweeps_73 rfl rfl rfl ?_
          obtain ⟨h15, hX⟩ := hX
          refine j_iast C0 (n := 166) (kd_lt (rfl : kd 169 = 18) (by decide)) (ce18 (rfl : kd 169 = 18)) h15 dX6_sweeps_74 rfl ?_
          refine j_nm (fun μ16 e_μ16 => ?_)
          have hX := hX μ16 e_μ16
          refine j_aload_n C0 2 dX6_sweeps_75 rfl rfl rfl ?_
          refine j_get6 C0 (v := .ref (ad 169)) 0 (rfl : kd 168 = 6) fw_X6_sweeps_6 hw_X6_sweeps_1 (fun _ h9 => h9) (by decide) rfl dX6_sweeps_76 rfl ?_
          refine j_iload C0 1 dX6_sweeps_79 rfl rfl ?_
          refine j_bipush C0 8 dX6_sweeps_81 (by decide) rfl ?_
          refine j_iadd C0 dX6_sweeps_83 rfl ?_
          refine j_iconst C0 2 dX6_sweeps_84 (by decide) rfl ?_
          refine j_iload C0 0 dX6_sweeps_85 rfl rfl ?_
          refine j_imul C0 dX6_sweeps_87 rfl ?_
          refine j_iadd C0 dX6_sweeps_88 rfl ?_
          refine j_iconst C0 1 dX6_sweeps_89 (by decide) rfl ?_
          refine j_iadd C0 dX6_sweeps_90 rfl ?_
          refine j_iload_n C0 5 dX6_sweeps_91 rfl rfl rfl ?_
          obtain ⟨h17, hX⟩ := hX
          refine j_iast C0 (n := 166) (kd_lt (rfl : kd 169 = 18) (by decide)) (ce18 (rfl : kd 169 = 18)) h17 dX6_sweeps_92 rfl ?_
          refine j_nm (fun μ18 e_μ18 => ?_)
          have hX := hX μ18 e_μ18
          refine j_aload_n C0 2 dX6_sweeps_93 rfl rfl rfl ?_
          refine j_get6 C0 (v := .ref (ad 169)) 0 (rfl : kd 168 = 6) fw_X6_sweeps_6 hw_X6_sweeps_1 (fun _ h9 => h9) (by decide) rfl dX6_sweeps_94 rfl ?_
          refine j_iload C0 1 dX6_sweeps_97 rfl rfl ?_
          refine j_iconst C0 5 dX6_sweeps_99 (by decide) rfl ?_
          refine j_iadd C0 dX6_sweeps_100 rfl ?_
          refine j_dup2 C0 dX6_sweeps_101 rfl rfl rfl ?_
          obtain ⟨h19, hX⟩ := hX
          refine j_iald C0 (n := 166) (kd_lt (rfl : kd 169 = 18) (by decide)) (ce18 (rfl : kd 169 = 18)) h19 dX6_sweeps_102 rfl ?_
          refine j_iconst C0 1 dX6_sweeps_103 (by decide) rfl ?_
          refine j_iadd C0 dX6_sweeps_104 rfl ?_
          obtain ⟨h20, hX⟩ := hX
          refine j_iast C0 (n := 166) (kd_lt (rfl : kd 169 = 18) (by decide)) (ce18 (rfl : kd 169 = 18)) h20 dX6_sweeps_105 rfl ?_
          refine j_nm (fun μ21 e_μ21 => ?_)
          have hX := hX μ21 e_μ21
          refine j_iload C0 0 dX6_sweeps_106 rfl rfl ?_
          refine j_if_ne C0 (tgt := 141) dX6_sweeps_108 (by decide) rfl (fun c22 => ?_) (fun c22 => ?_)
          · have hX := hX.1 c22
            refine j_aload_n C0 2 dX6_sweeps_111 rfl rfl rfl ?_
            refine j_get6 C0 (v := .ref (ad 169)) 0 (rfl : kd 168 = 6) fw_X6_sweeps_6 hw_X6_sweeps_1 (fun _ h9 => h9) (by decide) rfl dX6_sweeps_112 rfl ?_
            refine j_iload C0 1 dX6_sweeps_115 rfl rfl ?_
            refine j_bipush C0 6 dX6_sweeps_117 (by decide) rfl ?_
            refine j_iadd C0 dX6_sweeps_119 rfl ?_
            refine j_iconst C0 0 dX6_sweeps_120 (by decide) rfl ?_
            obtain ⟨h23, hX⟩ := hX
            refine j_iast C0 (n := 166) (kd_lt (rfl : kd 169 = 18) (by decide)) (ce18 (rfl : kd 169 = 18)) h23 dX6_sweeps_121 rfl ?_
            refine j_nm (fun μ24 e_μ24 => ?_)
            have hX := hX μ24 e_μ24
            refine j_aload_n C0 2 dX6_sweeps_122 rfl rfl rfl ?_
            refine j_get6 C0 (v := .ref (ad 169)) 0 (rfl : kd 168 = 6) fw_X6_sweeps_6 hw_X6_sweeps_1 (fun _ h9 => h9) (by decide) rfl dX6_sweeps_123 rfl ?_
            refine j_iload C0 1 dX6_sweeps_126 rfl rfl ?_
            refine j_bipush C0 7 dX6_sweeps_128 (by decide) rfl ?_
            refine j_iadd C0 dX6_sweeps_130 rfl ?_
            refine j_aload_n C0 2 dX6_sweeps_131 rfl rfl rfl ?_
            refine j_get6 C0 (v := .ref (ad 169)) 0 (rfl : kd 168 = 6) fw_X6_sweeps_6 hw_X6_sweeps_1 (fun _ h9 => h9) (by decide) rfl dX6_sweeps_132 rfl ?_
            refine j_iload C0 1 dX6_sweeps_135 rfl rfl ?_
            refine j_iconst C0 1 dX6_sweeps_137 (by decide) rfl ?_
            refine j_iadd C0 dX6_sweeps_138 rfl ?_
            obtain ⟨h25, hX⟩ := hX
            refine j_iald C0 (n := 166) (kd_lt (rfl : kd 169 = 18) (by decide)) (ce18 (rfl : kd 169 = 18)) h25 dX6_sweeps_139 rfl ?_
            obtain ⟨h26, hX⟩ := hX
            refine j_iast C0 (n := 166) (kd_lt (rfl : kd 169 = 18) (by decide)) (ce18 (rfl : kd 169 = 18)) h26 dX6_sweeps_140 rfl ?_
            refine j_nm (fun μ27 e_μ27 => ?_)
            have hX := hX μ27 e_μ27
            refine j_iload C0 0 dX6_sweeps_141 rfl rfl ?_
            refine j_iconst C0 1 dX6_sweeps_143 (by decide) rfl ?_
            refine j_iadd C0 dX6_sweeps_144 rfl ?_
            exact j_iret C0 hlk hret dX6_sweeps_145 hX
          · have hX := hX.2 c22
            refine j_iload C0 0 dX6_sweeps_141 rfl rfl ?_
            refine j_iconst C0 1 dX6_sweeps_143 (by decide) rfl ?_
            refine j_iadd C0 dX6_sweeps_144 rfl ?_
            exact j_iret C0 hlk hret dX6_sweeps_145 hX
theorem c_X6_sweeps {l : Launch} {D : va_G} {Y : Nat → ClassId} {ad : Nat → Nat} (a1 : Int32) (a2 : Int32) (a3 : Int32) {μ : Mem} {K : Int32 → Mem → Prop}  (hX : x_X6_sweeps a1 a2 a3 μ K) : ConI l yX6_sweeps wsX6_sweeps rm_X6_sweeps [.ref (ad 168), .int a1, .int a2, .int a3] D Y ad μ K := conI_of (cc := cX6_sweeps) (maxL := 6) (ret := (some .int)) (own := RX6) _ (by decide +kernel) rfl rfl (Nat.le_of_ble_eq_true rfl) (fun p e s m args below meth c C0 hlk hret => j_sub (l' := [(0, .ref (ad 168)), (1, .int a1), (2, .int a2), (3, .int a3)]) [0, 1, 2, 3] rfl (w_X6_sweeps C0 hlk hret a1 a2 a3 μ K  hX))
/-! PhaseTonesModel.makesAll(I)I -/
abbrev rm_X6_makesAll : Room := rmf 4 87
theorem fw_X6_makesAll_6 : ∀ w ∈ wsX60, w ∈ wsX6_makesAll := by decide +kernel
theorem hw_X6_makesAll_0 : Cond.fieldLink RX6 7 RX6 (TX6 0).2.1 (TX6 0).2.2.1 ∈ wsX6_makesAll := by decide +kernel
theorem hw_X6_makesAll_1 : Cond.constant RX6 69 (999999) ∈ wsX6_makesAll := by decide +kernel
def xb_X6_makesAll_L34 (K : Int32 → Mem → Prop) (B : Int32 → Int32 → Int32 → Mem → Prop) (a1 : Int32) (a2 : Int32) (a3 : Int32) (μ : Mem) : Prop :=
  (a1 ≤ a3 → K a2 μ) ∧ (¬ (a1 ≤ a3) → x_X6_makes  μ (fun r7 μ6 => ∀ v8 : Int32, v8 = a3 + 1 → B a1 r7 v8 μ6))
def x_X6_makesAll_L34 (K : Int32 → Mem → Prop) : Nat → Int32 → Int32 → Int32 → Mem → Prop
  | 0 => fun _ _ _ _ => False
  | n + 1 => fun a1 a2 a3 μ => xb_X6_makesAll_L34 K (x_X6_makesAll_L34 K n) a1 a2 a3 μ
set_option maxRecDepth 20000 in
theorem wb_X6_makesAll_L34 {p : Program} {l : Launch} {e : Env} {s : State} {m : MethodId} {args : Array Value} {below : List Frame} {meth : Method} {c : Code} {D : va_G} {Y : Nat → ClassId} {ad : Nat → Nat} (C0 : CX D Y ad (PA ad) rm_X6_makesAll 0 0 p s args m c cX6_makesAll 4 RX6 wsX6_makesAll) (hlk : meth.locks = false) (hret : meth.sig.returnType = (some .int)) (a1 : Int32) (a2 : Int32) (a3 : Int32) (μ : Mem) (K : Int32 → Mem → Prop) (B : Int32 → Int32 → Int32 → Mem → Prop) (hB : ∀ (a1 : Int32) (a2 : Int32) (a3 : Int32) (μ : Mem), B a1 a2 a3 μ → J p l e rm_X6_makesAll s m args below meth c D Y ad (PA ad) 0 0 4 (MQ below (va_Qi K (BB D Y ad) (PA ad)) args s 0 0 (PA ad)) 34 [(0, .ref (ad 168)), (1, .int a1), (2, .int a2), (3, .int a3)] [] μ)  (hX : xb_X6_makesAll_L34 K B a1 a2 a3 μ) : J p l e rm_X6_makesAll s m args below meth c D Y ad (PA ad) 0 0 4 (MQ below (va_Qi K (BB D Y ad) (PA ad)) args s 0 0 (PA ad)) 34 [(0, .ref (ad 168)), (1, .int a1), (2, .int a2), (3, .int a3)] [] μ := by
  refine j_iload_n C0 3 dX6_makesAll_34 rfl rfl rfl ?_
  refine j_iload_n C0 1 dX6_makesAll_35 rfl rfl rfl ?_
  refine j_icmp_ge C0 (tgt := 50) dX6_makesAll_36 (by decide) rfl (fun c5 => ?_) (fun c5 => ?_)
  · have hX := hX.1 c5
    refine j_iload_n C0 2 dX6_makesAll_50 rfl rfl rfl ?_
    exact j_iret C0 hlk hret dX6_makesAll_51 hX
  · have hX := hX.2 c5
    refine j_aload_n C0 0 dX6_makesAll_39 rfl rfl rfl ?_
    refine j_callVi C0 0 [] (c_X6_makes   hX) dX6_makesAll_40 gX6_makesAll_X6_makes rfl (by decide +kernel) ⟨⟨Nat.le_of_ble_eq_true rfl, Nat.le_of_ble_eq_true rfl⟩, rfl, rfl⟩ (kd_lt (rfl : kd 168 = 6) (by decide)) (ce6 (rfl : kd 168 = 6)) rfl rfl rfl (Nat.le_of_ble_eq_true rfl) rfl (fun r7 μ6 hX => ?_)
    refine j_istore_n C0 [(2, .int r7), (0, .ref (ad 168)), (1, .int a1), (3, .int a3)] dX6_makesAll_43 rfl (by decide) rfl rfl ?_
    obtain ⟨v8, e_v8⟩ : ∃ z : Int32, z = a3 + 1 := ⟨_, rfl⟩
    have hX := hX v8 e_v8
    refine j_iinc C0 3 v8 [(3, .int v8), (2, .int r7), (0, .ref (ad 168)), (1, .int a1)] dX6_makesAll_44 rfl (by rw [e_v8]; rfl) (by decide) rfl rfl ?_
    refine j_goto C0 (tgt := 34) dX6_makesAll_47 (by decide) ?_
    exact j_sub (l' := [(0, .ref (ad 168)), (1, .int a1), (2, .int r7), (3, .int v8)]) [2, 3, 1, 0] rfl (hB a1 r7 v8 μ6  hX)
theorem w_X6_makesAll_L34 {p : Program} {l : Launch} {e : Env} {s : State} {m : MethodId} {args : Array Value} {below : List Frame} {meth : Method} {c : Code} {D : va_G} {Y : Nat → ClassId} {ad : Nat → Nat} (C0 : CX D Y ad (PA ad) rm_X6_makesAll 0 0 p s args m c cX6_makesAll 4 RX6 wsX6_makesAll) (hlk : meth.locks = false) (hret : meth.sig.returnType = (some .int)) (K : Int32 → Mem → Prop) : ∀ (n : Nat) (a1 : Int32) (a2 : Int32) (a3 : Int32) (μ : Mem)  (hX : x_X6_makesAll_L34 K n a1 a2 a3 μ), J p l e rm_X6_makesAll s m args below meth c D Y ad (PA ad) 0 0 4 (MQ below (va_Qi K (BB D Y ad) (PA ad)) args s 0 0 (PA ad)) 34 [(0, .ref (ad 168)), (1, .int a1), (2, .int a2), (3, .int a3)] [] μ
  | 0, a1, a2, a3, μ, hX => hX.elim
  | n + 1, a1, a2, a3, μ, hX => wb_X6_makesAll_L34 C0 hlk hret a1 a2 a3 μ K (x_X6_makesAll_L34 K n) (fun a1 a2 a3 μ  hx => w_X6_makesAll_L34 C0 hlk hret K n a1 a2 a3 μ  hx)  hX
def x_X6_makesAll (a1 : Int32) (μ : Mem) (K : Int32 → Mem → Prop) : Prop :=
  x_X6_in a1 1 999 μ (fun r2 μ1 => (r2 = 0 → K (-2) μ1) ∧ (¬ (r2 = 0) → ((μ1 169 1) ≤ ((999999 : Int32) - a1) → ∃ n : Nat, x_X6_makesAll_L34 K n a1 0 0 μ1) ∧ (¬ ((μ1 169 1) ≤ ((999999 : Int32) - a1)) → K (-4) μ1)))
set_option maxRecDepth 20000 in
theorem w_X6_makesAll {p : Program} {l : Launch} {e : Env} {s : State} {m : MethodId} {args : Array Value} {below : List Frame} {meth : Method} {c : Code} {D : va_G} {Y : Nat → ClassId} {ad : Nat → Nat} (C0 : CX D Y ad (PA ad) rm_X6_makesAll 0 0 p s args m c cX6_makesAll 4 RX6 wsX6_makesAll) (hlk : meth.locks = false) (hret : meth.sig.returnType = (some .int)) (a1 : Int32) (μ : Mem) (K : Int32 → Mem → Prop)  (hX : x_X6_makesAll a1 μ K) : J p l e rm_X6_makesAll s m args below meth c D Y ad (PA ad) 0 0 4 (MQ below (va_Qi K (BB D Y ad) (PA ad)) args s 0 0 (PA ad)) 0 [(0, .ref (ad 168)), (1, .int a1)] [] μ := by
  refine j_iload_n C0 1 dX6_makesAll_0 rfl rfl rfl ?_
  refine j_iconst C0 1 dX6_makesAll_1 (by decide) rfl ?_
  refine j_sipush C0 999 dX6_makesAll_2 (by decide) rfl ?_
  refine j_callSi C0 3 [.int a1, .int 1, .int 999] (c_X6_in a1 1 999  hX) dX6_makesAll_5 gX6_makesAll_X6_in rfl (by decide +kernel) ⟨⟨Nat.le_of_ble_eq_true rfl, Nat.le_of_ble_eq_true rfl⟩, rfl, rfl⟩ rfl rfl (Nat.le_of_ble_eq_true rfl) rfl (fun r2 μ1 hX => ?_)
  refine j_if_ne C0 (tgt := 14) dX6_makesAll_8 (by decide) rfl (fun c3 => ?_) (fun c3 => ?_)
  · have hX := hX.1 c3
    refine j_bipush C0 (-2) dX6_makesAll_11 (by decide) rfl ?_
    exact j_iret C0 hlk hret dX6_makesAll_13 hX
  · have hX := hX.2 c3
    refine j_aload_n C0 0 dX6_makesAll_14 rfl rfl rfl ?_
    refine j_get6 C0 (v := .ref (ad 169)) 0 (rfl : kd 168 = 6) fw_X6_makesAll_6 hw_X6_makesAll_0 (fun _ h9 => h9) (by decide) rfl dX6_makesAll_15 rfl ?_
    refine j_iconst C0 1 dX6_makesAll_18 (by decide) rfl ?_
    refine j_iald C0 (n := 166) (kd_lt (rfl : kd 169 = 18) (by decide)) (ce18 (rfl : kd 169 = 18)) (vp_lit (i := 1) (by decide)) dX6_makesAll_19 rfl ?_
    refine j_val (μ1 169 1) rfl ?_
    refine j_ldc C0 999999 dX6_makesAll_20 hw_X6_makesAll_1 rfl ?_
    refine j_iload_n C0 1 dX6_makesAll_22 rfl rfl rfl ?_
    refine j_isub C0 dX6_makesAll_23 rfl ?_
    refine j_icmp_le C0 (tgt := 30) dX6_makesAll_24 (by decide) rfl (fun c4 => ?_) (fun c4 => ?_)
    · have hX := hX.1 c4
      refine j_iconst C0 0 dX6_makesAll_30 (by decide) rfl ?_
      refine j_istore_n C0 [(2, .int 0), (0, .ref (ad 168)), (1, .int a1)] dX6_makesAll_31 rfl (by decide) rfl rfl ?_
      refine j_iconst C0 0 dX6_makesAll_32 (by decide) rfl ?_
      refine j_istore_n C0 [(3, .int 0), (2, .int 0), (0, .ref (ad 168)), (1, .int a1)] dX6_makesAll_33 rfl (by decide) rfl rfl ?_
      obtain ⟨n, hX⟩ := hX
      exact j_sub (l' := [(0, .ref (ad 168)), (1, .int a1), (2, .int 0), (3, .int 0)]) [2, 3, 1, 0] rfl (w_X6_makesAll_L34 C0 hlk hret K n a1 0 0 μ1  hX)
    · have hX := hX.2 c4
      refine j_bipush C0 (-4) dX6_makesAll_27 (by decide) rfl ?_
      exact j_iret C0 hlk hret dX6_makesAll_29 hX
theorem c_X6_makesAll {l : Launch} {D : va_G} {Y : Nat → ClassId} {ad : Nat → Nat} (a1 : Int32) {μ : Mem} {K : Int32 → Mem → Prop}  (hX : x_X6_makesAll a1 μ K) : ConI l yX6_makesAll wsX6_makesAll rm_X6_makesAll [.ref (ad 168), .int a1] D Y ad μ K := conI_of (cc := cX6_makesAll) (maxL := 4) (ret := (some .int)) (own := RX6) _ (by decide +kernel) rfl rfl (Nat.le_of_ble_eq_true rfl) (fun p e s m args below meth c C0 hlk hret => j_sub (l' := [(0, .ref (ad 168)), (1, .int a1)]) [0, 1] rfl (w_X6_makesAll C0 hlk hret a1 μ K  hX))
/-! PhaseTonesModel.clip(I)I -/
abbrev rm_X6_clip : Room := rmf 1 22
theorem fw_X6_clip_6 : ∀ w ∈ wsX60, w ∈ wsX6_clip := by decide +kernel
theorem hw_X6_clip_0 : Cond.fieldLink RX6 7 RX6 (TX6 0).2.1 (TX6 0).2.2.1 ∈ wsX6_clip := by decide +kernel
def x_X6_clip (a1 : Int32) (μ : Mem) (K : Int32 → Mem → Prop) : Prop :=
  x_X6_in a1 1 960 μ (fun r2 μ1 => (r2 = 0 → K (-2) μ1) ∧ (¬ (r2 = 0) → x_X6_hold  μ1 (fun μ4 => ∀ v5 : Int32, v5 = (μ4 169 0) → ∀ μ6 : Mem, μ6 = um μ4 169 (upd (μ4 169) 0 a1) → x_X6_recorded v5 μ6 (fun r8 μ7 => K r8 μ7))))
set_option maxRecDepth 20000 in
theorem w_X6_clip {p : Program} {l : Launch} {e : Env} {s : State} {m : MethodId} {args : Array Value} {below : List Frame} {meth : Method} {c : Code} {D : va_G} {Y : Nat → ClassId} {ad : Nat → Nat} (C0 : CX D Y ad (PA ad) rm_X6_clip 0 0 p s args m c cX6_clip 3 RX6 wsX6_clip) (hlk : meth.locks = false) (hret : meth.sig.returnType = (some .int)) (a1 : Int32) (μ : Mem) (K : Int32 → Mem → Prop)  (hX : x_X6_clip a1 μ K) : J p l e rm_X6_clip s m args below meth c D Y ad (PA ad) 0 0 3 (MQ below (va_Qi K (BB D Y ad) (PA ad)) args s 0 0 (PA ad)) 0 [(0, .ref (ad 168)), (1, .int a1)] [] μ := by
  refine j_iload_n C0 1 dX6_clip_0 rfl rfl rfl ?_
  refine j_iconst C0 1 dX6_clip_1 (by decide) rfl ?_
  refine j_sipush C0 960 dX6_clip_2 (by decide) rfl ?_
  refine j_callSi C0 3 [.int a1, .int 1, .int 960] (c_X6_in a1 1 960  hX) dX6_clip_5 gX6_clip_X6_in rfl (by decide +kernel) ⟨⟨Nat.le_of_ble_eq_true rfl, Nat.le_of_ble_eq_true rfl⟩, rfl, rfl⟩ rfl rfl (Nat.le_of_ble_eq_true rfl) rfl (fun r2 μ1 hX => ?_)
  refine j_if_ne C0 (tgt := 14) dX6_clip_8 (by decide) rfl (fun c3 => ?_) (fun c3 => ?_)
  · have hX := hX.1 c3
    refine j_bipush C0 (-2) dX6_clip_11 (by decide) rfl ?_
    exact j_iret C0 hlk hret dX6_clip_13 hX
  · have hX := hX.2 c3
    refine j_aload_n C0 0 dX6_clip_14 rfl rfl rfl ?_
    refine j_callVv C0 0 [] (c_X6_hold   hX) dX6_clip_15 gX6_clip_X6_hold rfl (by decide +kernel) ⟨⟨Nat.le_of_ble_eq_true rfl, Nat.le_of_ble_eq_true rfl⟩, rfl, rfl⟩ (kd_lt (rfl : kd 168 = 6) (by decide)) (ce6 (rfl : kd 168 = 6)) rfl rfl rfl (Nat.le_of_ble_eq_true rfl) rfl (fun μ4 hX => ?_)
    refine j_aload_n C0 0 dX6_clip_18 rfl rfl rfl ?_
    refine j_get6 C0 (v := .ref (ad 169)) 0 (rfl : kd 168 = 6) fw_X6_clip_6 hw_X6_clip_0 (fun _ h9 => h9) (by decide) rfl dX6_clip_19 rfl ?_
    refine j_iconst C0 0 dX6_clip_22 (by decide) rfl ?_
    refine j_iald C0 (n := 166) (kd_lt (rfl : kd 169 = 18) (by decide)) (ce18 (rfl : kd 169 = 18)) (vp_lit (i := 0) (by decide)) dX6_clip_23 rfl ?_
    refine j_val (μ4 169 0) rfl ?_
    refine j_topi (fun v5 e_v5 => ?_)
    have hX := hX v5 e_v5
    refine j_istore_n C0 [(2, .int v5), (0, .ref (ad 168)), (1, .int a1)] dX6_clip_24 rfl (by decide) rfl rfl ?_
    refine j_aload_n C0 1 dX6_clip_25 rfl rfl rfl ?_
    refine j_get6 C0 (v := .ref (ad 169)) 0 (rfl : kd 168 = 6) fw_X6_clip_6 hw_X6_clip_0 (fun _ h9 => h9) (by decide) rfl dX6_clip_26 rfl ?_
    refine j_iconst C0 0 dX6_clip_29 (by decide) rfl ?_
    refine j_iload_n C0 2 dX6_clip_30 rfl rfl rfl ?_
    refine j_iast C0 (n := 166) (kd_lt (rfl : kd 169 = 18) (by decide)) (ce18 (rfl : kd 169 = 18)) (vp_lit (i := 0) (by decide)) dX6_clip_31 rfl ?_
    refine j_nm (fun μ6 e_μ6 => ?_)
    have hX := hX μ6 e_μ6
    refine j_aload_n C0 1 dX6_clip_32 rfl rfl rfl ?_
    refine j_iload_n C0 0 dX6_clip_33 rfl rfl rfl ?_
    refine j_callVi C0 1 [.int v5] (c_X6_recorded v5  hX) dX6_clip_34 gX6_clip_X6_recorded rfl (by decide +kernel) ⟨⟨Nat.le_of_ble_eq_true rfl, Nat.le_of_ble_eq_true rfl⟩, rfl, rfl⟩ (kd_lt (rfl : kd 168 = 6) (by decide)) (ce6 (rfl : kd 168 = 6)) rfl rfl rfl (Nat.le_of_ble_eq_true rfl) rfl (fun r8 μ7 hX => ?_)
    exact j_iret C0 hlk hret dX6_clip_37 hX
theorem c_X6_clip {l : Launch} {D : va_G} {Y : Nat → ClassId} {ad : Nat → Nat} (a1 : Int32) {μ : Mem} {K : Int32 → Mem → Prop}  (hX : x_X6_clip a1 μ K) : ConI l yX6_clip wsX6_clip rm_X6_clip [.ref (ad 168), .int a1] D Y ad μ K := conI_of (cc := cX6_clip) (maxL := 3) (ret := (some .int)) (own := RX6) _ (by decide +kernel) rfl rfl (Nat.le_of_ble_eq_true rfl) (fun p e s m args below meth c C0 hlk hret => j_sub (l' := [(0, .ref (ad 168)), (1, .int a1)]) [0, 1] rfl (w_X6_clip C0 hlk hret a1 μ K  hX))
/-! PhaseTonesModel.fill(III)I -/
abbrev rm_X6_fill : Room := rmf 2 42
theorem fw_X6_fill_6 : ∀ w ∈ wsX60, w ∈ wsX6_fill := by decide +kernel
theorem hw_X6_fill_0 : Cond.fieldLink RX6 7 RX6 (TX6 0).2.1 (TX6 0).2.2.1 ∈ wsX6_fill := by decide +kernel
def x_X6_fill (a1 : Int32) (a2 : Int32) (a3 : Int32) (μ : Mem) (K : Int32 → Mem → Prop) : Prop :=
  x_X6_isOne a1 μ (fun r2 μ1 => (r2 = 0 → K (-1) μ1) ∧ (¬ (r2 = 0) → x_X6_in a2 0 15 μ1 (fun r5 μ4 => (r5 = 0 → K (-1) μ4) ∧ (¬ (r5 = 0) → x_X6_in a3 0 15 μ4 (fun r8 μ7 => (r8 = 0 → K (-2) μ7) ∧ (¬ (r8 = 0) → x_X6_hold  μ7 (fun μ10 => vp_in (((6 : Int32) + ((16 : Int32) * a1)) + a2) 166 ∧ ∀ v12 : Int32, v12 = (μ10 169 (((6 : Int32) + ((16 : Int32) * a1)) + a2).toNatClampNeg) → vp_in (((6 : Int32) + ((16 : Int32) * a1)) + a2) 166 ∧ ∀ μ14 : Mem, μ14 = um μ10 169 (upd (μ10 169) (((6 : Int32) + ((16 : Int32) * a1)) + a2).toNatClampNeg a3) → x_X6_recorded v12 μ14 (fun r16 μ15 => K r16 μ15))))))))
set_option maxRecDepth 20000 in
theorem w_X6_fill {p : Program} {l : Launch} {e : Env} {s : State} {m : MethodId} {args : Array Value} {below : List Frame} {meth : Method} {c : Code} {D : va_G} {Y : Nat → ClassId} {ad : Nat → Nat} (C0 : CX D Y ad (PA ad) rm_X6_fill 0 0 p s args m c cX6_fill 5 RX6 wsX6_fill) (hlk : meth.locks = false) (hret : meth.sig.returnType = (some .int)) (a1 : Int32) (a2 : Int32) (a3 : Int32) (μ : Mem) (K : Int32 → Mem → Prop)  (hX : x_X6_fill a1 a2 a3 μ K) : J p l e rm_X6_fill s m args below meth c D Y ad (PA ad) 0 0 5 (MQ below (va_Qi K (BB D Y ad) (PA ad)) args s 0 0 (PA ad)) 0 [(0, .ref (ad 168)), (1, .int a1), (2, .int a2), (3, .int a3)] [] μ := by
  refine j_iload_n C0 1 dX6_fill_0 rfl rfl rfl ?_
  refine j_callSi C0 1 [.int a1] (c_X6_isOne a1  hX) dX6_fill_1 gX6_fill_X6_isOne rfl (by decide +kernel) ⟨⟨Nat.le_of_ble_eq_true rfl, Nat.le_of_ble_eq_true rfl⟩, rfl, rfl⟩ rfl rfl (Nat.le_of_ble_eq_true rfl) rfl (fun r2 μ1 hX => ?_)
  refine j_if_eq C0 (tgt := 17) dX6_fill_4 (by decide) rfl (fun c3 => ?_) (fun c3 => ?_)
  · have hX := hX.1 c3
    refine j_iconst C0 (-1) dX6_fill_17 (by decide) rfl ?_
    exact j_iret C0 hlk hret dX6_fill_18 hX
  · have hX := hX.2 c3
    refine j_iload_n C0 2 dX6_fill_7 rfl rfl rfl ?_
    refine j_iconst C0 0 dX6_fill_8 (by decide) rfl ?_
    refine j_bipush C0 15 dX6_fill_9 (by decide) rfl ?_
    refine j_callSi C0 3 [.int a2, .int 0, .int 15] (c_X6_in a2 0 15  hX) dX6_fill_11 gX6_fill_X6_in rfl (by decide +kernel) ⟨⟨Nat.le_of_ble_eq_true rfl, Nat.le_of_ble_eq_true rfl⟩, rfl, rfl⟩ rfl rfl (Nat.le_of_ble_eq_true rfl) rfl (fun r5 μ4 hX => ?_)
    refine j_if_ne C0 (tgt := 19) dX6_fill_14 (by decide) rfl (fun c6 => ?_) (fun c6 => ?_)
    · have hX := hX.1 c6
      refine j_iconst C0 (-1) dX6_fill_17 (by decide) rfl ?_
      exact j_iret C0 hlk hret dX6_fill_18 hX
    · have hX := hX.2 c6
      refine j_iload_n C0 3 dX6_fill_19 rfl rfl rfl ?_
      refine j_iconst C0 0 dX6_fill_20 (by decide) rfl ?_
      refine j_bipush C0 15 dX6_fill_21 (by decide) rfl ?_
      refine j_callSi C0 3 [.int a3, .int 0, .int 15] (c_X6_in a3 0 15  hX) dX6_fill_23 gX6_fill_X6_in rfl (by decide +kernel) ⟨⟨Nat.le_of_ble_eq_true rfl, Nat.le_of_ble_eq_true rfl⟩, rfl, rfl⟩ rfl rfl (Nat.le_of_ble_eq_true rfl) rfl (fun r8 μ7 hX => ?_)
      refine j_if_ne C0 (tgt := 32) dX6_fill_26 (by decide) rfl (fun c9 => ?_) (fun c9 => ?_)
      · have hX := hX.1 c9
        refine j_bipush C0 (-2) dX6_fill_29 (by decide) rfl ?_
        exact j_iret C0 hlk hret dX6_fill_31 hX
      · have hX := hX.2 c9
        refine j_aload_n C0 0 dX6_fill_32 rfl rfl rfl ?_
        refine j_callVv C0 0 [] (c_X6_hold   hX) dX6_fill_33 gX6_fill_X6_hold rfl (by decide +kernel) ⟨⟨Nat.le_of_ble_eq_true rfl, Nat.le_of_ble_eq_true rfl⟩, rfl, rfl⟩ (kd_lt (rfl : kd 168 = 6) (by decide)) (ce6 (rfl : kd 168 = 6)) rfl rfl rfl (Nat.le_of_ble_eq_true rfl) rfl (fun μ10 hX => ?_)
        refine j_aload_n C0 0 dX6_fill_36 rfl rfl rfl ?_
        refine j_get6 C0 (v := .ref (ad 169)) 0 (rfl : kd 168 = 6) fw_X6_fill_6 hw_X6_fill_0 (fun _ h9 => h9) (by decide) rfl dX6_fill_37 rfl ?_
        refine j_bipush C0 6 dX6_fill_40 (by decide) rfl ?_
        refine j_bipush C0 16 dX6_fill_42 (by decide) rfl ?_
        refine j_iload_n C0 1 dX6_fill_44 rfl rfl rfl ?_
        refine j_imul C0 dX6_fill_45 rfl ?_
        refine j_iadd C0 dX6_fill_46 rfl ?_
        refine j_iload_n C0 2 dX6_fill_47 rfl rfl rfl ?_
        refine j_iadd C0 dX6_fill_48 rfl ?_
        obtain ⟨h11, hX⟩ := hX
        refine j_iald C0 (n := 166) (kd_lt (rfl : kd 169 = 18) (by decide)) (ce18 (rfl : kd 169 = 18)) h11 dX6_fill_49 rfl ?_
        refine j_topi (fun v12 e_v12 => ?_)
        have hX := hX v12 e_v12
        refine j_istore C0 [(4, .int v12), (0, .ref (ad 168)), (1, .int a1), (2, .int a2), (3, .int a3)] dX6_fill_50 (by decide) rfl rfl ?_
        refine j_aload_n C0 1 dX6_fill_52 rfl rfl rfl ?_
        refine j_get6 C0 (v := .ref (ad 169)) 0 (rfl : kd 168 = 6) fw_X6_fill_6 hw_X6_fill_0 (fun _ h9 => h9) (by decide) rfl dX6_fill_53 rfl ?_
        refine j_bipush C0 6 dX6_fill_56 (by decide) rfl ?_
        refine j_bipush C0 16 dX6_fill_58 (by decide) rfl ?_
        refine j_iload_n C0 2 dX6_fill_60 rfl rfl rfl ?_
        refine j_imul C0 dX6_fill_61 rfl ?_
        refine j_iadd C0 dX6_fill_62 rfl ?_
        refine j_iload_n C0 3 dX6_fill_63 rfl rfl rfl ?_
        refine j_iadd C0 dX6_fill_64 rfl ?_
        refine j_iload_n C0 4 dX6_fill_65 rfl rfl rfl ?_
        obtain ⟨h13, hX⟩ := hX
        refine j_iast C0 (n := 166) (kd_lt (rfl : kd 169 = 18) (by decide)) (ce18 (rfl : kd 169 = 18)) h13 dX6_fill_66 rfl ?_
        refine j_nm (fun μ14 e_μ14 => ?_)
        have hX := hX μ14 e_μ14
        refine j_aload_n C0 1 dX6_fill_67 rfl rfl rfl ?_
        refine j_iload C0 0 dX6_fill_68 rfl rfl ?_
        refine j_callVi C0 1 [.int v12] (c_X6_recorded v12  hX) dX6_fill_70 gX6_fill_X6_recorded rfl (by decide +kernel) ⟨⟨Nat.le_of_ble_eq_true rfl, Nat.le_of_ble_eq_true rfl⟩, rfl, rfl⟩ (kd_lt (rfl : kd 168 = 6) (by decide)) (ce6 (rfl : kd 168 = 6)) rfl rfl rfl (Nat.le_of_ble_eq_true rfl) rfl (fun r16 μ15 hX => ?_)
        exact j_iret C0 hlk hret dX6_fill_73 hX
theorem c_X6_fill {l : Launch} {D : va_G} {Y : Nat → ClassId} {ad : Nat → Nat} (a1 : Int32) (a2 : Int32) (a3 : Int32) {μ : Mem} {K : Int32 → Mem → Prop}  (hX : x_X6_fill a1 a2 a3 μ K) : ConI l yX6_fill wsX6_fill rm_X6_fill [.ref (ad 168), .int a1, .int a2, .int a3] D Y ad μ K := conI_of (cc := cX6_fill) (maxL := 5) (ret := (some .int)) (own := RX6) _ (by decide +kernel) rfl rfl (Nat.le_of_ble_eq_true rfl) (fun p e s m args below meth c C0 hlk hret => j_sub (l' := [(0, .ref (ad 168)), (1, .int a1), (2, .int a2), (3, .int a3)]) [0, 1, 2, 3] rfl (w_X6_fill C0 hlk hret a1 a2 a3 μ K  hX))
/-! PhaseTonesModel.step(II)I -/
abbrev rm_X6_step : Room := rmf 3 66
def x_X6_step (a1 : Int32) (a2 : Int32) (μ : Mem) (K : Int32 → Mem → Prop) : Prop :=
  x_X6_hold  μ (fun μ1 => x_X6_steps a1 a2 μ1 (fun r3 μ2 => x_X6_recorded r3 μ2 (fun r5 μ4 => K r5 μ4)))
set_option maxRecDepth 20000 in
theorem w_X6_step {p : Program} {l : Launch} {e : Env} {s : State} {m : MethodId} {args : Array Value} {below : List Frame} {meth : Method} {c : Code} {D : va_G} {Y : Nat → ClassId} {ad : Nat → Nat} (C0 : CX D Y ad (PA ad) rm_X6_step 0 0 p s args m c cX6_step 3 RX6 wsX6_step) (hlk : meth.locks = false) (hret : meth.sig.returnType = (some .int)) (a1 : Int32) (a2 : Int32) (μ : Mem) (K : Int32 → Mem → Prop)  (hX : x_X6_step a1 a2 μ K) : J p l e rm_X6_step s m args below meth c D Y ad (PA ad) 0 0 3 (MQ below (va_Qi K (BB D Y ad) (PA ad)) args s 0 0 (PA ad)) 0 [(0, .ref (ad 168)), (1, .int a1), (2, .int a2)] [] μ := by
  refine j_aload_n C0 0 dX6_step_0 rfl rfl rfl ?_
  refine j_callVv C0 0 [] (c_X6_hold   hX) dX6_step_1 gX6_step_X6_hold rfl (by decide +kernel) ⟨⟨Nat.le_of_ble_eq_true rfl, Nat.le_of_ble_eq_true rfl⟩, rfl, rfl⟩ (kd_lt (rfl : kd 168 = 6) (by decide)) (ce6 (rfl : kd 168 = 6)) rfl rfl rfl (Nat.le_of_ble_eq_true rfl) rfl (fun μ1 hX => ?_)
  refine j_aload_n C0 0 dX6_step_4 rfl rfl rfl ?_
  refine j_aload_n C0 0 dX6_step_5 rfl rfl rfl ?_
  refine j_iload_n C0 1 dX6_step_6 rfl rfl rfl ?_
  refine j_iload_n C0 2 dX6_step_7 rfl rfl rfl ?_
  refine j_callVi C0 2 [.int a1, .int a2] (c_X6_steps a1 a2  hX) dX6_step_8 gX6_step_X6_steps rfl (by decide +kernel) ⟨⟨Nat.le_of_ble_eq_true rfl, Nat.le_of_ble_eq_true rfl⟩, rfl, rfl⟩ (kd_lt (rfl : kd 168 = 6) (by decide)) (ce6 (rfl : kd 168 = 6)) rfl rfl rfl (Nat.le_of_ble_eq_true rfl) rfl (fun r3 μ2 hX => ?_)
  refine j_callVi C0 1 [.int r3] (c_X6_recorded r3  hX) dX6_step_11 gX6_step_X6_recorded rfl (by decide +kernel) ⟨⟨Nat.le_of_ble_eq_true rfl, Nat.le_of_ble_eq_true rfl⟩, rfl, rfl⟩ (kd_lt (rfl : kd 168 = 6) (by decide)) (ce6 (rfl : kd 168 = 6)) rfl rfl rfl (Nat.le_of_ble_eq_true rfl) rfl (fun r5 μ4 hX => ?_)
  exact j_iret C0 hlk hret dX6_step_14 hX
theorem c_X6_step {l : Launch} {D : va_G} {Y : Nat → ClassId} {ad : Nat → Nat} (a1 : Int32) (a2 : Int32) {μ : Mem} {K : Int32 → Mem → Prop}  (hX : x_X6_step a1 a2 μ K) : ConI l yX6_step wsX6_step rm_X6_step [.ref (ad 168), .int a1, .int a2] D Y ad μ K := conI_of (cc := cX6_step) (maxL := 3) (ret := (some .int)) (own := RX6) _ (by decide +kernel) rfl rfl (Nat.le_of_ble_eq_true rfl) (fun p e s m args below meth c C0 hlk hret => j_sub (l' := [(0, .ref (ad 168)), (1, .int a1), (2, .int a2)]) [0, 1, 2] rfl (w_X6_step C0 hlk hret a1 a2 μ K  hX))
/-! PhaseTonesModel.table(II)I -/
abbrev rm_X6_table : Room := rmf 3 65
def x_X6_table (a1 : Int32) (a2 : Int32) (μ : Mem) (K : Int32 → Mem → Prop) : Prop :=
  x_X6_hold  μ (fun μ1 => x_X6_tables a1 a2 μ1 (fun r3 μ2 => x_X6_recorded r3 μ2 (fun r5 μ4 => K r5 μ4)))
set_option maxRecDepth 20000 in
theorem w_X6_table {p : Program} {l : Launch} {e : Env} {s : State} {m : MethodId} {args : Array Value} {below : List Frame} {meth : Method} {c : Code} {D : va_G} {Y : Nat → ClassId} {ad : Nat → Nat} (C0 : CX D Y ad (PA ad) rm_X6_table 0 0 p s args m c cX6_table 3 RX6 wsX6_table) (hlk : meth.locks = false) (hret : meth.sig.returnType = (some .int)) (a1 : Int32) (a2 : Int32) (μ : Mem) (K : Int32 → Mem → Prop)  (hX : x_X6_table a1 a2 μ K) : J p l e rm_X6_table s m args below meth c D Y ad (PA ad) 0 0 3 (MQ below (va_Qi K (BB D Y ad) (PA ad)) args s 0 0 (PA ad)) 0 [(0, .ref (ad 168)), (1, .int a1), (2, .int a2)] [] μ := by
  refine j_aload_n C0 0 dX6_table_0 rfl rfl rfl ?_
  refine j_callVv C0 0 [] (c_X6_hold   hX) dX6_table_1 gX6_table_X6_hold rfl (by decide +kernel) ⟨⟨Nat.le_of_ble_eq_true rfl, Nat.le_of_ble_eq_true rfl⟩, rfl, rfl⟩ (kd_lt (rfl : kd 168 = 6) (by decide)) (ce6 (rfl : kd 168 = 6)) rfl rfl rfl (Nat.le_of_ble_eq_true rfl) rfl (fun μ1 hX => ?_)
  refine j_aload_n C0 0 dX6_table_4 rfl rfl rfl ?_
  refine j_aload_n C0 0 dX6_table_5 rfl rfl rfl ?_
  refine j_iload_n C0 1 dX6_table_6 rfl rfl rfl ?_
  refine j_iload_n C0 2 dX6_table_7 rfl rfl rfl ?_
  refine j_callVi C0 2 [.int a1, .int a2] (c_X6_tables a1 a2  hX) dX6_table_8 gX6_table_X6_tables rfl (by decide +kernel) ⟨⟨Nat.le_of_ble_eq_true rfl, Nat.le_of_ble_eq_true rfl⟩, rfl, rfl⟩ (kd_lt (rfl : kd 168 = 6) (by decide)) (ce6 (rfl : kd 168 = 6)) rfl rfl rfl (Nat.le_of_ble_eq_true rfl) rfl (fun r3 μ2 hX => ?_)
  refine j_callVi C0 1 [.int r3] (c_X6_recorded r3  hX) dX6_table_11 gX6_table_X6_recorded rfl (by decide +kernel) ⟨⟨Nat.le_of_ble_eq_true rfl, Nat.le_of_ble_eq_true rfl⟩, rfl, rfl⟩ (kd_lt (rfl : kd 168 = 6) (by decide)) (ce6 (rfl : kd 168 = 6)) rfl rfl rfl (Nat.le_of_ble_eq_true rfl) rfl (fun r5 μ4 hX => ?_)
  exact j_iret C0 hlk hret dX6_table_14 hX
theorem c_X6_table {l : Launch} {D : va_G} {Y : Nat → ClassId} {ad : Nat → Nat} (a1 : Int32) (a2 : Int32) {μ : Mem} {K : Int32 → Mem → Prop}  (hX : x_X6_table a1 a2 μ K) : ConI l yX6_table wsX6_table rm_X6_table [.ref (ad 168), .int a1, .int a2] D Y ad μ K := conI_of (cc := cX6_table) (maxL := 3) (ret := (some .int)) (own := RX6) _ (by decide +kernel) rfl rfl (Nat.le_of_ble_eq_true rfl) (fun p e s m args below meth c C0 hlk hret => j_sub (l' := [(0, .ref (ad 168)), (1, .int a1), (2, .int a2)]) [0, 1, 2] rfl (w_X6_table C0 hlk hret a1 a2 μ K  hX))
/-! PhaseTonesModel.volume(II)I -/
abbrev rm_X6_volume : Room := rmf 3 65
def x_X6_volume (a1 : Int32) (a2 : Int32) (μ : Mem) (K : Int32 → Mem → Prop) : Prop :=
  x_X6_hold  μ (fun μ1 => x_X6_volumes a1 a2 μ1 (fun r3 μ2 => x_X6_recorded r3 μ2 (fun r5 μ4 => K r5 μ4)))
set_option maxRecDepth 20000 in
theorem w_X6_volume {p : Program} {l : Launch} {e : Env} {s : State} {m : MethodId} {args : Array Value} {below : List Frame} {meth : Method} {c : Code} {D : va_G} {Y : Nat → ClassId} {ad : Nat → Nat} (C0 : CX D Y ad (PA ad) rm_X6_volume 0 0 p s args m c cX6_volume 3 RX6 wsX6_volume) (hlk : meth.locks = false) (hret : meth.sig.returnType = (some .int)) (a1 : Int32) (a2 : Int32) (μ : Mem) (K : Int32 → Mem → Prop)  (hX : x_X6_volume a1 a2 μ K) : J p l e rm_X6_volume s m args below meth c D Y ad (PA ad) 0 0 3 (MQ below (va_Qi K (BB D Y ad) (PA ad)) args s 0 0 (PA ad)) 0 [(0, .ref (ad 168)), (1, .int a1), (2, .int a2)] [] μ := by
  refine j_aload_n C0 0 dX6_volume_0 rfl rfl rfl ?_
  refine j_callVv C0 0 [] (c_X6_hold   hX) dX6_volume_1 gX6_volume_X6_hold rfl (by decide +kernel) ⟨⟨Nat.le_of_ble_eq_true rfl, Nat.le_of_ble_eq_true rfl⟩, rfl, rfl⟩ (kd_lt (rfl : kd 168 = 6) (by decide)) (ce6 (rfl : kd 168 = 6)) rfl rfl rfl (Nat.le_of_ble_eq_true rfl) rfl (fun μ1 hX => ?_)
  refine j_aload_n C0 0 dX6_volume_4 rfl rfl rfl ?_
  refine j_aload_n C0 0 dX6_volume_5 rfl rfl rfl ?_
  refine j_iload_n C0 1 dX6_volume_6 rfl rfl rfl ?_
  refine j_iload_n C0 2 dX6_volume_7 rfl rfl rfl ?_
  refine j_callVi C0 2 [.int a1, .int a2] (c_X6_volumes a1 a2  hX) dX6_volume_8 gX6_volume_X6_volumes rfl (by decide +kernel) ⟨⟨Nat.le_of_ble_eq_true rfl, Nat.le_of_ble_eq_true rfl⟩, rfl, rfl⟩ (kd_lt (rfl : kd 168 = 6) (by decide)) (ce6 (rfl : kd 168 = 6)) rfl rfl rfl (Nat.le_of_ble_eq_true rfl) rfl (fun r3 μ2 hX => ?_)
  refine j_callVi C0 1 [.int r3] (c_X6_recorded r3  hX) dX6_volume_11 gX6_volume_X6_recorded rfl (by decide +kernel) ⟨⟨Nat.le_of_ble_eq_true rfl, Nat.le_of_ble_eq_true rfl⟩, rfl, rfl⟩ (kd_lt (rfl : kd 168 = 6) (by decide)) (ce6 (rfl : kd 168 = 6)) rfl rfl rfl (Nat.le_of_ble_eq_true rfl) rfl (fun r5 μ4 hX => ?_)
  exact j_iret C0 hlk hret dX6_volume_14 hX
theorem c_X6_volume {l : Launch} {D : va_G} {Y : Nat → ClassId} {ad : Nat → Nat} (a1 : Int32) (a2 : Int32) {μ : Mem} {K : Int32 → Mem → Prop}  (hX : x_X6_volume a1 a2 μ K) : ConI l yX6_volume wsX6_volume rm_X6_volume [.ref (ad 168), .int a1, .int a2] D Y ad μ K := conI_of (cc := cX6_volume) (maxL := 3) (ret := (some .int)) (own := RX6) _ (by decide +kernel) rfl rfl (Nat.le_of_ble_eq_true rfl) (fun p e s m args below meth c C0 hlk hret => j_sub (l' := [(0, .ref (ad 168)), (1, .int a1), (2, .int a2)]) [0, 1, 2] rfl (w_X6_volume C0 hlk hret a1 a2 μ K  hX))
/-! PhaseTonesModel.turn(IZ)I -/
abbrev rm_X6_turn : Room := rmf 3 65
def x_X6_turn_L16 (K : Int32 → Mem → Prop) (as0 : Int32) (as1 : Int32) (μ : Mem) : Prop :=
  x_X6_turns as1 as0 μ (fun r4 μ3 => x_X6_recorded r4 μ3 (fun r6 μ5 => K r6 μ5))
set_option maxRecDepth 20000 in
theorem w_X6_turn_L16 {p : Program} {l : Launch} {e : Env} {s : State} {m : MethodId} {args : Array Value} {below : List Frame} {meth : Method} {c : Code} {D : va_G} {Y : Nat → ClassId} {ad : Nat → Nat} (C0 : CX D Y ad (PA ad) rm_X6_turn 0 0 p s args m c cX6_turn 3 RX6 wsX6_turn) (hlk : meth.locks = false) (hret : meth.sig.returnType = (some .int)) (as0 : Int32) (as1 : Int32) (μ : Mem) (K : Int32 → Mem → Prop)  (hX : x_X6_turn_L16 K as0 as1 μ) : J p l e rm_X6_turn s m args below meth c D Y ad (PA ad) 0 0 3 (MQ below (va_Qi K (BB D Y ad) (PA ad)) args s 0 0 (PA ad)) 16 [] [.int as0, .int as1, .ref (ad 168), .ref (ad 168)] μ := by
  refine j_callVi C0 2 [.int as1, .int as0] (c_X6_turns as1 as0  hX) dX6_turn_16 gX6_turn_X6_turns rfl (by decide +kernel) ⟨⟨Nat.le_of_ble_eq_true rfl, Nat.le_of_ble_eq_true rfl⟩, rfl, rfl⟩ (kd_lt (rfl : kd 168 = 6) (by decide)) (ce6 (rfl : kd 168 = 6)) rfl rfl rfl (Nat.le_of_ble_eq_true rfl) rfl (fun r4 μ3 hX => ?_)
  refine j_callVi C0 1 [.int r4] (c_X6_recorded r4  hX) dX6_turn_19 gX6_turn_X6_recorded rfl (by decide +kernel) ⟨⟨Nat.le_of_ble_eq_true rfl, Nat.le_of_ble_eq_true rfl⟩, rfl, rfl⟩ (kd_lt (rfl : kd 168 = 6) (by decide)) (ce6 (rfl : kd 168 = 6)) rfl rfl rfl (Nat.le_of_ble_eq_true rfl) rfl (fun r6 μ5 hX => ?_)
  exact j_iret C0 hlk hret dX6_turn_22 hX
def x_X6_turn (a1 : Int32) (a2 : Int32) (μ : Mem) (K : Int32 → Mem → Prop) : Prop :=
  x_X6_hold  μ (fun μ1 => (a2 = 0 → x_X6_turn_L16 K 0 a1 μ1) ∧ (¬ (a2 = 0) → x_X6_turn_L16 K 1 a1 μ1))
set_option maxRecDepth 20000 in
theorem w_X6_turn {p : Program} {l : Launch} {e : Env} {s : State} {m : MethodId} {args : Array Value} {below : List Frame} {meth : Method} {c : Code} {D : va_G} {Y : Nat → ClassId} {ad : Nat → Nat} (C0 : CX D Y ad (PA ad) rm_X6_turn 0 0 p s args m c cX6_turn 3 RX6 wsX6_turn) (hlk : meth.locks = false) (hret : meth.sig.returnType = (some .int)) (a1 : Int32) (a2 : Int32) (μ : Mem) (K : Int32 → Mem → Prop)  (hX : x_X6_turn a1 a2 μ K) : J p l e rm_X6_turn s m args below meth c D Y ad (PA ad) 0 0 3 (MQ below (va_Qi K (BB D Y ad) (PA ad)) args s 0 0 (PA ad)) 0 [(0, .ref (ad 168)), (1, .int a1), (2, .int a2)] [] μ := by
  refine j_aload_n C0 0 dX6_turn_0 rfl rfl rfl ?_
  refine j_callVv C0 0 [] (c_X6_hold   hX) dX6_turn_1 gX6_turn_X6_hold rfl (by decide +kernel) ⟨⟨Nat.le_of_ble_eq_true rfl, Nat.le_of_ble_eq_true rfl⟩, rfl, rfl⟩ (kd_lt (rfl : kd 168 = 6) (by decide)) (ce6 (rfl : kd 168 = 6)) rfl rfl rfl (Nat.le_of_ble_eq_true rfl) rfl (fun μ1 hX => ?_)
  refine j_aload_n C0 0 dX6_turn_4 rfl rfl rfl ?_
  refine j_aload_n C0 0 dX6_turn_5 rfl rfl rfl ?_
  refine j_iload_n C0 1 dX6_turn_6 rfl rfl rfl ?_
  refine j_iload_n C0 2 dX6_turn_7 rfl rfl rfl ?_
  refine j_if_eq C0 (tgt := 15) dX6_turn_8 (by decide) rfl (fun c2 => ?_) (fun c2 => ?_)
  · have hX := hX.1 c2
    refine j_iconst C0 0 dX6_turn_15 (by decide) rfl ?_
    exact j_sub (l' := []) [] rfl (w_X6_turn_L16 C0 hlk hret 0 a1 μ1 K  hX)
  · have hX := hX.2 c2
    refine j_iconst C0 1 dX6_turn_11 (by decide) rfl ?_
    refine j_goto C0 (tgt := 16) dX6_turn_12 (by decide) ?_
    exact j_sub (l' := []) [] rfl (w_X6_turn_L16 C0 hlk hret 1 a1 μ1 K  hX)
theorem c_X6_turn {l : Launch} {D : va_G} {Y : Nat → ClassId} {ad : Nat → Nat} (a1 : Int32) (a2 : Int32) {μ : Mem} {K : Int32 → Mem → Prop}  (hX : x_X6_turn a1 a2 μ K) : ConI l yX6_turn wsX6_turn rm_X6_turn [.ref (ad 168), .int a1, .int a2] D Y ad μ K := conI_of (cc := cX6_turn) (maxL := 3) (ret := (some .int)) (own := RX6) _ (by decide +kernel) rfl rfl (Nat.le_of_ble_eq_true rfl) (fun p e s m args below meth c C0 hlk hret => j_sub (l' := [(0, .ref (ad 168)), (1, .int a1), (2, .int a2)]) [0, 1, 2] rfl (w_X6_turn C0 hlk hret a1 a2 μ K  hX))
/-! PhaseTonesModel.phase(II)I -/
abbrev rm_X6_phase : Room := rmf 2 42
theorem fw_X6_phase_6 : ∀ w ∈ wsX60, w ∈ wsX6_phase := by decide +kernel
theorem hw_X6_phase_0 : Cond.constant RX6 65 (65535) ∈ wsX6_phase := by decide +kernel
theorem hw_X6_phase_1 : Cond.fieldLink RX6 7 RX6 (TX6 0).2.1 (TX6 0).2.2.1 ∈ wsX6_phase := by decide +kernel
def x_X6_phase (a1 : Int32) (a2 : Int32) (μ : Mem) (K : Int32 → Mem → Prop) : Prop :=
  x_X6_isOne a1 μ (fun r2 μ1 => (r2 = 0 → K (-1) μ1) ∧ (¬ (r2 = 0) → x_X6_in a2 0 65535 μ1 (fun r5 μ4 => (r5 = 0 → K (-2) μ4) ∧ (¬ (r5 = 0) → x_X6_hold  μ4 (fun μ7 => x_X6_w a1 μ7 (fun r9 μ8 => vp_in (r9 + 0) 166 ∧ ∀ v11 : Int32, v11 = (μ8 169 (r9 + 0).toNatClampNeg) → x_X6_w a1 μ8 (fun r13 μ12 => vp_in (r13 + 0) 166 ∧ ∀ μ15 : Mem, μ15 = um μ12 169 (upd (μ12 169) (r13 + 0).toNatClampNeg a2) → x_X6_recorded v11 μ15 (fun r17 μ16 => K r17 μ16))))))))
set_option maxRecDepth 20000 in
theorem w_X6_phase {p : Program} {l : Launch} {e : Env} {s : State} {m : MethodId} {args : Array Value} {below : List Frame} {meth : Method} {c : Code} {D : va_G} {Y : Nat → ClassId} {ad : Nat → Nat} (C0 : CX D Y ad (PA ad) rm_X6_phase 0 0 p s args m c cX6_phase 4 RX6 wsX6_phase) (hlk : meth.locks = false) (hret : meth.sig.returnType = (some .int)) (a1 : Int32) (a2 : Int32) (μ : Mem) (K : Int32 → Mem → Prop)  (hX : x_X6_phase a1 a2 μ K) : J p l e rm_X6_phase s m args below meth c D Y ad (PA ad) 0 0 4 (MQ below (va_Qi K (BB D Y ad) (PA ad)) args s 0 0 (PA ad)) 0 [(0, .ref (ad 168)), (1, .int a1), (2, .int a2)] [] μ := by
  refine j_iload_n C0 1 dX6_phase_0 rfl rfl rfl ?_
  refine j_callSi C0 1 [.int a1] (c_X6_isOne a1  hX) dX6_phase_1 gX6_phase_X6_isOne rfl (by decide +kernel) ⟨⟨Nat.le_of_ble_eq_true rfl, Nat.le_of_ble_eq_true rfl⟩, rfl, rfl⟩ rfl rfl (Nat.le_of_ble_eq_true rfl) rfl (fun r2 μ1 hX => ?_)
  refine j_if_ne C0 (tgt := 9) dX6_phase_4 (by decide) rfl (fun c3 => ?_) (fun c3 => ?_)
  · have hX := hX.1 c3
    refine j_iconst C0 (-1) dX6_phase_7 (by decide) rfl ?_
    exact j_iret C0 hlk hret dX6_phase_8 hX
  · have hX := hX.2 c3
    refine j_iload_n C0 2 dX6_phase_9 rfl rfl rfl ?_
    refine j_iconst C0 0 dX6_phase_10 (by decide) rfl ?_
    refine j_ldc C0 65535 dX6_phase_11 hw_X6_phase_0 rfl ?_
    refine j_callSi C0 3 [.int a2, .int 0, .int 65535] (c_X6_in a2 0 65535  hX) dX6_phase_13 gX6_phase_X6_in rfl (by decide +kernel) ⟨⟨Nat.le_of_ble_eq_true rfl, Nat.le_of_ble_eq_true rfl⟩, rfl, rfl⟩ rfl rfl (Nat.le_of_ble_eq_true rfl) rfl (fun r5 μ4 hX => ?_)
    refine j_if_ne C0 (tgt := 22) dX6_phase_16 (by decide) rfl (fun c6 => ?_) (fun c6 => ?_)
    · have hX := hX.1 c6
      refine j_bipush C0 (-2) dX6_phase_19 (by decide) rfl ?_
      exact j_iret C0 hlk hret dX6_phase_21 hX
    · have hX := hX.2 c6
      refine j_aload_n C0 0 dX6_phase_22 rfl rfl rfl ?_
      refine j_callVv C0 0 [] (c_X6_hold   hX) dX6_phase_23 gX6_phase_X6_hold rfl (by decide +kernel) ⟨⟨Nat.le_of_ble_eq_true rfl, Nat.le_of_ble_eq_true rfl⟩, rfl, rfl⟩ (kd_lt (rfl : kd 168 = 6) (by decide)) (ce6 (rfl : kd 168 = 6)) rfl rfl rfl (Nat.le_of_ble_eq_true rfl) rfl (fun μ7 hX => ?_)
      refine j_aload_n C0 0 dX6_phase_26 rfl rfl rfl ?_
      refine j_get6 C0 (v := .ref (ad 169)) 0 (rfl : kd 168 = 6) fw_X6_phase_6 hw_X6_phase_1 (fun _ h9 => h9) (by decide) rfl dX6_phase_27 rfl ?_
      refine j_iload_n C0 1 dX6_phase_30 rfl rfl rfl ?_
      refine j_callSi C0 1 [.int a1] (c_X6_w a1  hX) dX6_phase_31 gX6_phase_X6_w rfl (by decide +kernel) ⟨⟨Nat.le_of_ble_eq_true rfl, Nat.le_of_ble_eq_true rfl⟩, rfl, rfl⟩ rfl rfl (Nat.le_of_ble_eq_true rfl) rfl (fun r9 μ8 hX => ?_)
      refine j_iconst C0 0 dX6_phase_34 (by decide) rfl ?_
      refine j_iadd C0 dX6_phase_35 rfl ?_
      obtain ⟨h10, hX⟩ := hX
      refine j_iald C0 (n := 166) (kd_lt (rfl : kd 169 = 18) (by decide)) (ce18 (rfl : kd 169 = 18)) h10 dX6_phase_36 rfl ?_
      refine j_topi (fun v11 e_v11 => ?_)
      have hX := hX v11 e_v11
      refine j_istore_n C0 [(3, .int v11), (0, .ref (ad 168)), (1, .int a1), (2, .int a2)] dX6_phase_37 rfl (by decide) rfl rfl ?_
      refine j_aload_n C0 1 dX6_phase_38 rfl rfl rfl ?_
      refine j_get6 C0 (v := .ref (ad 169)) 0 (rfl : kd 168 = 6) fw_X6_phase_6 hw_X6_phase_1 (fun _ h9 => h9) (by decide) rfl dX6_phase_39 rfl ?_
      refine j_iload_n C0 2 dX6_phase_42 rfl rfl rfl ?_
      refine j_callSi C0 1 [.int a1] (c_X6_w a1  hX) dX6_phase_43 gX6_phase_X6_w rfl (by decide +kernel) ⟨⟨Nat.le_of_ble_eq_true rfl, Nat.le_of_ble_eq_true rfl⟩, rfl, rfl⟩ rfl rfl (Nat.le_of_ble_eq_true rfl) rfl (fun r13 μ12 hX => ?_)
      refine j_iconst C0 0 dX6_phase_46 (by decide) rfl ?_
      refine j_iadd C0 dX6_phase_47 rfl ?_
      refine j_iload_n C0 3 dX6_phase_48 rfl rfl rfl ?_
      obtain ⟨h14, hX⟩ := hX
      refine j_iast C0 (n := 166) (kd_lt (rfl : kd 169 = 18) (by decide)) (ce18 (rfl : kd 169 = 18)) h14 dX6_phase_49 rfl ?_
      refine j_nm (fun μ15 e_μ15 => ?_)
      have hX := hX μ15 e_μ15
      refine j_aload_n C0 1 dX6_phase_50 rfl rfl rfl ?_
      refine j_iload_n C0 0 dX6_phase_51 rfl rfl rfl ?_
      refine j_callVi C0 1 [.int v11] (c_X6_recorded v11  hX) dX6_phase_52 gX6_phase_X6_recorded rfl (by decide +kernel) ⟨⟨Nat.le_of_ble_eq_true rfl, Nat.le_of_ble_eq_true rfl⟩, rfl, rfl⟩ (kd_lt (rfl : kd 168 = 6) (by decide)) (ce6 (rfl : kd 168 = 6)) rfl rfl rfl (Nat.le_of_ble_eq_true rfl) rfl (fun r17 μ16 hX => ?_)
      exact j_iret C0 hlk hret dX6_phase_55 hX
theorem c_X6_phase {l : Launch} {D : va_G} {Y : Nat → ClassId} {ad : Nat → Nat} (a1 : Int32) (a2 : Int32) {μ : Mem} {K : Int32 → Mem → Prop}  (hX : x_X6_phase a1 a2 μ K) : ConI l yX6_phase wsX6_phase rm_X6_phase [.ref (ad 168), .int a1, .int a2] D Y ad μ K := conI_of (cc := cX6_phase) (maxL := 4) (ret := (some .int)) (own := RX6) _ (by decide +kernel) rfl rfl (Nat.le_of_ble_eq_true rfl) (fun p e s m args below meth c C0 hlk hret => j_sub (l' := [(0, .ref (ad 168)), (1, .int a1), (2, .int a2)]) [0, 1, 2] rfl (w_X6_phase C0 hlk hret a1 a2 μ K  hX))
/-! PhaseTonesModel.sweep(III)I -/
abbrev rm_X6_sweep : Room := rmf 3 67
def x_X6_sweep (a1 : Int32) (a2 : Int32) (a3 : Int32) (μ : Mem) (K : Int32 → Mem → Prop) : Prop :=
  x_X6_hold  μ (fun μ1 => x_X6_sweeps a1 a2 a3 μ1 (fun r3 μ2 => x_X6_recorded r3 μ2 (fun r5 μ4 => K r5 μ4)))
set_option maxRecDepth 20000 in
theorem w_X6_sweep {p : Program} {l : Launch} {e : Env} {s : State} {m : MethodId} {args : Array Value} {below : List Frame} {meth : Method} {c : Code} {D : va_G} {Y : Nat → ClassId} {ad : Nat → Nat} (C0 : CX D Y ad (PA ad) rm_X6_sweep 0 0 p s args m c cX6_sweep 4 RX6 wsX6_sweep) (hlk : meth.locks = false) (hret : meth.sig.returnType = (some .int)) (a1 : Int32) (a2 : Int32) (a3 : Int32) (μ : Mem) (K : Int32 → Mem → Prop)  (hX : x_X6_sweep a1 a2 a3 μ K) : J p l e rm_X6_sweep s m args below meth c D Y ad (PA ad) 0 0 4 (MQ below (va_Qi K (BB D Y ad) (PA ad)) args s 0 0 (PA ad)) 0 [(0, .ref (ad 168)), (1, .int a1), (2, .int a2), (3, .int a3)] [] μ := by
  refine j_aload_n C0 0 dX6_sweep_0 rfl rfl rfl ?_
  refine j_callVv C0 0 [] (c_X6_hold   hX) dX6_sweep_1 gX6_sweep_X6_hold rfl (by decide +kernel) ⟨⟨Nat.le_of_ble_eq_true rfl, Nat.le_of_ble_eq_true rfl⟩, rfl, rfl⟩ (kd_lt (rfl : kd 168 = 6) (by decide)) (ce6 (rfl : kd 168 = 6)) rfl rfl rfl (Nat.le_of_ble_eq_true rfl) rfl (fun μ1 hX => ?_)
  refine j_aload_n C0 0 dX6_sweep_4 rfl rfl rfl ?_
  refine j_aload_n C0 0 dX6_sweep_5 rfl rfl rfl ?_
  refine j_iload_n C0 1 dX6_sweep_6 rfl rfl rfl ?_
  refine j_iload_n C0 2 dX6_sweep_7 rfl rfl rfl ?_
  refine j_iload_n C0 3 dX6_sweep_8 rfl rfl rfl ?_
  refine j_callVi C0 3 [.int a1, .int a2, .int a3] (c_X6_sweeps a1 a2 a3  hX) dX6_sweep_9 gX6_sweep_X6_sweeps rfl (by decide +kernel) ⟨⟨Nat.le_of_ble_eq_true rfl, Nat.le_of_ble_eq_true rfl⟩, rfl, rfl⟩ (kd_lt (rfl : kd 168 = 6) (by decide)) (ce6 (rfl : kd 168 = 6)) rfl rfl rfl (Nat.le_of_ble_eq_true rfl) rfl (fun r3 μ2 hX => ?_)
  refine j_callVi C0 1 [.int r3] (c_X6_recorded r3  hX) dX6_sweep_12 gX6_sweep_X6_recorded rfl (by decide +kernel) ⟨⟨Nat.le_of_ble_eq_true rfl, Nat.le_of_ble_eq_true rfl⟩, rfl, rfl⟩ (kd_lt (rfl : kd 168 = 6) (by decide)) (ce6 (rfl : kd 168 = 6)) rfl rfl rfl (Nat.le_of_ble_eq_true rfl) rfl (fun r5 μ4 hX => ?_)
  exact j_iret C0 hlk hret dX6_sweep_15 hX
theorem c_X6_sweep {l : Launch} {D : va_G} {Y : Nat → ClassId} {ad : Nat → Nat} (a1 : Int32) (a2 : Int32) (a3 : Int32) {μ : Mem} {K : Int32 → Mem → Prop}  (hX : x_X6_sweep a1 a2 a3 μ K) : ConI l yX6_sweep wsX6_sweep rm_X6_sweep [.ref (ad 168), .int a1, .int a2, .int a3] D Y ad μ K := conI_of (cc := cX6_sweep) (maxL := 4) (ret := (some .int)) (own := RX6) _ (by decide +kernel) rfl rfl (Nat.le_of_ble_eq_true rfl) (fun p e s m args below meth c C0 hlk hret => j_sub (l' := [(0, .ref (ad 168)), (1, .int a1), (2, .int a2), (3, .int a3)]) [0, 1, 2, 3] rfl (w_X6_sweep C0 hlk hret a1 a2 a3 μ K  hX))
/-! PhaseTonesModel.make(I)I -/
abbrev rm_X6_make : Room := rmf 5 110
def x_X6_make (a1 : Int32) (μ : Mem) (K : Int32 → Mem → Prop) : Prop :=
  x_X6_hold  μ (fun μ1 => x_X6_makesAll a1 μ1 (fun r3 μ2 => x_X6_recorded r3 μ2 (fun r5 μ4 => K r5 μ4)))
set_option maxRecDepth 20000 in
theorem w_X6_make {p : Program} {l : Launch} {e : Env} {s : State} {m : MethodId} {args : Array Value} {below : List Frame} {meth : Method} {c : Code} {D : va_G} {Y : Nat → ClassId} {ad : Nat → Nat} (C0 : CX D Y ad (PA ad) rm_X6_make 0 0 p s args m c cX6_make 2 RX6 wsX6_make) (hlk : meth.locks = false) (hret : meth.sig.returnType = (some .int)) (a1 : Int32) (μ : Mem) (K : Int32 → Mem → Prop)  (hX : x_X6_make a1 μ K) : J p l e rm_X6_make s m args below meth c D Y ad (PA ad) 0 0 2 (MQ below (va_Qi K (BB D Y ad) (PA ad)) args s 0 0 (PA ad)) 0 [(0, .ref (ad 168)), (1, .int a1)] [] μ := by
  refine j_aload_n C0 0 dX6_make_0 rfl rfl rfl ?_
  refine j_callVv C0 0 [] (c_X6_hold   hX) dX6_make_1 gX6_make_X6_hold rfl (by decide +kernel) ⟨⟨Nat.le_of_ble_eq_true rfl, Nat.le_of_ble_eq_true rfl⟩, rfl, rfl⟩ (kd_lt (rfl : kd 168 = 6) (by decide)) (ce6 (rfl : kd 168 = 6)) rfl rfl rfl (Nat.le_of_ble_eq_true rfl) rfl (fun μ1 hX => ?_)
  refine j_aload_n C0 0 dX6_make_4 rfl rfl rfl ?_
  refine j_aload_n C0 0 dX6_make_5 rfl rfl rfl ?_
  refine j_iload_n C0 1 dX6_make_6 rfl rfl rfl ?_
  refine j_callVi C0 1 [.int a1] (c_X6_makesAll a1  hX) dX6_make_7 gX6_make_X6_makesAll rfl (by decide +kernel) ⟨⟨Nat.le_of_ble_eq_true rfl, Nat.le_of_ble_eq_true rfl⟩, rfl, rfl⟩ (kd_lt (rfl : kd 168 = 6) (by decide)) (ce6 (rfl : kd 168 = 6)) rfl rfl rfl (Nat.le_of_ble_eq_true rfl) rfl (fun r3 μ2 hX => ?_)
  refine j_callVi C0 1 [.int r3] (c_X6_recorded r3  hX) dX6_make_10 gX6_make_X6_recorded rfl (by decide +kernel) ⟨⟨Nat.le_of_ble_eq_true rfl, Nat.le_of_ble_eq_true rfl⟩, rfl, rfl⟩ (kd_lt (rfl : kd 168 = 6) (by decide)) (ce6 (rfl : kd 168 = 6)) rfl rfl rfl (Nat.le_of_ble_eq_true rfl) rfl (fun r5 μ4 hX => ?_)
  exact j_iret C0 hlk hret dX6_make_13 hX
theorem c_X6_make {l : Launch} {D : va_G} {Y : Nat → ClassId} {ad : Nat → Nat} (a1 : Int32) {μ : Mem} {K : Int32 → Mem → Prop}  (hX : x_X6_make a1 μ K) : ConI l yX6_make wsX6_make rm_X6_make [.ref (ad 168), .int a1] D Y ad μ K := conI_of (cc := cX6_make) (maxL := 2) (ret := (some .int)) (own := RX6) _ (by decide +kernel) rfl rfl (Nat.le_of_ble_eq_true rfl) (fun p e s m args below meth c C0 hlk hret => j_sub (l' := [(0, .ref (ad 168)), (1, .int a1)]) [0, 1] rfl (w_X6_make C0 hlk hret a1 μ K  hX))
/-! PhaseTonesModel.isSign(CC)Z -/
abbrev rm_X6_isSign : Room := rmf 0 0
theorem fw_X6_isSign_6 : ∀ w ∈ wsX60, w ∈ wsX6_isSign := by decide +kernel
theorem hw_X6_isSign_0 : Cond.fieldLink RX6 99 RX6 (TX6 11).2.1 (TX6 11).2.2.1 ∈ wsX6_isSign := by decide +kernel
theorem hw_X6_isSign_1 : Cond.fieldLink RX6 102 RX6 (TX6 8).2.1 (TX6 8).2.2.1 ∈ wsX6_isSign := by decide +kernel
theorem hw_X6_isSign_2 : Cond.fieldLink RX6 32 RX6 (TX6 7).2.1 (TX6 7).2.2.1 ∈ wsX6_isSign := by decide +kernel
def x_X6_isSign (a1 : Int32) (a2 : Int32) (μ : Mem) (K : Int32 → Mem → Prop) : Prop :=
  ((μ 168 8) ≤ (μ 168 11) → K 0 μ) ∧ (¬ ((μ 168 8) ≤ (μ 168 11)) → vp_in (μ 168 11) 60 ∧ ((μ 176 (μ 168 11).toNatClampNeg) < a1 → K 0 μ) ∧ (¬ ((μ 176 (μ 168 11).toNatClampNeg) < a1) → vp_in (μ 168 11) 60 ∧ (a2 < (μ 176 (μ 168 11).toNatClampNeg) → K 0 μ) ∧ (¬ (a2 < (μ 176 (μ 168 11).toNatClampNeg)) → K 1 μ)))
set_option maxRecDepth 20000 in
theorem w_X6_isSign {p : Program} {l : Launch} {e : Env} {s : State} {m : MethodId} {args : Array Value} {below : List Frame} {meth : Method} {c : Code} {D : va_G} {Y : Nat → ClassId} {ad : Nat → Nat} (C0 : CX D Y ad (PA ad) rm_X6_isSign 0 0 p s args m c cX6_isSign 3 RX6 wsX6_isSign) (hlk : meth.locks = false) (hret : meth.sig.returnType = (some .boolean)) (a1 : Int32) (a2 : Int32) (μ : Mem) (K : Int32 → Mem → Prop)  (hX : x_X6_isSign a1 a2 μ K) : J p l e rm_X6_isSign s m args below meth c D Y ad (PA ad) 0 0 3 (MQ below (va_Qi K (BB D Y ad) (PA ad)) args s 0 0 (PA ad)) 0 [(0, .ref (ad 168)), (1, .int a1), (2, .int a2)] [] μ := by
  refine j_aload_n C0 0 dX6_isSign_0 rfl rfl rfl ?_
  refine j_get6 C0 (v := .int (μ 168 11)) 11 (rfl : kd 168 = 6) fw_X6_isSign_6 hw_X6_isSign_0 (fun _ h9 => h9) (by decide) rfl dX6_isSign_1 rfl ?_
  refine j_aload_n C0 0 dX6_isSign_4 rfl rfl rfl ?_
  refine j_get6 C0 (v := .int (μ 168 8)) 8 (rfl : kd 168 = 6) fw_X6_isSign_6 hw_X6_isSign_1 (fun _ h9 => h9) (by decide) rfl dX6_isSign_5 rfl ?_
  refine j_icmp_ge C0 (tgt := 41) dX6_isSign_8 (by decide) rfl (fun c1 => ?_) (fun c1 => ?_)
  · have hX := hX.1 c1
    refine j_iconst C0 0 dX6_isSign_41 (by decide) rfl ?_
    exact j_zret C0 hlk hret dX6_isSign_42 zb0 hX
  · have hX := hX.2 c1
    refine j_aload_n C0 0 dX6_isSign_11 rfl rfl rfl ?_
    refine j_get6 C0 (v := .ref (ad 176)) 7 (rfl : kd 168 = 6) fw_X6_isSign_6 hw_X6_isSign_2 (fun _ h9 => h9) (by decide) rfl dX6_isSign_12 rfl ?_
    refine j_aload_n C0 0 dX6_isSign_15 rfl rfl rfl ?_
    refine j_get6 C0 (v := .int (μ 168 11)) 11 (rfl : kd 168 = 6) fw_X6_isSign_6 hw_X6_isSign_0 (fun _ h9 => h9) (by decide) rfl dX6_isSign_16 rfl ?_
    obtain ⟨h2, hX⟩ := hX
    refine j_cald C0 (n := 60) (kd_lt (rfl : kd 176 = 17) (by decide)) (ce17 (rfl : kd 176 = 17)) h2 dX6_isSign_19 rfl ?_
    refine j_iload_n C0 1 dX6_isSign_20 rfl rfl rfl ?_
    refine j_icmp_lt C0 (tgt := 41) dX6_isSign_21 (by decide) rfl (fun c3 => ?_) (fun c3 => ?_)
    · have hX := hX.1 c3
      refine j_iconst C0 0 dX6_isSign_41 (by decide) rfl ?_
      exact j_zret C0 hlk hret dX6_isSign_42 zb0 hX
    · have hX := hX.2 c3
      refine j_aload_n C0 0 dX6_isSign_24 rfl rfl rfl ?_
      refine j_get6 C0 (v := .ref (ad 176)) 7 (rfl : kd 168 = 6) fw_X6_isSign_6 hw_X6_isSign_2 (fun _ h9 => h9) (by decide) rfl dX6_isSign_25 rfl ?_
      refine j_aload_n C0 0 dX6_isSign_28 rfl rfl rfl ?_
      refine j_get6 C0 (v := .int (μ 168 11)) 11 (rfl : kd 168 = 6) fw_X6_isSign_6 hw_X6_isSign_0 (fun _ h9 => h9) (by decide) rfl dX6_isSign_29 rfl ?_
      obtain ⟨h4, hX⟩ := hX
      refine j_cald C0 (n := 60) (kd_lt (rfl : kd 176 = 17) (by decide)) (ce17 (rfl : kd 176 = 17)) h4 dX6_isSign_32 rfl ?_
      refine j_iload_n C0 2 dX6_isSign_33 rfl rfl rfl ?_
      refine j_icmp_gt C0 (tgt := 41) dX6_isSign_34 (by decide) rfl (fun c5 => ?_) (fun c5 => ?_)
      · have hX := hX.1 c5
        refine j_iconst C0 0 dX6_isSign_41 (by decide) rfl ?_
        exact j_zret C0 hlk hret dX6_isSign_42 zb0 hX
      · have hX := hX.2 c5
        refine j_iconst C0 1 dX6_isSign_37 (by decide) rfl ?_
        refine j_goto C0 (tgt := 42) dX6_isSign_38 (by decide) ?_
        exact j_zret C0 hlk hret dX6_isSign_42 zb1 hX
theorem c_X6_isSign {l : Launch} {D : va_G} {Y : Nat → ClassId} {ad : Nat → Nat} (a1 : Int32) (a2 : Int32) {μ : Mem} {K : Int32 → Mem → Prop}  (hX : x_X6_isSign a1 a2 μ K) : ConI l yX6_isSign wsX6_isSign rm_X6_isSign [.ref (ad 168), .int a1, .int a2] D Y ad μ K := conI_of (cc := cX6_isSign) (maxL := 3) (ret := (some .boolean)) (own := RX6) _ (by decide +kernel) rfl rfl (Nat.le_of_ble_eq_true rfl) (fun p e s m args below meth c C0 hlk hret => j_sub (l' := [(0, .ref (ad 168)), (1, .int a1), (2, .int a2)]) [0, 1, 2] rfl (w_X6_isSign C0 hlk hret a1 a2 μ K  hX))
/-! PhaseTonesModel.accepts(C)Z -/
abbrev rm_X6_accepts : Room := rmf 1 22
theorem fw_X6_accepts_6 : ∀ w ∈ wsX60, w ∈ wsX6_accepts := by decide +kernel
theorem hw_X6_accepts_0 : Cond.fieldLink RX6 99 RX6 (TX6 11).2.1 (TX6 11).2.2.1 ∈ wsX6_accepts := by decide +kernel
def x_X6_accepts (a1 : Int32) (μ : Mem) (K : Int32 → Mem → Prop) : Prop :=
  x_X6_isSign a1 a1 μ (fun r2 μ1 => (r2 = 0 → ∀ μ4 : Mem, μ4 = um μ1 168 (upd (μ1 168) 11 ((μ1 168 11) + 0)) → zb r2 ∧ K r2 μ4) ∧ (¬ (r2 = 0) → ∀ μ5 : Mem, μ5 = um μ1 168 (upd (μ1 168) 11 ((μ1 168 11) + 1)) → zb r2 ∧ K r2 μ5))
set_option maxRecDepth 20000 in
theorem w_X6_accepts {p : Program} {l : Launch} {e : Env} {s : State} {m : MethodId} {args : Array Value} {below : List Frame} {meth : Method} {c : Code} {D : va_G} {Y : Nat → ClassId} {ad : Nat → Nat} (C0 : CX D Y ad (PA ad) rm_X6_accepts 0 0 p s args m c cX6_accepts 3 RX6 wsX6_accepts) (hlk : meth.locks = false) (hret : meth.sig.returnType = (some .boolean)) (a1 : Int32) (μ : Mem) (K : Int32 → Mem → Prop)  (hX : x_X6_accepts a1 μ K) : J p l e rm_X6_accepts s m args below meth c D Y ad (PA ad) 0 0 3 (MQ below (va_Qi K (BB D Y ad) (PA ad)) args s 0 0 (PA ad)) 0 [(0, .ref (ad 168)), (1, .int a1)] [] μ := by
  refine j_aload_n C0 0 dX6_accepts_0 rfl rfl rfl ?_
  refine j_iload_n C0 1 dX6_accepts_1 rfl rfl rfl ?_
  refine j_iload_n C0 1 dX6_accepts_2 rfl rfl rfl ?_
  refine j_callVi C0 2 [.int a1, .int a1] (c_X6_isSign a1 a1  hX) dX6_accepts_3 gX6_accepts_X6_isSign rfl (by decide +kernel) ⟨⟨Nat.le_of_ble_eq_true rfl, Nat.le_of_ble_eq_true rfl⟩, rfl, rfl⟩ (kd_lt (rfl : kd 168 = 6) (by decide)) (ce6 (rfl : kd 168 = 6)) rfl rfl rfl (Nat.le_of_ble_eq_true rfl) rfl (fun r2 μ1 hX => ?_)
  refine j_istore_n C0 [(2, .int r2), (0, .ref (ad 168)), (1, .int a1)] dX6_accepts_6 rfl (by decide) rfl rfl ?_
  refine j_aload_n C0 1 dX6_accepts_7 rfl rfl rfl ?_
  refine j_dup C0 dX6_accepts_8 rfl rfl ?_
  refine j_get6 C0 (v := .int (μ1 168 11)) 11 (rfl : kd 168 = 6) fw_X6_accepts_6 hw_X6_accepts_0 (fun _ h9 => h9) (by decide) rfl dX6_accepts_9 rfl ?_
  refine j_iload_n C0 0 dX6_accepts_12 rfl rfl rfl ?_
  refine j_if_eq C0 (tgt := 20) dX6_accepts_13 (by decide) rfl (fun c3 => ?_) (fun c3 => ?_)
  · have hX := hX.1 c3
    refine j_iconst C0 0 dX6_accepts_20 (by decide) rfl ?_
    refine j_iadd C0 dX6_accepts_21 rfl ?_
    refine j_put6_11 C0 (rfl : kd 168 = 6) fw_X6_accepts_6 hw_X6_accepts_0 dX6_accepts_22 rfl ?_
    refine j_nm (fun μ4 e_μ4 => ?_)
    have hX := hX μ4 e_μ4
    refine j_iload_n C0 0 dX6_accepts_25 rfl rfl rfl ?_
    exact j_zret C0 hlk hret dX6_accepts_26 hX.1 hX.2
  · have hX := hX.2 c3
    refine j_iconst C0 1 dX6_accepts_16 (by decide) rfl ?_
    refine j_goto C0 (tgt := 21) dX6_accepts_17 (by decide) ?_
    refine j_iadd C0 dX6_accepts_21 rfl ?_
    refine j_put6_11 C0 (rfl : kd 168 = 6) fw_X6_accepts_6 hw_X6_accepts_0 dX6_accepts_22 rfl ?_
    refine j_nm (fun μ5 e_μ5 => ?_)
    have hX := hX μ5 e_μ5
    refine j_iload_n C0 0 dX6_accepts_25 rfl rfl rfl ?_
    exact j_zret C0 hlk hret dX6_accepts_26 hX.1 hX.2
theorem c_X6_accepts {l : Launch} {D : va_G} {Y : Nat → ClassId} {ad : Nat → Nat} (a1 : Int32) {μ : Mem} {K : Int32 → Mem → Prop}  (hX : x_X6_accepts a1 μ K) : ConI l yX6_accepts wsX6_accepts rm_X6_accepts [.ref (ad 168), .int a1] D Y ad μ K := conI_of (cc := cX6_accepts) (maxL := 3) (ret := (some .boolean)) (own := RX6) _ (by decide +kernel) rfl rfl (Nat.le_of_ble_eq_true rfl) (fun p e s m args below meth c C0 hlk hret => j_sub (l' := [(0, .ref (ad 168)), (1, .int a1)]) [0, 1] rfl (w_X6_accepts C0 hlk hret a1 μ K  hX))
/-! PhaseTonesModel.number(III)Z -/
abbrev rm_X6_number : Room := rmf 1 22
theorem fw_X6_number_6 : ∀ w ∈ wsX60, w ∈ wsX6_number := by decide +kernel
theorem hw_X6_number_0 : Cond.fieldLink RX6 109 RX6 (TX6 10).2.1 (TX6 10).2.2.1 ∈ wsX6_number := by decide +kernel
theorem hw_X6_number_1 : Cond.fieldLink RX6 29 RX6 (TX6 6).2.1 (TX6 6).2.2.1 ∈ wsX6_number := by decide +kernel
theorem hw_X6_number_2 : Cond.fieldLink RX6 32 RX6 (TX6 7).2.1 (TX6 7).2.2.1 ∈ wsX6_number := by decide +kernel
theorem hw_X6_number_3 : Cond.fieldLink RX6 99 RX6 (TX6 11).2.1 (TX6 11).2.2.1 ∈ wsX6_number := by decide +kernel
def xb_X6_number_L69 (K : Int32 → Mem → Prop) (B : Int32 → Int32 → Mem → Prop) (a3 : Int32) (a4 : Int32) (μ : Mem) : Prop :=
  vp_in a4 84 ∧ ((μ 175 a4.toNatClampNeg) ≤ 0 → K 1 μ) ∧ (¬ ((μ 175 a4.toNatClampNeg) ≤ 0) → x_X6_isSign 48 57 μ (fun r15 μ14 => (r15 = 0 → K 1 μ14) ∧ (¬ (r15 = 0) → vp_in a4 84 ∧ vp_in (μ14 168 11) 60 ∧ (a3 < ((((10 : Int32) * (μ14 175 a4.toNatClampNeg)) + (μ14 176 (μ14 168 11).toNatClampNeg)) - 48) → K 1 μ14) ∧ (¬ (a3 < ((((10 : Int32) * (μ14 175 a4.toNatClampNeg)) + (μ14 176 (μ14 168 11).toNatClampNeg)) - 48)) → vp_in a4 84 ∧ vp_in (μ14 168 11) 60 ∧ vp_in a4 84 ∧ ∀ μ23 : Mem, μ23 = um μ14 175 (upd (μ14 175) a4.toNatClampNeg ((((10 : Int32) * (μ14 175 a4.toNatClampNeg)) + (μ14 176 (μ14 168 11).toNatClampNeg)) - 48)) → ∀ μ24 : Mem, μ24 = um μ23 168 (upd (μ23 168) 11 ((μ23 168 11) + 1)) → B a3 a4 μ24))))
def x_X6_number_L69 (K : Int32 → Mem → Prop) : Nat → Int32 → Int32 → Mem → Prop
  | 0 => fun _ _ _ => False
  | n + 1 => fun a3 a4 μ => xb_X6_number_L69 K (x_X6_number_L69 K n) a3 a4 μ
set_option maxRecDepth 20000 in
theorem wb_X6_number_L69 {p : Program} {l : Launch} {e : Env} {s : State} {m : MethodId} {args : Array Value} {below : List Frame} {meth : Method} {c : Code} {D : va_G} {Y : Nat → ClassId} {ad : Nat → Nat} (C0 : CX D Y ad (PA ad) rm_X6_number 0 0 p s args m c cX6_number 5 RX6 wsX6_number) (hlk : meth.locks = false) (hret : meth.sig.returnType = (some .boolean)) (a3 : Int32) (a4 : Int32) (μ : Mem) (K : Int32 → Mem → Prop) (B : Int32 → Int32 → Mem → Prop) (hB : ∀ (a3 : Int32) (a4 : Int32) (μ : Mem), B a3 a4 μ → J p l e rm_X6_number s m args below meth c D Y ad (PA ad) 0 0 5 (MQ below (va_Qi K (BB D Y ad) (PA ad)) args s 0 0 (PA ad)) 69 [(0, .ref (ad 168)), (3, .int a3), (4, .int a4)] [] μ)  (hX : xb_X6_number_L69 K B a3 a4 μ) : J p l e rm_X6_number s m args below meth c D Y ad (PA ad) 0 0 5 (MQ below (va_Qi K (BB D Y ad) (PA ad)) args s 0 0 (PA ad)) 69 [(0, .ref (ad 168)), (3, .int a3), (4, .int a4)] [] μ := by
  refine j_aload_n C0 0 dX6_number_69 rfl rfl rfl ?_
  refine j_get6 C0 (v := .ref (ad 175)) 6 (rfl : kd 168 = 6) fw_X6_number_6 hw_X6_number_1 (fun _ h9 => h9) (by decide) rfl dX6_number_70 rfl ?_
  refine j_iload C0 2 dX6_number_73 rfl rfl ?_
  obtain ⟨h12, hX⟩ := hX
  refine j_iald C0 (n := 84) (kd_lt (rfl : kd 175 = 21) (by decide)) (ce21 (rfl : kd 175 = 21)) h12 dX6_number_75 rfl ?_
  refine j_if_le C0 (tgt := 160) dX6_number_76 (by decide) rfl (fun c13 => ?_) (fun c13 => ?_)
  · have hX := hX.1 c13
    refine j_iconst C0 1 dX6_number_160 (by decide) rfl ?_
    exact j_zret C0 hlk hret dX6_number_161 zb1 hX
  · have hX := hX.2 c13
    refine j_aload_n C0 0 dX6_number_79 rfl rfl rfl ?_
    refine j_bipush C0 48 dX6_number_80 (by decide) rfl ?_
    refine j_bipush C0 57 dX6_number_82 (by decide) rfl ?_
    refine j_callVi C0 2 [.int 48, .int 57] (c_X6_isSign 48 57  hX) dX6_number_84 gX6_number_X6_isSign rfl (by decide +kernel) ⟨⟨Nat.le_of_ble_eq_true rfl, Nat.le_of_ble_eq_true rfl⟩, rfl, rfl⟩ (kd_lt (rfl : kd 168 = 6) (by decide)) (ce6 (rfl : kd 168 = 6)) rfl rfl rfl (Nat.le_of_ble_eq_true rfl) rfl (fun r15 μ14 hX => ?_)
    refine j_if_eq C0 (tgt := 160) dX6_number_87 (by decide) rfl (fun c16 => ?_) (fun c16 => ?_)
    · have hX := hX.1 c16
      refine j_iconst C0 1 dX6_number_160 (by decide) rfl ?_
      exact j_zret C0 hlk hret dX6_number_161 zb1 hX
    · have hX := hX.2 c16
      refine j_bipush C0 10 dX6_number_90 (by decide) rfl ?_
      refine j_aload_n C0 0 dX6_number_92 rfl rfl rfl ?_
      refine j_get6 C0 (v := .ref (ad 175)) 6 (rfl : kd 168 = 6) fw_X6_number_6 hw_X6_number_1 (fun _ h9 => h9) (by decide) rfl dX6_number_93 rfl ?_
      refine j_iload C0 2 dX6_number_96 rfl rfl ?_
      obtain ⟨h17, hX⟩ := hX
      refine j_iald C0 (n := 84) (kd_lt (rfl : kd 175 = 21) (by decide)) (ce21 (rfl : kd 175 = 21)) h17 dX6_number_98 rfl ?_
      refine j_imul C0 dX6_number_99 rfl ?_
      refine j_aload_n C0 0 dX6_number_100 rfl rfl rfl ?_
      refine j_get6 C0 (v := .ref (ad 176)) 7 (rfl : kd 168 = 6) fw_X6_number_6 hw_X6_number_2 (fun _ h9 => h9) (by decide) rfl dX6_number_101 rfl ?_
      refine j_aload_n C0 0 dX6_number_104 rfl rfl rfl ?_
      refine j_get6 C0 (v := .int (μ14 168 11)) 11 (rfl : kd 168 = 6) fw_X6_number_6 hw_X6_number_3 (fun _ h9 => h9) (by decide) rfl dX6_number_105 rfl ?_
      obtain ⟨h18, hX⟩ := hX
      refine j_cald C0 (n := 60) (kd_lt (rfl : kd 176 = 17) (by decide)) (ce17 (rfl : kd 176 = 17)) h18 dX6_number_108 rfl ?_
      refine j_iadd C0 dX6_number_109 rfl ?_
      refine j_bipush C0 48 dX6_number_110 (by decide) rfl ?_
      refine j_isub C0 dX6_number_112 rfl ?_
      refine j_iload_n C0 1 dX6_number_113 rfl rfl rfl ?_
      refine j_icmp_gt C0 (tgt := 160) dX6_number_114 (by decide) rfl (fun c19 => ?_) (fun c19 => ?_)
      · have hX := hX.1 c19
        refine j_iconst C0 1 dX6_number_160 (by decide) rfl ?_
        exact j_zret C0 hlk hret dX6_number_161 zb1 hX
      · have hX := hX.2 c19
        refine j_aload_n C0 0 dX6_number_117 rfl rfl rfl ?_
        refine j_get6 C0 (v := .ref (ad 175)) 6 (rfl : kd 168 = 6) fw_X6_number_6 hw_X6_number_1 (fun _ h9 => h9) (by decide) rfl dX6_number_118 rfl ?_
        refine j_iload C0 2 dX6_number_121 rfl rfl ?_
        refine j_bipush C0 10 dX6_number_123 (by decide) rfl ?_
        refine j_aload_n C0 0 dX6_number_125 rfl rfl rfl ?_
        refine j_get6 C0 (v := .ref (ad 175)) 6 (rfl : kd 168 = 6) fw_X6_number_6 hw_X6_number_1 (fun _ h9 => h9) (by decide) rfl dX6_number_126 rfl ?_
        refine j_iload C0 2 dX6_number_129 rfl rfl ?_
        obtain ⟨h20, hX⟩ := hX
        refine j_iald C0 (n := 84) (kd_lt (rfl : kd 175 = 21) (by decide)) (ce21 (rfl : kd 175 = 21)) h20 dX6_number_131 rfl ?_
        refine j_imul C0 dX6_number_132 rfl ?_
        refine j_aload_n C0 0 dX6_number_133 rfl rfl rfl ?_
        refine j_get6 C0 (v := .ref (ad 176)) 7 (rfl : kd 168 = 6) fw_X6_number_6 hw_X6_number_2 (fun _ h9 => h9) (by decide) rfl dX6_number_134 rfl ?_
        refine j_aload_n C0 0 dX6_number_137 rfl rfl rfl ?_
        refine j_get6 C0 (v := .int (μ14 168 11)) 11 (rfl : kd 168 = 6) fw_X6_number_6 hw_X6_number_3 (fun _ h9 => h9) (by decide) rfl dX6_number_138 rfl ?_
        obtain ⟨h21, hX⟩ := hX
        refine j_cald C0 (n := 60) (kd_lt (rfl : kd 176 = 17) (by decide)) (ce17 (rfl : kd 176 = 17)) h21 dX6_number_141 rfl ?_
        refine j_iadd C0 dX6_number_142 rfl ?_
        refine j_bipush C0 48 dX6_number_143 (by decide) rfl ?_
        refine j_isub C0 dX6_number_145 rfl ?_
        obtain ⟨h22, hX⟩ := hX
        refine j_iast C0 (n := 84) (kd_lt (rfl : kd 175 = 21) (by decide)) (ce21 (rfl : kd 175 = 21)) h22 dX6_number_146 rfl ?_
        refine j_nm (fun μ23 e_μ23 => ?_)
        have hX := hX μ23 e_μ23
        refine j_aload_n C0 0 dX6_number_147 rfl rfl rfl ?_
        refine j_dup C0 dX6_number_148 rfl rfl ?_
        refine j_get6 C0 (v := .int (μ23 168 11)) 11 (rfl : kd 168 = 6) fw_X6_number_6 hw_X6_number_3 (fun _ h9 => h9) (by decide) rfl dX6_number_149 rfl ?_
        refine j_iconst C0 1 dX6_number_152 (by decide) rfl ?_
        refine j_iadd C0 dX6_number_153 rfl ?_
        refine j_put6_11 C0 (rfl : kd 168 = 6) fw_X6_number_6 hw_X6_number_3 dX6_number_154 rfl ?_
        refine j_nm (fun μ24 e_μ24 => ?_)
        have hX := hX μ24 e_μ24
        refine j_goto C0 (tgt := 69) dX6_number_157 (by decide) ?_
        exact j_sub (l' := [(0, .ref (ad 168)), (3, .int a3), (4, .int a4)]) [0, 1, 2] rfl (hB a3 a4 μ24  hX)
theorem w_X6_number_L69 {p : Program} {l : Launch} {e : Env} {s : State} {m : MethodId} {args : Array Value} {below : List Frame} {meth : Method} {c : Code} {D : va_G} {Y : Nat → ClassId} {ad : Nat → Nat} (C0 : CX D Y ad (PA ad) rm_X6_number 0 0 p s args m c cX6_number 5 RX6 wsX6_number) (hlk : meth.locks = false) (hret : meth.sig.returnType = (some .boolean)) (K : Int32 → Mem → Prop) : ∀ (n : Nat) (a3 : Int32) (a4 : Int32) (μ : Mem)  (hX : x_X6_number_L69 K n a3 a4 μ), J p l e rm_X6_number s m args below meth c D Y ad (PA ad) 0 0 5 (MQ below (va_Qi K (BB D Y ad) (PA ad)) args s 0 0 (PA ad)) 69 [(0, .ref (ad 168)), (3, .int a3), (4, .int a4)] [] μ
  | 0, a3, a4, μ, hX => hX.elim
  | n + 1, a3, a4, μ, hX => wb_X6_number_L69 C0 hlk hret a3 a4 μ K (x_X6_number_L69 K n) (fun a3 a4 μ  hx => w_X6_number_L69 C0 hlk hret K n a3 a4 μ  hx)  hX
def x_X6_number_L30 (K : Int32 → Mem → Prop) (a3 : Int32) (a4 : Int32) (as0 : Int32) (μ : Mem) : Prop :=
  x_X6_isSign as0 57 μ (fun r6 μ5 => (r6 = 0 → K 0 μ5) ∧ (¬ (r6 = 0) → vp_in (μ5 168 11) 60 ∧ vp_in a4 84 ∧ ∀ μ10 : Mem, μ10 = um μ5 175 (upd (μ5 175) a4.toNatClampNeg ((μ5 176 (μ5 168 11).toNatClampNeg) - 48)) → ∀ μ11 : Mem, μ11 = um μ10 168 (upd (μ10 168) 11 ((μ10 168 11) + 1)) → ∃ n : Nat, x_X6_number_L69 K n a3 a4 μ11))
set_option maxRecDepth 20000 in
theorem w_X6_number_L30 {p : Program} {l : Launch} {e : Env} {s : State} {m : MethodId} {args : Array Value} {below : List Frame} {meth : Method} {c : Code} {D : va_G} {Y : Nat → ClassId} {ad : Nat → Nat} (C0 : CX D Y ad (PA ad) rm_X6_number 0 0 p s args m c cX6_number 5 RX6 wsX6_number) (hlk : meth.locks = false) (hret : meth.sig.returnType = (some .boolean)) (a3 : Int32) (a4 : Int32) (as0 : Int32) (μ : Mem) (K : Int32 → Mem → Prop)  (hX : x_X6_number_L30 K a3 a4 as0 μ) : J p l e rm_X6_number s m args below meth c D Y ad (PA ad) 0 0 5 (MQ below (va_Qi K (BB D Y ad) (PA ad)) args s 0 0 (PA ad)) 30 [(0, .ref (ad 168)), (3, .int a3), (4, .int a4)] [.int as0, .ref (ad 168)] μ := by
  refine j_bipush C0 57 dX6_number_30 (by decide) rfl ?_
  refine j_callVi C0 2 [.int as0, .int 57] (c_X6_isSign as0 57  hX) dX6_number_32 gX6_number_X6_isSign rfl (by decide +kernel) ⟨⟨Nat.le_of_ble_eq_true rfl, Nat.le_of_ble_eq_true rfl⟩, rfl, rfl⟩ (kd_lt (rfl : kd 168 = 6) (by decide)) (ce6 (rfl : kd 168 = 6)) rfl rfl rfl (Nat.le_of_ble_eq_true rfl) rfl (fun r6 μ5 hX => ?_)
  refine j_if_ne C0 (tgt := 40) dX6_number_35 (by decide) rfl (fun c7 => ?_) (fun c7 => ?_)
  · have hX := hX.1 c7
    refine j_iconst C0 0 dX6_number_38 (by decide) rfl ?_
    exact j_zret C0 hlk hret dX6_number_39 zb0 hX
  · have hX := hX.2 c7
    refine j_aload_n C0 0 dX6_number_40 rfl rfl rfl ?_
    refine j_get6 C0 (v := .ref (ad 175)) 6 (rfl : kd 168 = 6) fw_X6_number_6 hw_X6_number_1 (fun _ h9 => h9) (by decide) rfl dX6_number_41 rfl ?_
    refine j_iload C0 2 dX6_number_44 rfl rfl ?_
    refine j_aload_n C0 0 dX6_number_46 rfl rfl rfl ?_
    refine j_get6 C0 (v := .ref (ad 176)) 7 (rfl : kd 168 = 6) fw_X6_number_6 hw_X6_number_2 (fun _ h9 => h9) (by decide) rfl dX6_number_47 rfl ?_
    refine j_aload_n C0 0 dX6_number_50 rfl rfl rfl ?_
    refine j_get6 C0 (v := .int (μ5 168 11)) 11 (rfl : kd 168 = 6) fw_X6_number_6 hw_X6_number_3 (fun _ h9 => h9) (by decide) rfl dX6_number_51 rfl ?_
    obtain ⟨h8, hX⟩ := hX
    refine j_cald C0 (n := 60) (kd_lt (rfl : kd 176 = 17) (by decide)) (ce17 (rfl : kd 176 = 17)) h8 dX6_number_54 rfl ?_
    refine j_bipush C0 48 dX6_number_55 (by decide) rfl ?_
    refine j_isub C0 dX6_number_57 rfl ?_
    obtain ⟨h9, hX⟩ := hX
    refine j_iast C0 (n := 84) (kd_lt (rfl : kd 175 = 21) (by decide)) (ce21 (rfl : kd 175 = 21)) h9 dX6_number_58 rfl ?_
    refine j_nm (fun μ10 e_μ10 => ?_)
    have hX := hX μ10 e_μ10
    refine j_aload_n C0 0 dX6_number_59 rfl rfl rfl ?_
    refine j_dup C0 dX6_number_60 rfl rfl ?_
    refine j_get6 C0 (v := .int (μ10 168 11)) 11 (rfl : kd 168 = 6) fw_X6_number_6 hw_X6_number_3 (fun _ h9 => h9) (by decide) rfl dX6_number_61 rfl ?_
    refine j_iconst C0 1 dX6_number_64 (by decide) rfl ?_
    refine j_iadd C0 dX6_number_65 rfl ?_
    refine j_put6_11 C0 (rfl : kd 168 = 6) fw_X6_number_6 hw_X6_number_3 dX6_number_66 rfl ?_
    refine j_nm (fun μ11 e_μ11 => ?_)
    have hX := hX μ11 e_μ11
    obtain ⟨n, hX⟩ := hX
    exact j_sub (l' := [(0, .ref (ad 168)), (3, .int a3), (4, .int a4)]) [0, 1, 2] rfl (w_X6_number_L69 C0 hlk hret K n a3 a4 μ11  hX)
def x_X6_number (a1 : Int32) (a2 : Int32) (a3 : Int32) (μ : Mem) (K : Int32 → Mem → Prop) : Prop :=
  ∀ v1 : Int32, v1 = (((4 : Int32) * (μ 168 10)) + a1) → vp_in v1 84 ∧ ∀ μ3 : Mem, μ3 = um μ 175 (upd (μ 175) v1.toNatClampNeg 0) → (a2 = 0 → x_X6_number_L30 K a3 v1 48 μ3) ∧ (¬ (a2 = 0) → x_X6_number_L30 K a3 v1 49 μ3)
set_option maxRecDepth 20000 in
theorem w_X6_number {p : Program} {l : Launch} {e : Env} {s : State} {m : MethodId} {args : Array Value} {below : List Frame} {meth : Method} {c : Code} {D : va_G} {Y : Nat → ClassId} {ad : Nat → Nat} (C0 : CX D Y ad (PA ad) rm_X6_number 0 0 p s args m c cX6_number 5 RX6 wsX6_number) (hlk : meth.locks = false) (hret : meth.sig.returnType = (some .boolean)) (a1 : Int32) (a2 : Int32) (a3 : Int32) (μ : Mem) (K : Int32 → Mem → Prop)  (hX : x_X6_number a1 a2 a3 μ K) : J p l e rm_X6_number s m args below meth c D Y ad (PA ad) 0 0 5 (MQ below (va_Qi K (BB D Y ad) (PA ad)) args s 0 0 (PA ad)) 0 [(0, .ref (ad 168)), (1, .int a1), (2, .int a2), (3, .int a3)] [] μ := by
  refine j_iconst C0 4 dX6_number_0 (by decide) rfl ?_
  refine j_aload_n C0 0 dX6_number_1 rfl rfl rfl ?_
  refine j_get6 C0 (v := .int (μ 168 10)) 10 (rfl : kd 168 = 6) fw_X6_number_6 hw_X6_number_0 (fun _ h9 => h9) (by decide) rfl dX6_number_2 rfl ?_
  refine j_imul C0 dX6_number_5 rfl ?_
  refine j_iload_n C0 1 dX6_number_6 rfl rfl rfl ?_
  refine j_iadd C0 dX6_number_7 rfl ?_
  refine j_topi (fun v1 e_v1 => ?_)
  have hX := hX v1 e_v1
  refine j_istore C0 [(4, .int v1), (0, .ref (ad 168)), (1, .int a1), (2, .int a2), (3, .int a3)] dX6_number_8 (by decide) rfl rfl ?_
  refine j_aload_n C0 1 dX6_number_10 rfl rfl rfl ?_
  refine j_get6 C0 (v := .ref (ad 175)) 6 (rfl : kd 168 = 6) fw_X6_number_6 hw_X6_number_1 (fun _ h9 => h9) (by decide) rfl dX6_number_11 rfl ?_
  refine j_iload C0 0 dX6_number_14 rfl rfl ?_
  refine j_iconst C0 0 dX6_number_16 (by decide) rfl ?_
  obtain ⟨h2, hX⟩ := hX
  refine j_iast C0 (n := 84) (kd_lt (rfl : kd 175 = 21) (by decide)) (ce21 (rfl : kd 175 = 21)) h2 dX6_number_17 rfl ?_
  refine j_nm (fun μ3 e_μ3 => ?_)
  have hX := hX μ3 e_μ3
  refine j_aload_n C0 1 dX6_number_18 rfl rfl rfl ?_
  refine j_iload_n C0 3 dX6_number_19 rfl rfl rfl ?_
  refine j_if_ne C0 (tgt := 28) dX6_number_20 (by decide) rfl (fun c4 => ?_) (fun c4 => ?_)
  · have hX := hX.1 c4
    refine j_bipush C0 48 dX6_number_23 (by decide) rfl ?_
    refine j_goto C0 (tgt := 30) dX6_number_25 (by decide) ?_
    exact j_sub (l' := [(0, .ref (ad 168)), (3, .int a3), (4, .int v1)]) [1, 4, 0] rfl (w_X6_number_L30 C0 hlk hret a3 v1 48 μ3 K  hX)
  · have hX := hX.2 c4
    refine j_bipush C0 49 dX6_number_28 (by decide) rfl ?_
    exact j_sub (l' := [(0, .ref (ad 168)), (3, .int a3), (4, .int v1)]) [1, 4, 0] rfl (w_X6_number_L30 C0 hlk hret a3 v1 49 μ3 K  hX)
theorem c_X6_number {l : Launch} {D : va_G} {Y : Nat → ClassId} {ad : Nat → Nat} (a1 : Int32) (a2 : Int32) (a3 : Int32) {μ : Mem} {K : Int32 → Mem → Prop}  (hX : x_X6_number a1 a2 a3 μ K) : ConI l yX6_number wsX6_number rm_X6_number [.ref (ad 168), .int a1, .int a2, .int a3] D Y ad μ K := conI_of (cc := cX6_number) (maxL := 5) (ret := (some .boolean)) (own := RX6) _ (by decide +kernel) rfl rfl (Nat.le_of_ble_eq_true rfl) (fun p e s m args below meth c C0 hlk hret => j_sub (l' := [(0, .ref (ad 168)), (1, .int a1), (2, .int a2), (3, .int a3)]) [0, 1, 2, 3] rfl (w_X6_number C0 hlk hret a1 a2 a3 μ K  hX))
/-! PhaseTonesModel.digit(I)Z -/
abbrev rm_X6_digit : Room := rmf 1 22
theorem fw_X6_digit_6 : ∀ w ∈ wsX60, w ∈ wsX6_digit := by decide +kernel
theorem hw_X6_digit_0 : Cond.fieldLink RX6 29 RX6 (TX6 6).2.1 (TX6 6).2.2.1 ∈ wsX6_digit := by decide +kernel
theorem hw_X6_digit_1 : Cond.fieldLink RX6 109 RX6 (TX6 10).2.1 (TX6 10).2.2.1 ∈ wsX6_digit := by decide +kernel
theorem hw_X6_digit_2 : Cond.fieldLink RX6 99 RX6 (TX6 11).2.1 (TX6 11).2.2.1 ∈ wsX6_digit := by decide +kernel
theorem hw_X6_digit_3 : Cond.fieldLink RX6 32 RX6 (TX6 7).2.1 (TX6 7).2.2.1 ∈ wsX6_digit := by decide +kernel
def x_X6_digit_L41 (K : Int32 → Mem → Prop) (a2 : Int32) (as0 : Int32) (as1 : Int32) (μ : Mem) : Prop :=
  vp_in as1 84 ∧ ∀ μ5 : Mem, μ5 = um μ 175 (upd (μ 175) as1.toNatClampNeg as0) → (a2 = 0 → ∀ μ7 : Mem, μ7 = um μ5 168 (upd (μ5 168) 11 ((μ5 168 11) + 0)) → zb a2 ∧ K a2 μ7) ∧ (¬ (a2 = 0) → ∀ μ8 : Mem, μ8 = um μ5 168 (upd (μ5 168) 11 ((μ5 168 11) + 1)) → zb a2 ∧ K a2 μ8)
set_option maxRecDepth 20000 in
theorem w_X6_digit_L41 {p : Program} {l : Launch} {e : Env} {s : State} {m : MethodId} {args : Array Value} {below : List Frame} {meth : Method} {c : Code} {D : va_G} {Y : Nat → ClassId} {ad : Nat → Nat} (C0 : CX D Y ad (PA ad) rm_X6_digit 0 0 p s args m c cX6_digit 3 RX6 wsX6_digit) (hlk : meth.locks = false) (hret : meth.sig.returnType = (some .boolean)) (a2 : Int32) (as0 : Int32) (as1 : Int32) (μ : Mem) (K : Int32 → Mem → Prop)  (hX : x_X6_digit_L41 K a2 as0 as1 μ) : J p l e rm_X6_digit s m args below meth c D Y ad (PA ad) 0 0 3 (MQ below (va_Qi K (BB D Y ad) (PA ad)) args s 0 0 (PA ad)) 41 [(0, .ref (ad 168)), (2, .int a2)] [.int as0, .int as1, .ref (ad 175)] μ := by
  obtain ⟨h4, hX⟩ := hX
  refine j_iast C0 (n := 84) (kd_lt (rfl : kd 175 = 21) (by decide)) (ce21 (rfl : kd 175 = 21)) h4 dX6_digit_41 rfl ?_
  refine j_nm (fun μ5 e_μ5 => ?_)
  have hX := hX μ5 e_μ5
  refine j_aload_n C0 0 dX6_digit_42 rfl rfl rfl ?_
  refine j_dup C0 dX6_digit_43 rfl rfl ?_
  refine j_get6 C0 (v := .int (μ5 168 11)) 11 (rfl : kd 168 = 6) fw_X6_digit_6 hw_X6_digit_2 (fun _ h9 => h9) (by decide) rfl dX6_digit_44 rfl ?_
  refine j_iload_n C0 1 dX6_digit_47 rfl rfl rfl ?_
  refine j_if_eq C0 (tgt := 55) dX6_digit_48 (by decide) rfl (fun c6 => ?_) (fun c6 => ?_)
  · have hX := hX.1 c6
    refine j_iconst C0 0 dX6_digit_55 (by decide) rfl ?_
    refine j_iadd C0 dX6_digit_56 rfl ?_
    refine j_put6_11 C0 (rfl : kd 168 = 6) fw_X6_digit_6 hw_X6_digit_2 dX6_digit_57 rfl ?_
    refine j_nm (fun μ7 e_μ7 => ?_)
    have hX := hX μ7 e_μ7
    refine j_iload_n C0 1 dX6_digit_60 rfl rfl rfl ?_
    exact j_zret C0 hlk hret dX6_digit_61 hX.1 hX.2
  · have hX := hX.2 c6
    refine j_iconst C0 1 dX6_digit_51 (by decide) rfl ?_
    refine j_goto C0 (tgt := 56) dX6_digit_52 (by decide) ?_
    refine j_iadd C0 dX6_digit_56 rfl ?_
    refine j_put6_11 C0 (rfl : kd 168 = 6) fw_X6_digit_6 hw_X6_digit_2 dX6_digit_57 rfl ?_
    refine j_nm (fun μ8 e_μ8 => ?_)
    have hX := hX μ8 e_μ8
    refine j_iload_n C0 1 dX6_digit_60 rfl rfl rfl ?_
    exact j_zret C0 hlk hret dX6_digit_61 hX.1 hX.2
def x_X6_digit (a1 : Int32) (μ : Mem) (K : Int32 → Mem → Prop) : Prop :=
  x_X6_isSign 48 51 μ (fun r2 μ1 => (r2 = 0 → x_X6_digit_L41 K r2 0 (((4 : Int32) * (μ1 168 10)) + a1) μ1) ∧ (¬ (r2 = 0) → vp_in (μ1 168 11) 60 ∧ x_X6_digit_L41 K r2 ((μ1 176 (μ1 168 11).toNatClampNeg) - 48) (((4 : Int32) * (μ1 168 10)) + a1) μ1))
set_option maxRecDepth 20000 in
theorem w_X6_digit {p : Program} {l : Launch} {e : Env} {s : State} {m : MethodId} {args : Array Value} {below : List Frame} {meth : Method} {c : Code} {D : va_G} {Y : Nat → ClassId} {ad : Nat → Nat} (C0 : CX D Y ad (PA ad) rm_X6_digit 0 0 p s args m c cX6_digit 3 RX6 wsX6_digit) (hlk : meth.locks = false) (hret : meth.sig.returnType = (some .boolean)) (a1 : Int32) (μ : Mem) (K : Int32 → Mem → Prop)  (hX : x_X6_digit a1 μ K) : J p l e rm_X6_digit s m args below meth c D Y ad (PA ad) 0 0 3 (MQ below (va_Qi K (BB D Y ad) (PA ad)) args s 0 0 (PA ad)) 0 [(0, .ref (ad 168)), (1, .int a1)] [] μ := by
  refine j_aload_n C0 0 dX6_digit_0 rfl rfl rfl ?_
  refine j_bipush C0 48 dX6_digit_1 (by decide) rfl ?_
  refine j_bipush C0 51 dX6_digit_3 (by decide) rfl ?_
  refine j_callVi C0 2 [.int 48, .int 51] (c_X6_isSign 48 51  hX) dX6_digit_5 gX6_digit_X6_isSign rfl (by decide +kernel) ⟨⟨Nat.le_of_ble_eq_true rfl, Nat.le_of_ble_eq_true rfl⟩, rfl, rfl⟩ (kd_lt (rfl : kd 168 = 6) (by decide)) (ce6 (rfl : kd 168 = 6)) rfl rfl rfl (Nat.le_of_ble_eq_true rfl) rfl (fun r2 μ1 hX => ?_)
  refine j_istore_n C0 [(2, .int r2), (0, .ref (ad 168)), (1, .int a1)] dX6_digit_8 rfl (by decide) rfl rfl ?_
  refine j_aload_n C0 1 dX6_digit_9 rfl rfl rfl ?_
  refine j_get6 C0 (v := .ref (ad 175)) 6 (rfl : kd 168 = 6) fw_X6_digit_6 hw_X6_digit_0 (fun _ h9 => h9) (by decide) rfl dX6_digit_10 rfl ?_
  refine j_iconst C0 4 dX6_digit_13 (by decide) rfl ?_
  refine j_aload_n C0 1 dX6_digit_14 rfl rfl rfl ?_
  refine j_get6 C0 (v := .int (μ1 168 10)) 10 (rfl : kd 168 = 6) fw_X6_digit_6 hw_X6_digit_1 (fun _ h9 => h9) (by decide) rfl dX6_digit_15 rfl ?_
  refine j_imul C0 dX6_digit_18 rfl ?_
  refine j_iload_n C0 2 dX6_digit_19 rfl rfl rfl ?_
  refine j_iadd C0 dX6_digit_20 rfl ?_
  refine j_iload_n C0 0 dX6_digit_21 rfl rfl rfl ?_
  refine j_if_eq C0 (tgt := 40) dX6_digit_22 (by decide) rfl (fun c3 => ?_) (fun c3 => ?_)
  · have hX := hX.1 c3
    refine j_iconst C0 0 dX6_digit_40 (by decide) rfl ?_
    exact j_sub (l' := [(0, .ref (ad 168)), (2, .int r2)]) [1, 0] rfl (w_X6_digit_L41 C0 hlk hret r2 0 (((4 : Int32) * (μ1 168 10)) + a1) μ1 K  hX)
  · have hX := hX.2 c3
    refine j_aload_n C0 1 dX6_digit_25 rfl rfl rfl ?_
    refine j_get6 C0 (v := .ref (ad 176)) 7 (rfl : kd 168 = 6) fw_X6_digit_6 hw_X6_digit_3 (fun _ h9 => h9) (by decide) rfl dX6_digit_26 rfl ?_
    refine j_aload_n C0 1 dX6_digit_29 rfl rfl rfl ?_
    refine j_get6 C0 (v := .int (μ1 168 11)) 11 (rfl : kd 168 = 6) fw_X6_digit_6 hw_X6_digit_2 (fun _ h9 => h9) (by decide) rfl dX6_digit_30 rfl ?_
    obtain ⟨h9, hX⟩ := hX
    refine j_cald C0 (n := 60) (kd_lt (rfl : kd 176 = 17) (by decide)) (ce17 (rfl : kd 176 = 17)) h9 dX6_digit_33 rfl ?_
    refine j_bipush C0 48 dX6_digit_34 (by decide) rfl ?_
    refine j_isub C0 dX6_digit_36 rfl ?_
    refine j_goto C0 (tgt := 41) dX6_digit_37 (by decide) ?_
    exact j_sub (l' := [(0, .ref (ad 168)), (2, .int r2)]) [1, 0] rfl (w_X6_digit_L41 C0 hlk hret r2 ((μ1 176 (μ1 168 11).toNatClampNeg) - 48) (((4 : Int32) * (μ1 168 10)) + a1) μ1 K  hX)
theorem c_X6_digit {l : Launch} {D : va_G} {Y : Nat → ClassId} {ad : Nat → Nat} (a1 : Int32) {μ : Mem} {K : Int32 → Mem → Prop}  (hX : x_X6_digit a1 μ K) : ConI l yX6_digit wsX6_digit rm_X6_digit [.ref (ad 168), .int a1] D Y ad μ K := conI_of (cc := cX6_digit) (maxL := 3) (ret := (some .boolean)) (own := RX6) _ (by decide +kernel) rfl rfl (Nat.le_of_ble_eq_true rfl) (fun p e s m args below meth c C0 hlk hret => j_sub (l' := [(0, .ref (ad 168)), (1, .int a1)]) [0, 1] rfl (w_X6_digit C0 hlk hret a1 μ K  hX))
/-! PhaseTonesModel.readsRest()Z -/
abbrev rm_X6_readsRest : Room := rmf 2 46
theorem fw_X6_readsRest_6 : ∀ w ∈ wsX60, w ∈ wsX6_readsRest := by decide +kernel
theorem hw_X6_readsRest_0 : Cond.fieldLink RX6 29 RX6 (TX6 6).2.1 (TX6 6).2.2.1 ∈ wsX6_readsRest := by decide +kernel
theorem hw_X6_readsRest_1 : Cond.fieldLink RX6 109 RX6 (TX6 10).2.1 (TX6 10).2.2.1 ∈ wsX6_readsRest := by decide +kernel
theorem hw_X6_readsRest_2 : Cond.fieldLink RX6 99 RX6 (TX6 11).2.1 (TX6 11).2.2.1 ∈ wsX6_readsRest := by decide +kernel
theorem hw_X6_readsRest_3 : Cond.fieldLink RX6 102 RX6 (TX6 8).2.1 (TX6 8).2.2.1 ∈ wsX6_readsRest := by decide +kernel
theorem hw_X6_readsRest_4 : Cond.constant RX6 65 (65535) ∈ wsX6_readsRest := by decide +kernel
theorem hw_X6_readsRest_5 : Cond.fieldLink RX6 32 RX6 (TX6 7).2.1 (TX6 7).2.2.1 ∈ wsX6_readsRest := by decide +kernel
def x_X6_readsRest_L34 (K : Int32 → Mem → Prop) (as0 : Int32) (as1 : Int32) (μ : Mem) : Prop :=
  vp_in as1 84 ∧ ∀ μ3 : Mem, μ3 = um μ 175 (upd (μ 175) as1.toNatClampNeg as0) → x_X6_accepts 115 μ3 (fun r5 μ4 => (r5 = 0 → x_X6_accepts 116 μ4 (fun r8 μ7 => (r8 = 0 → x_X6_accepts 118 μ7 (fun r11 μ10 => (r11 = 0 → x_X6_accepts 62 μ10 (fun r14 μ13 => (r14 = 0 → x_X6_accepts 111 μ13 (fun r17 μ16 => zb r17 ∧ K r17 μ16)) ∧ (¬ (r14 = 0) → x_X6_number 2 0 65535 μ13 (fun r19 μ18 => (r19 = 0 → K 0 μ18) ∧ (¬ (r19 = 0) → x_X6_accepts 58 μ18 (fun r22 μ21 => (r22 = 0 → K 0 μ21) ∧ (¬ (r22 = 0) → x_X6_number 3 1 999 μ21 (fun r25 μ24 => (r25 = 0 → K 0 μ24) ∧ (¬ (r25 = 0) → K 1 μ24))))))))) ∧ (¬ (r11 = 0) → x_X6_number 2 0 16 μ10 (fun r28 μ27 => zb r28 ∧ K r28 μ27)))) ∧ (¬ (r8 = 0) → x_X6_digit 2 μ7 (fun r30 μ29 => zb r30 ∧ K r30 μ29)))) ∧ (¬ (r5 = 0) → x_X6_number 2 0 65535 μ4 (fun r32 μ31 => zb r32 ∧ K r32 μ31)))
set_option maxRecDepth 20000 in
theorem w_X6_readsRest_L34 {p : Program} {l : Launch} {e : Env} {s : State} {m : MethodId} {args : Array Value} {below : List Frame} {meth : Method} {c : Code} {D : va_G} {Y : Nat → ClassId} {ad : Nat → Nat} (C0 : CX D Y ad (PA ad) rm_X6_readsRest 0 0 p s args m c cX6_readsRest 1 RX6 wsX6_readsRest) (hlk : meth.locks = false) (hret : meth.sig.returnType = (some .boolean)) (as0 : Int32) (as1 : Int32) (μ : Mem) (K : Int32 → Mem → Prop)  (hX : x_X6_readsRest_L34 K as0 as1 μ) : J p l e rm_X6_readsRest s m args below meth c D Y ad (PA ad) 0 0 1 (MQ below (va_Qi K (BB D Y ad) (PA ad)) args s 0 0 (PA ad)) 34 [(0, .ref (ad 168))] [.int as0, .int as1, .ref (ad 175)] μ := by
  obtain ⟨h2, hX⟩ := hX
  refine j_iast C0 (n := 84) (kd_lt (rfl : kd 175 = 21) (by decide)) (ce21 (rfl : kd 175 = 21)) h2 dX6_readsRest_34 rfl ?_
  refine j_nm (fun μ3 e_μ3 => ?_)
  have hX := hX μ3 e_μ3
  refine j_aload_n C0 0 dX6_readsRest_35 rfl rfl rfl ?_
  refine j_bipush C0 115 dX6_readsRest_36 (by decide) rfl ?_
  refine j_callVi C0 1 [.int 115] (c_X6_accepts 115  hX) dX6_readsRest_38 gX6_readsRest_X6_accepts rfl (by decide +kernel) ⟨⟨Nat.le_of_ble_eq_true rfl, Nat.le_of_ble_eq_true rfl⟩, rfl, rfl⟩ (kd_lt (rfl : kd 168 = 6) (by decide)) (ce6 (rfl : kd 168 = 6)) rfl rfl rfl (Nat.le_of_ble_eq_true rfl) rfl (fun r5 μ4 hX => ?_)
  refine j_if_eq C0 (tgt := 53) dX6_readsRest_41 (by decide) rfl (fun c6 => ?_) (fun c6 => ?_)
  · have hX := hX.1 c6
    refine j_aload_n C0 0 dX6_readsRest_53 rfl rfl rfl ?_
    refine j_bipush C0 116 dX6_readsRest_54 (by decide) rfl ?_
    refine j_callVi C0 1 [.int 116] (c_X6_accepts 116  hX) dX6_readsRest_56 gX6_readsRest_X6_accepts rfl (by decide +kernel) ⟨⟨Nat.le_of_ble_eq_true rfl, Nat.le_of_ble_eq_true rfl⟩, rfl, rfl⟩ (kd_lt (rfl : kd 168 = 6) (by decide)) (ce6 (rfl : kd 168 = 6)) rfl rfl rfl (Nat.le_of_ble_eq_true rfl) rfl (fun r8 μ7 hX => ?_)
    refine j_if_eq C0 (tgt := 68) dX6_readsRest_59 (by decide) rfl (fun c9 => ?_) (fun c9 => ?_)
    · have hX := hX.1 c9
      refine j_aload_n C0 0 dX6_readsRest_68 rfl rfl rfl ?_
      refine j_bipush C0 118 dX6_readsRest_69 (by decide) rfl ?_
      refine j_callVi C0 1 [.int 118] (c_X6_accepts 118  hX) dX6_readsRest_71 gX6_readsRest_X6_accepts rfl (by decide +kernel) ⟨⟨Nat.le_of_ble_eq_true rfl, Nat.le_of_ble_eq_true rfl⟩, rfl, rfl⟩ (kd_lt (rfl : kd 168 = 6) (by decide)) (ce6 (rfl : kd 168 = 6)) rfl rfl rfl (Nat.le_of_ble_eq_true rfl) rfl (fun r11 μ10 hX => ?_)
      refine j_if_eq C0 (tgt := 86) dX6_readsRest_74 (by decide) rfl (fun c12 => ?_) (fun c12 => ?_)
      · have hX := hX.1 c12
        refine j_aload_n C0 0 dX6_readsRest_86 rfl rfl rfl ?_
        refine j_bipush C0 62 dX6_readsRest_87 (by decide) rfl ?_
        refine j_callVi C0 1 [.int 62] (c_X6_accepts 62  hX) dX6_readsRest_89 gX6_readsRest_X6_accepts rfl (by decide +kernel) ⟨⟨Nat.le_of_ble_eq_true rfl, Nat.le_of_ble_eq_true rfl⟩, rfl, rfl⟩ (kd_lt (rfl : kd 168 = 6) (by decide)) (ce6 (rfl : kd 168 = 6)) rfl rfl rfl (Nat.le_of_ble_eq_true rfl) rfl (fun r14 μ13 hX => ?_)
        refine j_if_eq C0 (tgt := 133) dX6_readsRest_92 (by decide) rfl (fun c15 => ?_) (fun c15 => ?_)
        · have hX := hX.1 c15
          refine j_aload_n C0 0 dX6_readsRest_133 rfl rfl rfl ?_
          refine j_bipush C0 111 dX6_readsRest_134 (by decide) rfl ?_
          refine j_callVi C0 1 [.int 111] (c_X6_accepts 111  hX) dX6_readsRest_136 gX6_readsRest_X6_accepts rfl (by decide +kernel) ⟨⟨Nat.le_of_ble_eq_true rfl, Nat.le_of_ble_eq_true rfl⟩, rfl, rfl⟩ (kd_lt (rfl : kd 168 = 6) (by decide)) (ce6 (rfl : kd 168 = 6)) rfl rfl rfl (Nat.le_of_ble_eq_true rfl) rfl (fun r17 μ16 hX => ?_)
          exact j_zret C0 hlk hret dX6_readsRest_139 hX.1 hX.2
        · have hX := hX.2 c15
          refine j_aload_n C0 0 dX6_readsRest_95 rfl rfl rfl ?_
          refine j_iconst C0 2 dX6_readsRest_96 (by decide) rfl ?_
          refine j_iconst C0 0 dX6_readsRest_97 (by decide) rfl ?_
          refine j_ldc C0 65535 dX6_readsRest_98 hw_X6_readsRest_4 rfl ?_
          refine j_callVi C0 3 [.int 2, .int 0, .int 65535] (c_X6_number 2 0 65535  hX) dX6_readsRest_100 gX6_readsRest_X6_number rfl (by decide +kernel) ⟨⟨Nat.le_of_ble_eq_true rfl, Nat.le_of_ble_eq_true rfl⟩, rfl, rfl⟩ (kd_lt (rfl : kd 168 = 6) (by decide)) (ce6 (rfl : kd 168 = 6)) rfl rfl rfl (Nat.le_of_ble_eq_true rfl) rfl (fun r19 μ18 hX => ?_)
          refine j_if_eq C0 (tgt := 131) dX6_readsRest_103 (by decide) rfl (fun c20 => ?_) (fun c20 => ?_)
          · have hX := hX.1 c20
            refine j_iconst C0 0 dX6_readsRest_131 (by decide) rfl ?_
            exact j_zret C0 hlk hret dX6_readsRest_132 zb0 hX
          · have hX := hX.2 c20
            refine j_aload_n C0 0 dX6_readsRest_106 rfl rfl rfl ?_
            refine j_bipush C0 58 dX6_readsRest_107 (by decide) rfl ?_
            refine j_callVi C0 1 [.int 58] (c_X6_accepts 58  hX) dX6_readsRest_109 gX6_readsRest_X6_accepts rfl (by decide +kernel) ⟨⟨Nat.le_of_ble_eq_true rfl, Nat.le_of_ble_eq_true rfl⟩, rfl, rfl⟩ (kd_lt (rfl : kd 168 = 6) (by decide)) (ce6 (rfl : kd 168 = 6)) rfl rfl rfl (Nat.le_of_ble_eq_true rfl) rfl (fun r22 μ21 hX => ?_)
            refine j_if_eq C0 (tgt := 131) dX6_readsRest_112 (by decide) rfl (fun c23 => ?_) (fun c23 => ?_)
            · have hX := hX.1 c23
              refine j_iconst C0 0 dX6_readsRest_131 (by decide) rfl ?_
              exact j_zret C0 hlk hret dX6_readsRest_132 zb0 hX
            · have hX := hX.2 c23
              refine j_aload_n C0 0 dX6_readsRest_115 rfl rfl rfl ?_
              refine j_iconst C0 3 dX6_readsRest_116 (by decide) rfl ?_
              refine j_iconst C0 1 dX6_readsRest_117 (by decide) rfl ?_
              refine j_sipush C0 999 dX6_readsRest_118 (by decide) rfl ?_
              refine j_callVi C0 3 [.int 3, .int 1, .int 999] (c_X6_number 3 1 999  hX) dX6_readsRest_121 gX6_readsRest_X6_number rfl (by decide +kernel) ⟨⟨Nat.le_of_ble_eq_true rfl, Nat.le_of_ble_eq_true rfl⟩, rfl, rfl⟩ (kd_lt (rfl : kd 168 = 6) (by decide)) (ce6 (rfl : kd 168 = 6)) rfl rfl rfl (Nat.le_of_ble_eq_true rfl) rfl (fun r25 μ24 hX => ?_)
              refine j_if_eq C0 (tgt := 131) dX6_readsRest_124 (by decide) rfl (fun c26 => ?_) (fun c26 => ?_)
              · have hX := hX.1 c26
                refine j_iconst C0 0 dX6_readsRest_131 (by decide) rfl ?_
                exact j_zret C0 hlk hret dX6_readsRest_132 zb0 hX
              · have hX := hX.2 c26
                refine j_iconst C0 1 dX6_readsRest_127 (by decide) rfl ?_
                refine j_goto C0 (tgt := 132) dX6_readsRest_128 (by decide) ?_
                exact j_zret C0 hlk hret dX6_readsRest_132 zb1 hX
      · have hX := hX.2 c12
        refine j_aload_n C0 0 dX6_readsRest_77 rfl rfl rfl ?_
        refine j_iconst C0 2 dX6_readsRest_78 (by decide) rfl ?_
        refine j_iconst C0 0 dX6_readsRest_79 (by decide) rfl ?_
        refine j_bipush C0 16 dX6_readsRest_80 (by decide) rfl ?_
        refine j_callVi C0 3 [.int 2, .int 0, .int 16] (c_X6_number 2 0 16  hX) dX6_readsRest_82 gX6_readsRest_X6_number rfl (by decide +kernel) ⟨⟨Nat.le_of_ble_eq_true rfl, Nat.le_of_ble_eq_true rfl⟩, rfl, rfl⟩ (kd_lt (rfl : kd 168 = 6) (by decide)) (ce6 (rfl : kd 168 = 6)) rfl rfl rfl (Nat.le_of_ble_eq_true rfl) rfl (fun r28 μ27 hX => ?_)
        exact j_zret C0 hlk hret dX6_readsRest_85 hX.1 hX.2
    · have hX := hX.2 c9
      refine j_aload_n C0 0 dX6_readsRest_62 rfl rfl rfl ?_
      refine j_iconst C0 2 dX6_readsRest_63 (by decide) rfl ?_
      refine j_callVi C0 1 [.int 2] (c_X6_digit 2  hX) dX6_readsRest_64 gX6_readsRest_X6_digit rfl (by decide +kernel) ⟨⟨Nat.le_of_ble_eq_true rfl, Nat.le_of_ble_eq_true rfl⟩, rfl, rfl⟩ (kd_lt (rfl : kd 168 = 6) (by decide)) (ce6 (rfl : kd 168 = 6)) rfl rfl rfl (Nat.le_of_ble_eq_true rfl) rfl (fun r30 μ29 hX => ?_)
      exact j_zret C0 hlk hret dX6_readsRest_67 hX.1 hX.2
  · have hX := hX.2 c6
    refine j_aload_n C0 0 dX6_readsRest_44 rfl rfl rfl ?_
    refine j_iconst C0 2 dX6_readsRest_45 (by decide) rfl ?_
    refine j_iconst C0 0 dX6_readsRest_46 (by decide) rfl ?_
    refine j_ldc C0 65535 dX6_readsRest_47 hw_X6_readsRest_4 rfl ?_
    refine j_callVi C0 3 [.int 2, .int 0, .int 65535] (c_X6_number 2 0 65535  hX) dX6_readsRest_49 gX6_readsRest_X6_number rfl (by decide +kernel) ⟨⟨Nat.le_of_ble_eq_true rfl, Nat.le_of_ble_eq_true rfl⟩, rfl, rfl⟩ (kd_lt (rfl : kd 168 = 6) (by decide)) (ce6 (rfl : kd 168 = 6)) rfl rfl rfl (Nat.le_of_ble_eq_true rfl) rfl (fun r32 μ31 hX => ?_)
    exact j_zret C0 hlk hret dX6_readsRest_52 hX.1 hX.2
def x_X6_readsRest  (μ : Mem) (K : Int32 → Mem → Prop) : Prop :=
  ((μ 168 8) ≤ (μ 168 11) → x_X6_readsRest_L34 K 0 ((4 : Int32) * (μ 168 10)) μ) ∧ (¬ ((μ 168 8) ≤ (μ 168 11)) → vp_in (μ 168 11) 60 ∧ x_X6_readsRest_L34 K (μ 176 (μ 168 11).toNatClampNeg) ((4 : Int32) * (μ 168 10)) μ)
set_option maxRecDepth 20000 in
theorem w_X6_readsRest {p : Program} {l : Launch} {e : Env} {s : State} {m : MethodId} {args : Array Value} {below : List Frame} {meth : Method} {c : Code} {D : va_G} {Y : Nat → ClassId} {ad : Nat → Nat} (C0 : CX D Y ad (PA ad) rm_X6_readsRest 0 0 p s args m c cX6_readsRest 1 RX6 wsX6_readsRest) (hlk : meth.locks = false) (hret : meth.sig.returnType = (some .boolean))  (μ : Mem) (K : Int32 → Mem → Prop)  (hX : x_X6_readsRest  μ K) : J p l e rm_X6_readsRest s m args below meth c D Y ad (PA ad) 0 0 1 (MQ below (va_Qi K (BB D Y ad) (PA ad)) args s 0 0 (PA ad)) 0 [(0, .ref (ad 168))] [] μ := by
  refine j_aload_n C0 0 dX6_readsRest_0 rfl rfl rfl ?_
  refine j_get6 C0 (v := .ref (ad 175)) 6 (rfl : kd 168 = 6) fw_X6_readsRest_6 hw_X6_readsRest_0 (fun _ h9 => h9) (by decide) rfl dX6_readsRest_1 rfl ?_
  refine j_iconst C0 4 dX6_readsRest_4 (by decide) rfl ?_
  refine j_aload_n C0 0 dX6_readsRest_5 rfl rfl rfl ?_
  refine j_get6 C0 (v := .int (μ 168 10)) 10 (rfl : kd 168 = 6) fw_X6_readsRest_6 hw_X6_readsRest_1 (fun _ h9 => h9) (by decide) rfl dX6_readsRest_6 rfl ?_
  refine j_imul C0 dX6_readsRest_9 rfl ?_
  refine j_aload_n C0 0 dX6_readsRest_10 rfl rfl rfl ?_
  refine j_get6 C0 (v := .int (μ 168 11)) 11 (rfl : kd 168 = 6) fw_X6_readsRest_6 hw_X6_readsRest_2 (fun _ h9 => h9) (by decide) rfl dX6_readsRest_11 rfl ?_
  refine j_aload_n C0 0 dX6_readsRest_14 rfl rfl rfl ?_
  refine j_get6 C0 (v := .int (μ 168 8)) 8 (rfl : kd 168 = 6) fw_X6_readsRest_6 hw_X6_readsRest_3 (fun _ h9 => h9) (by decide) rfl dX6_readsRest_15 rfl ?_
  refine j_icmp_ge C0 (tgt := 33) dX6_readsRest_18 (by decide) rfl (fun c1 => ?_) (fun c1 => ?_)
  · have hX := hX.1 c1
    refine j_iconst C0 0 dX6_readsRest_33 (by decide) rfl ?_
    exact j_sub (l' := [(0, .ref (ad 168))]) [0] rfl (w_X6_readsRest_L34 C0 hlk hret 0 ((4 : Int32) * (μ 168 10)) μ K  hX)
  · have hX := hX.2 c1
    refine j_aload_n C0 0 dX6_readsRest_21 rfl rfl rfl ?_
    refine j_get6 C0 (v := .ref (ad 176)) 7 (rfl : kd 168 = 6) fw_X6_readsRest_6 hw_X6_readsRest_5 (fun _ h9 => h9) (by decide) rfl dX6_readsRest_22 rfl ?_
    refine j_aload_n C0 0 dX6_readsRest_25 rfl rfl rfl ?_
    refine j_get6 C0 (v := .int (μ 168 11)) 11 (rfl : kd 168 = 6) fw_X6_readsRest_6 hw_X6_readsRest_2 (fun _ h9 => h9) (by decide) rfl dX6_readsRest_26 rfl ?_
    obtain ⟨h33, hX⟩ := hX
    refine j_cald C0 (n := 60) (kd_lt (rfl : kd 176 = 17) (by decide)) (ce17 (rfl : kd 176 = 17)) h33 dX6_readsRest_29 rfl ?_
    refine j_goto C0 (tgt := 34) dX6_readsRest_30 (by decide) ?_
    exact j_sub (l' := [(0, .ref (ad 168))]) [0] rfl (w_X6_readsRest_L34 C0 hlk hret (μ 176 (μ 168 11).toNatClampNeg) ((4 : Int32) * (μ 168 10)) μ K  hX)
theorem c_X6_readsRest {l : Launch} {D : va_G} {Y : Nat → ClassId} {ad : Nat → Nat}  {μ : Mem} {K : Int32 → Mem → Prop}  (hX : x_X6_readsRest  μ K) : ConI l yX6_readsRest wsX6_readsRest rm_X6_readsRest [.ref (ad 168)] D Y ad μ K := conI_of (cc := cX6_readsRest) (maxL := 1) (ret := (some .boolean)) (own := RX6) _ (by decide +kernel) rfl rfl (Nat.le_of_ble_eq_true rfl) (fun p e s m args below meth c C0 hlk hret => j_sub (l' := [(0, .ref (ad 168))]) [0] rfl (w_X6_readsRest C0 hlk hret  μ K  hX))
/-! PhaseTonesModel.readsOrder()Z -/
abbrev rm_X6_readsOrder : Room := rmf 3 66
theorem fw_X6_readsOrder_6 : ∀ w ∈ wsX60, w ∈ wsX6_readsOrder := by decide +kernel
theorem hw_X6_readsOrder_0 : Cond.fieldLink RX6 109 RX6 (TX6 10).2.1 (TX6 10).2.2.1 ∈ wsX6_readsOrder := by decide +kernel
theorem hw_X6_readsOrder_1 : Cond.fieldLink RX6 29 RX6 (TX6 6).2.1 (TX6 6).2.2.1 ∈ wsX6_readsOrder := by decide +kernel
def x_X6_readsOrder_L56 (K : Int32 → Mem → Prop) (a1 : Int32) (μ : Mem) : Prop :=
  (a1 = 0 → ∀ μ8 : Mem, μ8 = um μ 168 (upd (μ 168) 10 ((μ 168 10) + 0)) → zb a1 ∧ K a1 μ8) ∧ (¬ (a1 = 0) → ∀ μ9 : Mem, μ9 = um μ 168 (upd (μ 168) 10 ((μ 168 10) + 1)) → zb a1 ∧ K a1 μ9)
set_option maxRecDepth 20000 in
theorem w_X6_readsOrder_L56 {p : Program} {l : Launch} {e : Env} {s : State} {m : MethodId} {args : Array Value} {below : List Frame} {meth : Method} {c : Code} {D : va_G} {Y : Nat → ClassId} {ad : Nat → Nat} (C0 : CX D Y ad (PA ad) rm_X6_readsOrder 0 0 p s args m c cX6_readsOrder 2 RX6 wsX6_readsOrder) (hlk : meth.locks = false) (hret : meth.sig.returnType = (some .boolean)) (a1 : Int32) (μ : Mem) (K : Int32 → Mem → Prop)  (hX : x_X6_readsOrder_L56 K a1 μ) : J p l e rm_X6_readsOrder s m args below meth c D Y ad (PA ad) 0 0 2 (MQ below (va_Qi K (BB D Y ad) (PA ad)) args s 0 0 (PA ad)) 56 [(0, .ref (ad 168)), (1, .int a1)] [] μ := by
  refine j_aload_n C0 0 dX6_readsOrder_56 rfl rfl rfl ?_
  refine j_dup C0 dX6_readsOrder_57 rfl rfl ?_
  refine j_get6 C0 (v := .int (μ 168 10)) 10 (rfl : kd 168 = 6) fw_X6_readsOrder_6 hw_X6_readsOrder_0 (fun _ h9 => h9) (by decide) rfl dX6_readsOrder_58 rfl ?_
  refine j_iload_n C0 1 dX6_readsOrder_61 rfl rfl rfl ?_
  refine j_if_eq C0 (tgt := 69) dX6_readsOrder_62 (by decide) rfl (fun c7 => ?_) (fun c7 => ?_)
  · have hX := hX.1 c7
    refine j_iconst C0 0 dX6_readsOrder_69 (by decide) rfl ?_
    refine j_iadd C0 dX6_readsOrder_70 rfl ?_
    refine j_put6_10 C0 (rfl : kd 168 = 6) fw_X6_readsOrder_6 hw_X6_readsOrder_0 dX6_readsOrder_71 rfl ?_
    refine j_nm (fun μ8 e_μ8 => ?_)
    have hX := hX μ8 e_μ8
    refine j_iload_n C0 1 dX6_readsOrder_74 rfl rfl rfl ?_
    exact j_zret C0 hlk hret dX6_readsOrder_75 hX.1 hX.2
  · have hX := hX.2 c7
    refine j_iconst C0 1 dX6_readsOrder_65 (by decide) rfl ?_
    refine j_goto C0 (tgt := 70) dX6_readsOrder_66 (by decide) ?_
    refine j_iadd C0 dX6_readsOrder_70 rfl ?_
    refine j_put6_10 C0 (rfl : kd 168 = 6) fw_X6_readsOrder_6 hw_X6_readsOrder_0 dX6_readsOrder_71 rfl ?_
    refine j_nm (fun μ9 e_μ9 => ?_)
    have hX := hX μ9 e_μ9
    refine j_iload_n C0 1 dX6_readsOrder_74 rfl rfl rfl ?_
    exact j_zret C0 hlk hret dX6_readsOrder_75 hX.1 hX.2
def x_X6_readsOrder_L55 (K : Int32 → Mem → Prop) (as0 : Int32) (μ : Mem) : Prop :=
  x_X6_readsOrder_L56 K as0 μ
set_option maxRecDepth 20000 in
theorem w_X6_readsOrder_L55 {p : Program} {l : Launch} {e : Env} {s : State} {m : MethodId} {args : Array Value} {below : List Frame} {meth : Method} {c : Code} {D : va_G} {Y : Nat → ClassId} {ad : Nat → Nat} (C0 : CX D Y ad (PA ad) rm_X6_readsOrder 0 0 p s args m c cX6_readsOrder 2 RX6 wsX6_readsOrder) (hlk : meth.locks = false) (hret : meth.sig.returnType = (some .boolean)) (as0 : Int32) (μ : Mem) (K : Int32 → Mem → Prop)  (hX : x_X6_readsOrder_L55 K as0 μ) : J p l e rm_X6_readsOrder s m args below meth c D Y ad (PA ad) 0 0 2 (MQ below (va_Qi K (BB D Y ad) (PA ad)) args s 0 0 (PA ad)) 55 [(0, .ref (ad 168))] [.int as0] μ := by
  refine j_istore_n C0 [(1, .int as0), (0, .ref (ad 168))] dX6_readsOrder_55 rfl (by decide) rfl rfl ?_
  exact j_sub (l' := [(0, .ref (ad 168)), (1, .int as0)]) [1, 0] rfl (w_X6_readsOrder_L56 C0 hlk hret as0 μ K  hX)
def x_X6_readsOrder_L54 (K : Int32 → Mem → Prop)  (μ : Mem) : Prop :=
  x_X6_readsOrder_L55 K 0 μ
set_option maxRecDepth 20000 in
theorem w_X6_readsOrder_L54 {p : Program} {l : Launch} {e : Env} {s : State} {m : MethodId} {args : Array Value} {below : List Frame} {meth : Method} {c : Code} {D : va_G} {Y : Nat → ClassId} {ad : Nat → Nat} (C0 : CX D Y ad (PA ad) rm_X6_readsOrder 0 0 p s args m c cX6_readsOrder 2 RX6 wsX6_readsOrder) (hlk : meth.locks = false) (hret : meth.sig.returnType = (some .boolean))  (μ : Mem) (K : Int32 → Mem → Prop)  (hX : x_X6_readsOrder_L54 K  μ) : J p l e rm_X6_readsOrder s m args below meth c D Y ad (PA ad) 0 0 2 (MQ below (va_Qi K (BB D Y ad) (PA ad)) args s 0 0 (PA ad)) 54 [(0, .ref (ad 168))] [] μ := by
  refine j_iconst C0 0 dX6_readsOrder_54 (by decide) rfl ?_
  exact j_sub (l' := [(0, .ref (ad 168))]) [0] rfl (w_X6_readsOrder_L55 C0 hlk hret 0 μ K  hX)
def x_X6_readsOrder  (μ : Mem) (K : Int32 → Mem → Prop) : Prop :=
  x_X6_accepts 46 μ (fun r2 μ1 => (r2 = 0 → x_X6_digit 1 μ1 (fun r5 μ4 => (r5 = 0 → x_X6_readsOrder_L54 K  μ4) ∧ (¬ (r5 = 0) → x_X6_readsRest  μ4 (fun r11 μ10 => (r11 = 0 → x_X6_readsOrder_L54 K  μ10) ∧ (¬ (r11 = 0) → x_X6_readsOrder_L55 K 1 μ10))))) ∧ (¬ (r2 = 0) → vp_in ((4 : Int32) * (μ1 168 10)) 84 ∧ ∀ μ14 : Mem, μ14 = um μ1 175 (upd (μ1 175) ((4 : Int32) * (μ1 168 10)).toNatClampNeg 46) → x_X6_number 2 1 999 μ14 (fun r16 μ15 => x_X6_readsOrder_L56 K r16 μ15)))
set_option maxRecDepth 20000 in
theorem w_X6_readsOrder {p : Program} {l : Launch} {e : Env} {s : State} {m : MethodId} {args : Array Value} {below : List Frame} {meth : Method} {c : Code} {D : va_G} {Y : Nat → ClassId} {ad : Nat → Nat} (C0 : CX D Y ad (PA ad) rm_X6_readsOrder 0 0 p s args m c cX6_readsOrder 2 RX6 wsX6_readsOrder) (hlk : meth.locks = false) (hret : meth.sig.returnType = (some .boolean))  (μ : Mem) (K : Int32 → Mem → Prop)  (hX : x_X6_readsOrder  μ K) : J p l e rm_X6_readsOrder s m args below meth c D Y ad (PA ad) 0 0 2 (MQ below (va_Qi K (BB D Y ad) (PA ad)) args s 0 0 (PA ad)) 0 [(0, .ref (ad 168))] [] μ := by
  refine j_aload_n C0 0 dX6_readsOrder_0 rfl rfl rfl ?_
  refine j_bipush C0 46 dX6_readsOrder_1 (by decide) rfl ?_
  refine j_callVi C0 1 [.int 46] (c_X6_accepts 46  hX) dX6_readsOrder_3 gX6_readsOrder_X6_accepts rfl (by decide +kernel) ⟨⟨Nat.le_of_ble_eq_true rfl, Nat.le_of_ble_eq_true rfl⟩, rfl, rfl⟩ (kd_lt (rfl : kd 168 = 6) (by decide)) (ce6 (rfl : kd 168 = 6)) rfl rfl rfl (Nat.le_of_ble_eq_true rfl) rfl (fun r2 μ1 hX => ?_)
  refine j_if_eq C0 (tgt := 35) dX6_readsOrder_6 (by decide) rfl (fun c3 => ?_) (fun c3 => ?_)
  · have hX := hX.1 c3
    refine j_aload_n C0 0 dX6_readsOrder_35 rfl rfl rfl ?_
    refine j_iconst C0 1 dX6_readsOrder_36 (by decide) rfl ?_
    refine j_callVi C0 1 [.int 1] (c_X6_digit 1  hX) dX6_readsOrder_37 gX6_readsOrder_X6_digit rfl (by decide +kernel) ⟨⟨Nat.le_of_ble_eq_true rfl, Nat.le_of_ble_eq_true rfl⟩, rfl, rfl⟩ (kd_lt (rfl : kd 168 = 6) (by decide)) (ce6 (rfl : kd 168 = 6)) rfl rfl rfl (Nat.le_of_ble_eq_true rfl) rfl (fun r5 μ4 hX => ?_)
    refine j_if_eq C0 (tgt := 54) dX6_readsOrder_40 (by decide) rfl (fun c6 => ?_) (fun c6 => ?_)
    · have hX := hX.1 c6
      exact j_sub (l' := [(0, .ref (ad 168))]) [0] rfl (w_X6_readsOrder_L54 C0 hlk hret  μ4 K  hX)
    · have hX := hX.2 c6
      refine j_aload_n C0 0 dX6_readsOrder_43 rfl rfl rfl ?_
      refine j_callVi C0 0 [] (c_X6_readsRest   hX) dX6_readsOrder_44 gX6_readsOrder_X6_readsRest rfl (by decide +kernel) ⟨⟨Nat.le_of_ble_eq_true rfl, Nat.le_of_ble_eq_true rfl⟩, rfl, rfl⟩ (kd_lt (rfl : kd 168 = 6) (by decide)) (ce6 (rfl : kd 168 = 6)) rfl rfl rfl (Nat.le_of_ble_eq_true rfl) rfl (fun r11 μ10 hX => ?_)
      refine j_if_eq C0 (tgt := 54) dX6_readsOrder_47 (by decide) rfl (fun c12 => ?_) (fun c12 => ?_)
      · have hX := hX.1 c12
        exact j_sub (l' := [(0, .ref (ad 168))]) [0] rfl (w_X6_readsOrder_L54 C0 hlk hret  μ10 K  hX)
      · have hX := hX.2 c12
        refine j_iconst C0 1 dX6_readsOrder_50 (by decide) rfl ?_
        refine j_goto C0 (tgt := 55) dX6_readsOrder_51 (by decide) ?_
        exact j_sub (l' := [(0, .ref (ad 168))]) [0] rfl (w_X6_readsOrder_L55 C0 hlk hret 1 μ10 K  hX)
  · have hX := hX.2 c3
    refine j_aload_n C0 0 dX6_readsOrder_9 rfl rfl rfl ?_
    refine j_get6 C0 (v := .ref (ad 175)) 6 (rfl : kd 168 = 6) fw_X6_readsOrder_6 hw_X6_readsOrder_1 (fun _ h9 => h9) (by decide) rfl dX6_readsOrder_10 rfl ?_
    refine j_iconst C0 4 dX6_readsOrder_13 (by decide) rfl ?_
    refine j_aload_n C0 0 dX6_readsOrder_14 rfl rfl rfl ?_
    refine j_get6 C0 (v := .int (μ1 168 10)) 10 (rfl : kd 168 = 6) fw_X6_readsOrder_6 hw_X6_readsOrder_0 (fun _ h9 => h9) (by decide) rfl dX6_readsOrder_15 rfl ?_
    refine j_imul C0 dX6_readsOrder_18 rfl ?_
    refine j_bipush C0 46 dX6_readsOrder_19 (by decide) rfl ?_
    obtain ⟨h13, hX⟩ := hX
    refine j_iast C0 (n := 84) (kd_lt (rfl : kd 175 = 21) (by decide)) (ce21 (rfl : kd 175 = 21)) h13 dX6_readsOrder_21 rfl ?_
    refine j_nm (fun μ14 e_μ14 => ?_)
    have hX := hX μ14 e_μ14
    refine j_aload_n C0 0 dX6_readsOrder_22 rfl rfl rfl ?_
    refine j_iconst C0 2 dX6_readsOrder_23 (by decide) rfl ?_
    refine j_iconst C0 1 dX6_readsOrder_24 (by decide) rfl ?_
    refine j_sipush C0 999 dX6_readsOrder_25 (by decide) rfl ?_
    refine j_callVi C0 3 [.int 2, .int 1, .int 999] (c_X6_number 2 1 999  hX) dX6_readsOrder_28 gX6_readsOrder_X6_number rfl (by decide +kernel) ⟨⟨Nat.le_of_ble_eq_true rfl, Nat.le_of_ble_eq_true rfl⟩, rfl, rfl⟩ (kd_lt (rfl : kd 168 = 6) (by decide)) (ce6 (rfl : kd 168 = 6)) rfl rfl rfl (Nat.le_of_ble_eq_true rfl) rfl (fun r16 μ15 hX => ?_)
    refine j_istore_n C0 [(1, .int r16), (0, .ref (ad 168))] dX6_readsOrder_31 rfl (by decide) rfl rfl ?_
    refine j_goto C0 (tgt := 56) dX6_readsOrder_32 (by decide) ?_
    exact j_sub (l' := [(0, .ref (ad 168)), (1, .int r16)]) [1, 0] rfl (w_X6_readsOrder_L56 C0 hlk hret r16 μ15 K  hX)
theorem c_X6_readsOrder {l : Launch} {D : va_G} {Y : Nat → ClassId} {ad : Nat → Nat}  {μ : Mem} {K : Int32 → Mem → Prop}  (hX : x_X6_readsOrder  μ K) : ConI l yX6_readsOrder wsX6_readsOrder rm_X6_readsOrder [.ref (ad 168)] D Y ad μ K := conI_of (cc := cX6_readsOrder) (maxL := 2) (ret := (some .boolean)) (own := RX6) _ (by decide +kernel) rfl rfl (Nat.le_of_ble_eq_true rfl) (fun p e s m args below meth c C0 hlk hret => j_sub (l' := [(0, .ref (ad 168))]) [0] rfl (w_X6_readsOrder C0 hlk hret  μ K  hX))
/-! PhaseTonesModel.faultOf()I -/
abbrev rm_X6_faultOf : Room := rmf 4 87
theorem fw_X6_faultOf_6 : ∀ w ∈ wsX60, w ∈ wsX6_faultOf := by decide +kernel
theorem hw_X6_faultOf_0 : Cond.fieldLink RX6 99 RX6 (TX6 11).2.1 (TX6 11).2.2.1 ∈ wsX6_faultOf := by decide +kernel
theorem hw_X6_faultOf_1 : Cond.fieldLink RX6 109 RX6 (TX6 10).2.1 (TX6 10).2.2.1 ∈ wsX6_faultOf := by decide +kernel
theorem hw_X6_faultOf_2 : Cond.fieldLink RX6 102 RX6 (TX6 8).2.1 (TX6 8).2.2.1 ∈ wsX6_faultOf := by decide +kernel
def x_X6_faultOf_L55 (K : Int32 → Mem → Prop) (a1 : Int32) (μ : Mem) : Prop :=
  (a1 = 0 → K (μ 168 11) μ) ∧ (¬ (a1 = 0) → K (-1) μ)
set_option maxRecDepth 20000 in
theorem w_X6_faultOf_L55 {p : Program} {l : Launch} {e : Env} {s : State} {m : MethodId} {args : Array Value} {below : List Frame} {meth : Method} {c : Code} {D : va_G} {Y : Nat → ClassId} {ad : Nat → Nat} (C0 : CX D Y ad (PA ad) rm_X6_faultOf 0 0 p s args m c cX6_faultOf 2 RX6 wsX6_faultOf) (hlk : meth.locks = false) (hret : meth.sig.returnType = (some .int)) (a1 : Int32) (μ : Mem) (K : Int32 → Mem → Prop)  (hX : x_X6_faultOf_L55 K a1 μ) : J p l e rm_X6_faultOf s m args below meth c D Y ad (PA ad) 0 0 2 (MQ below (va_Qi K (BB D Y ad) (PA ad)) args s 0 0 (PA ad)) 55 [(0, .ref (ad 168)), (1, .int a1)] [] μ := by
  refine j_iload_n C0 1 dX6_faultOf_55 rfl rfl rfl ?_
  refine j_if_eq C0 (tgt := 63) dX6_faultOf_56 (by decide) rfl (fun c6 => ?_) (fun c6 => ?_)
  · have hX := hX.1 c6
    refine j_aload_n C0 0 dX6_faultOf_63 rfl rfl rfl ?_
    refine j_get6 C0 (v := .int (μ 168 11)) 11 (rfl : kd 168 = 6) fw_X6_faultOf_6 hw_X6_faultOf_0 (fun _ h9 => h9) (by decide) rfl dX6_faultOf_64 rfl ?_
    exact j_iret C0 hlk hret dX6_faultOf_67 hX
  · have hX := hX.2 c6
    refine j_iconst C0 (-1) dX6_faultOf_59 (by decide) rfl ?_
    refine j_goto C0 (tgt := 67) dX6_faultOf_60 (by decide) ?_
    exact j_iret C0 hlk hret dX6_faultOf_67 hX
def x_X6_faultOf_L51 (K : Int32 → Mem → Prop) (B : Int32 → Mem → Prop) (as0 : Int32) (μ : Mem) : Prop :=
  B as0 μ
set_option maxRecDepth 20000 in
theorem w_X6_faultOf_L51 {p : Program} {l : Launch} {e : Env} {s : State} {m : MethodId} {args : Array Value} {below : List Frame} {meth : Method} {c : Code} {D : va_G} {Y : Nat → ClassId} {ad : Nat → Nat} (C0 : CX D Y ad (PA ad) rm_X6_faultOf 0 0 p s args m c cX6_faultOf 2 RX6 wsX6_faultOf) (hlk : meth.locks = false) (hret : meth.sig.returnType = (some .int)) (as0 : Int32) (μ : Mem) (K : Int32 → Mem → Prop) (B : Int32 → Mem → Prop) (hB : ∀ (a1 : Int32) (μ : Mem), B a1 μ → J p l e rm_X6_faultOf s m args below meth c D Y ad (PA ad) 0 0 2 (MQ below (va_Qi K (BB D Y ad) (PA ad)) args s 0 0 (PA ad)) 15 [(0, .ref (ad 168)), (1, .int a1)] [] μ)  (hX : x_X6_faultOf_L51 K B as0 μ) : J p l e rm_X6_faultOf s m args below meth c D Y ad (PA ad) 0 0 2 (MQ below (va_Qi K (BB D Y ad) (PA ad)) args s 0 0 (PA ad)) 51 [(0, .ref (ad 168))] [.int as0] μ := by
  refine j_istore_n C0 [(1, .int as0), (0, .ref (ad 168))] dX6_faultOf_51 rfl (by decide) rfl rfl ?_
  refine j_goto C0 (tgt := 15) dX6_faultOf_52 (by decide) ?_
  exact j_sub (l' := [(0, .ref (ad 168)), (1, .int as0)]) [1, 0] rfl (hB as0 μ  hX)
def x_X6_faultOf_L50 (K : Int32 → Mem → Prop) (B : Int32 → Mem → Prop)  (μ : Mem) : Prop :=
  x_X6_faultOf_L51 K B 0 μ
set_option maxRecDepth 20000 in
theorem w_X6_faultOf_L50 {p : Program} {l : Launch} {e : Env} {s : State} {m : MethodId} {args : Array Value} {below : List Frame} {meth : Method} {c : Code} {D : va_G} {Y : Nat → ClassId} {ad : Nat → Nat} (C0 : CX D Y ad (PA ad) rm_X6_faultOf 0 0 p s args m c cX6_faultOf 2 RX6 wsX6_faultOf) (hlk : meth.locks = false) (hret : meth.sig.returnType = (some .int))  (μ : Mem) (K : Int32 → Mem → Prop) (B : Int32 → Mem → Prop) (hB : ∀ (a1 : Int32) (μ : Mem), B a1 μ → J p l e rm_X6_faultOf s m args below meth c D Y ad (PA ad) 0 0 2 (MQ below (va_Qi K (BB D Y ad) (PA ad)) args s 0 0 (PA ad)) 15 [(0, .ref (ad 168)), (1, .int a1)] [] μ)  (hX : x_X6_faultOf_L50 K B  μ) : J p l e rm_X6_faultOf s m args below meth c D Y ad (PA ad) 0 0 2 (MQ below (va_Qi K (BB D Y ad) (PA ad)) args s 0 0 (PA ad)) 50 [(0, .ref (ad 168))] [] μ := by
  refine j_iconst C0 0 dX6_faultOf_50 (by decide) rfl ?_
  exact j_sub (l' := [(0, .ref (ad 168))]) [0] rfl (w_X6_faultOf_L51 C0 hlk hret 0 μ K B hB  hX)
def xb_X6_faultOf_L15 (K : Int32 → Mem → Prop) (B : Int32 → Mem → Prop) (a1 : Int32) (μ : Mem) : Prop :=
  (a1 = 0 → x_X6_faultOf_L55 K a1 μ) ∧ (¬ (a1 = 0) → ((μ 168 8) ≤ (μ 168 11) → x_X6_faultOf_L55 K a1 μ) ∧ (¬ ((μ 168 8) ≤ (μ 168 11)) → x_X6_accepts 59 μ (fun r9 μ8 => (r9 = 0 → x_X6_faultOf_L50 K B  μ8) ∧ (¬ (r9 = 0) → x_X6_readsOrder  μ8 (fun r12 μ11 => (r12 = 0 → x_X6_faultOf_L50 K B  μ11) ∧ (¬ (r12 = 0) → x_X6_faultOf_L51 K B 1 μ11))))))
def x_X6_faultOf_L15 (K : Int32 → Mem → Prop) : Nat → Int32 → Mem → Prop
  | 0 => fun _ _ => False
  | n + 1 => fun a1 μ => xb_X6_faultOf_L15 K (x_X6_faultOf_L15 K n) a1 μ
set_option maxRecDepth 20000 in
theorem wb_X6_faultOf_L15 {p : Program} {l : Launch} {e : Env} {s : State} {m : MethodId} {args : Array Value} {below : List Frame} {meth : Method} {c : Code} {D : va_G} {Y : Nat → ClassId} {ad : Nat → Nat} (C0 : CX D Y ad (PA ad) rm_X6_faultOf 0 0 p s args m c cX6_faultOf 2 RX6 wsX6_faultOf) (hlk : meth.locks = false) (hret : meth.sig.returnType = (some .int)) (a1 : Int32) (μ : Mem) (K : Int32 → Mem → Prop) (B : Int32 → Mem → Prop) (hB : ∀ (a1 : Int32) (μ : Mem), B a1 μ → J p l e rm_X6_faultOf s m args below meth c D Y ad (PA ad) 0 0 2 (MQ below (va_Qi K (BB D Y ad) (PA ad)) args s 0 0 (PA ad)) 15 [(0, .ref (ad 168)), (1, .int a1)] [] μ)  (hX : xb_X6_faultOf_L15 K B a1 μ) : J p l e rm_X6_faultOf s m args below meth c D Y ad (PA ad) 0 0 2 (MQ below (va_Qi K (BB D Y ad) (PA ad)) args s 0 0 (PA ad)) 15 [(0, .ref (ad 168)), (1, .int a1)] [] μ := by
  refine j_iload_n C0 1 dX6_faultOf_15 rfl rfl rfl ?_
  refine j_if_eq C0 (tgt := 55) dX6_faultOf_16 (by decide) rfl (fun c5 => ?_) (fun c5 => ?_)
  · have hX := hX.1 c5
    exact j_sub (l' := [(0, .ref (ad 168)), (1, .int a1)]) [0, 1] rfl (w_X6_faultOf_L55 C0 hlk hret a1 μ K  hX)
  · have hX := hX.2 c5
    refine j_aload_n C0 0 dX6_faultOf_19 rfl rfl rfl ?_
    refine j_get6 C0 (v := .int (μ 168 11)) 11 (rfl : kd 168 = 6) fw_X6_faultOf_6 hw_X6_faultOf_0 (fun _ h9 => h9) (by decide) rfl dX6_faultOf_20 rfl ?_
    refine j_aload_n C0 0 dX6_faultOf_23 rfl rfl rfl ?_
    refine j_get6 C0 (v := .int (μ 168 8)) 8 (rfl : kd 168 = 6) fw_X6_faultOf_6 hw_X6_faultOf_2 (fun _ h9 => h9) (by decide) rfl dX6_faultOf_24 rfl ?_
    refine j_icmp_ge C0 (tgt := 55) dX6_faultOf_27 (by decide) rfl (fun c7 => ?_) (fun c7 => ?_)
    · have hX := hX.1 c7
      exact j_sub (l' := [(0, .ref (ad 168)), (1, .int a1)]) [0, 1] rfl (w_X6_faultOf_L55 C0 hlk hret a1 μ K  hX)
    · have hX := hX.2 c7
      refine j_aload_n C0 0 dX6_faultOf_30 rfl rfl rfl ?_
      refine j_bipush C0 59 dX6_faultOf_31 (by decide) rfl ?_
      refine j_callVi C0 1 [.int 59] (c_X6_accepts 59  hX) dX6_faultOf_33 gX6_faultOf_X6_accepts rfl (by decide +kernel) ⟨⟨Nat.le_of_ble_eq_true rfl, Nat.le_of_ble_eq_true rfl⟩, rfl, rfl⟩ (kd_lt (rfl : kd 168 = 6) (by decide)) (ce6 (rfl : kd 168 = 6)) rfl rfl rfl (Nat.le_of_ble_eq_true rfl) rfl (fun r9 μ8 hX => ?_)
      refine j_if_eq C0 (tgt := 50) dX6_faultOf_36 (by decide) rfl (fun c10 => ?_) (fun c10 => ?_)
      · have hX := hX.1 c10
        exact j_sub (l' := [(0, .ref (ad 168))]) [0] rfl (w_X6_faultOf_L50 C0 hlk hret  μ8 K B hB  hX)
      · have hX := hX.2 c10
        refine j_aload_n C0 0 dX6_faultOf_39 rfl rfl rfl ?_
        refine j_callVi C0 0 [] (c_X6_readsOrder   hX) dX6_faultOf_40 gX6_faultOf_X6_readsOrder rfl (by decide +kernel) ⟨⟨Nat.le_of_ble_eq_true rfl, Nat.le_of_ble_eq_true rfl⟩, rfl, rfl⟩ (kd_lt (rfl : kd 168 = 6) (by decide)) (ce6 (rfl : kd 168 = 6)) rfl rfl rfl (Nat.le_of_ble_eq_true rfl) rfl (fun r12 μ11 hX => ?_)
        refine j_if_eq C0 (tgt := 50) dX6_faultOf_43 (by decide) rfl (fun c13 => ?_) (fun c13 => ?_)
        · have hX := hX.1 c13
          exact j_sub (l' := [(0, .ref (ad 168))]) [0] rfl (w_X6_faultOf_L50 C0 hlk hret  μ11 K B hB  hX)
        · have hX := hX.2 c13
          refine j_iconst C0 1 dX6_faultOf_46 (by decide) rfl ?_
          refine j_goto C0 (tgt := 51) dX6_faultOf_47 (by decide) ?_
          exact j_sub (l' := [(0, .ref (ad 168))]) [0] rfl (w_X6_faultOf_L51 C0 hlk hret 1 μ11 K B hB  hX)
theorem w_X6_faultOf_L15 {p : Program} {l : Launch} {e : Env} {s : State} {m : MethodId} {args : Array Value} {below : List Frame} {meth : Method} {c : Code} {D : va_G} {Y : Nat → ClassId} {ad : Nat → Nat} (C0 : CX D Y ad (PA ad) rm_X6_faultOf 0 0 p s args m c cX6_faultOf 2 RX6 wsX6_faultOf) (hlk : meth.locks = false) (hret : meth.sig.returnType = (some .int)) (K : Int32 → Mem → Prop) : ∀ (n : Nat) (a1 : Int32) (μ : Mem)  (hX : x_X6_faultOf_L15 K n a1 μ), J p l e rm_X6_faultOf s m args below meth c D Y ad (PA ad) 0 0 2 (MQ below (va_Qi K (BB D Y ad) (PA ad)) args s 0 0 (PA ad)) 15 [(0, .ref (ad 168)), (1, .int a1)] [] μ
  | 0, a1, μ, hX => hX.elim
  | n + 1, a1, μ, hX => wb_X6_faultOf_L15 C0 hlk hret a1 μ K (x_X6_faultOf_L15 K n) (fun a1 μ  hx => w_X6_faultOf_L15 C0 hlk hret K n a1 μ  hx)  hX
def x_X6_faultOf  (μ : Mem) (K : Int32 → Mem → Prop) : Prop :=
  ∀ μ1 : Mem, μ1 = um μ 168 (upd (μ 168) 11 0) → ∀ μ2 : Mem, μ2 = um μ1 168 (upd (μ1 168) 10 0) → x_X6_readsOrder  μ2 (fun r4 μ3 => ∃ n : Nat, x_X6_faultOf_L15 K n r4 μ3)
set_option maxRecDepth 20000 in
theorem w_X6_faultOf {p : Program} {l : Launch} {e : Env} {s : State} {m : MethodId} {args : Array Value} {below : List Frame} {meth : Method} {c : Code} {D : va_G} {Y : Nat → ClassId} {ad : Nat → Nat} (C0 : CX D Y ad (PA ad) rm_X6_faultOf 0 0 p s args m c cX6_faultOf 2 RX6 wsX6_faultOf) (hlk : meth.locks = false) (hret : meth.sig.returnType = (some .int))  (μ : Mem) (K : Int32 → Mem → Prop)  (hX : x_X6_faultOf  μ K) : J p l e rm_X6_faultOf s m args below meth c D Y ad (PA ad) 0 0 2 (MQ below (va_Qi K (BB D Y ad) (PA ad)) args s 0 0 (PA ad)) 0 [(0, .ref (ad 168))] [] μ := by
  refine j_aload_n C0 0 dX6_faultOf_0 rfl rfl rfl ?_
  refine j_iconst C0 0 dX6_faultOf_1 (by decide) rfl ?_
  refine j_put6_11 C0 (rfl : kd 168 = 6) fw_X6_faultOf_6 hw_X6_faultOf_0 dX6_faultOf_2 rfl ?_
  refine j_nm (fun μ1 e_μ1 => ?_)
  have hX := hX μ1 e_μ1
  refine j_aload_n C0 0 dX6_faultOf_5 rfl rfl rfl ?_
  refine j_iconst C0 0 dX6_faultOf_6 (by decide) rfl ?_
  refine j_put6_10 C0 (rfl : kd 168 = 6) fw_X6_faultOf_6 hw_X6_faultOf_1 dX6_faultOf_7 rfl ?_
  refine j_nm (fun μ2 e_μ2 => ?_)
  have hX := hX μ2 e_μ2
  refine j_aload_n C0 0 dX6_faultOf_10 rfl rfl rfl ?_
  refine j_callVi C0 0 [] (c_X6_readsOrder   hX) dX6_faultOf_11 gX6_faultOf_X6_readsOrder rfl (by decide +kernel) ⟨⟨Nat.le_of_ble_eq_true rfl, Nat.le_of_ble_eq_true rfl⟩, rfl, rfl⟩ (kd_lt (rfl : kd 168 = 6) (by decide)) (ce6 (rfl : kd 168 = 6)) rfl rfl rfl (Nat.le_of_ble_eq_true rfl) rfl (fun r4 μ3 hX => ?_)
  refine j_istore_n C0 [(1, .int r4), (0, .ref (ad 168))] dX6_faultOf_14 rfl (by decide) rfl rfl ?_
  obtain ⟨n, hX⟩ := hX
  exact j_sub (l' := [(0, .ref (ad 168)), (1, .int r4)]) [1, 0] rfl (w_X6_faultOf_L15 C0 hlk hret K n r4 μ3  hX)
theorem c_X6_faultOf {l : Launch} {D : va_G} {Y : Nat → ClassId} {ad : Nat → Nat}  {μ : Mem} {K : Int32 → Mem → Prop}  (hX : x_X6_faultOf  μ K) : ConI l yX6_faultOf wsX6_faultOf rm_X6_faultOf [.ref (ad 168)] D Y ad μ K := conI_of (cc := cX6_faultOf) (maxL := 2) (ret := (some .int)) (own := RX6) _ (by decide +kernel) rfl rfl (Nat.le_of_ble_eq_true rfl) (fun p e s m args below meth c C0 hlk hret => j_sub (l' := [(0, .ref (ad 168))]) [0] rfl (w_X6_faultOf C0 hlk hret  μ K  hX))
/-! PhaseTonesModel.does(I)I -/
abbrev rm_X6_does : Room := rmf 5 110
theorem fw_X6_does_6 : ∀ w ∈ wsX60, w ∈ wsX6_does := by decide +kernel
theorem hw_X6_does_0 : Cond.fieldLink RX6 29 RX6 (TX6 6).2.1 (TX6 6).2.2.1 ∈ wsX6_does := by decide +kernel
theorem hw_X6_does_1 : Cond.fieldLink RX6 7 RX6 (TX6 0).2.1 (TX6 0).2.2.1 ∈ wsX6_does := by decide +kernel
def x_X6_does (a1 : Int32) (μ : Mem) (K : Int32 → Mem → Prop) : Prop :=
  ∀ v1 : Int32, v1 = ((4 : Int32) * a1) → vp_in (v1 + 1) 84 ∧ ∀ v3 : Int32, v3 = (μ 175 (v1 + 1).toNatClampNeg) → vp_in v1 84 ∧ ((μ 175 v1.toNatClampNeg) = 62 → vp_in (v1 + 2) 84 ∧ vp_in (v1 + 3) 84 ∧ x_X6_sweeps v3 (μ 175 (v1 + 2).toNatClampNeg) (μ 175 (v1 + 3).toNatClampNeg) μ (fun r9 μ8 => K r9 μ8)) ∧ (¬ ((μ 175 v1.toNatClampNeg) = 62) → ((μ 175 v1.toNatClampNeg) = 111 → x_X6_w v3 μ (fun r12 μ11 => vp_in (r12 + 4) 166 ∧ x_X6_turns v3 ((1 : Int32) - (μ11 169 (r12 + 4).toNatClampNeg)) μ11 (fun r15 μ14 => K r15 μ14))) ∧ (¬ ((μ 175 v1.toNatClampNeg) = 111) → ((μ 175 v1.toNatClampNeg) = 115 → vp_in (v1 + 2) 84 ∧ x_X6_steps v3 (μ 175 (v1 + 2).toNatClampNeg) μ (fun r19 μ18 => K r19 μ18)) ∧ (¬ ((μ 175 v1.toNatClampNeg) = 115) → ((μ 175 v1.toNatClampNeg) = 116 → vp_in (v1 + 2) 84 ∧ x_X6_tables v3 (μ 175 (v1 + 2).toNatClampNeg) μ (fun r23 μ22 => K r23 μ22)) ∧ (¬ ((μ 175 v1.toNatClampNeg) = 116) → ((μ 175 v1.toNatClampNeg) = 118 → vp_in (v1 + 2) 84 ∧ x_X6_volumes v3 (μ 175 (v1 + 2).toNatClampNeg) μ (fun r27 μ26 => K r27 μ26)) ∧ (¬ ((μ 175 v1.toNatClampNeg) = 118) → vp_in (v1 + 2) 84 ∧ x_X6_makesAll (μ 175 (v1 + 2).toNatClampNeg) μ (fun r30 μ29 => K r30 μ29))))))
set_option maxRecDepth 20000 in
theorem w_X6_does {p : Program} {l : Launch} {e : Env} {s : State} {m : MethodId} {args : Array Value} {below : List Frame} {meth : Method} {c : Code} {D : va_G} {Y : Nat → ClassId} {ad : Nat → Nat} (C0 : CX D Y ad (PA ad) rm_X6_does 0 0 p s args m c cX6_does 4 RX6 wsX6_does) (hlk : meth.locks = false) (hret : meth.sig.returnType = (some .int)) (a1 : Int32) (μ : Mem) (K : Int32 → Mem → Prop)  (hX : x_X6_does a1 μ K) : J p l e rm_X6_does s m args below meth c D Y ad (PA ad) 0 0 4 (MQ below (va_Qi K (BB D Y ad) (PA ad)) args s 0 0 (PA ad)) 0 [(0, .ref (ad 168)), (1, .int a1)] [] μ := by
  refine j_iconst C0 4 dX6_does_0 (by decide) rfl ?_
  refine j_iload_n C0 1 dX6_does_1 rfl rfl rfl ?_
  refine j_imul C0 dX6_does_2 rfl ?_
  refine j_topi (fun v1 e_v1 => ?_)
  have hX := hX v1 e_v1
  refine j_istore_n C0 [(2, .int v1), (0, .ref (ad 168)), (1, .int a1)] dX6_does_3 rfl (by decide) rfl rfl ?_
  refine j_aload_n C0 1 dX6_does_4 rfl rfl rfl ?_
  refine j_get6 C0 (v := .ref (ad 175)) 6 (rfl : kd 168 = 6) fw_X6_does_6 hw_X6_does_0 (fun _ h9 => h9) (by decide) rfl dX6_does_5 rfl ?_
  refine j_iload_n C0 0 dX6_does_8 rfl rfl rfl ?_
  refine j_iconst C0 1 dX6_does_9 (by decide) rfl ?_
  refine j_iadd C0 dX6_does_10 rfl ?_
  obtain ⟨h2, hX⟩ := hX
  refine j_iald C0 (n := 84) (kd_lt (rfl : kd 175 = 21) (by decide)) (ce21 (rfl : kd 175 = 21)) h2 dX6_does_11 rfl ?_
  refine j_topi (fun v3 e_v3 => ?_)
  have hX := hX v3 e_v3
  refine j_istore_n C0 [(3, .int v3), (2, .int v1), (0, .ref (ad 168)), (1, .int a1)] dX6_does_12 rfl (by decide) rfl rfl ?_
  refine j_aload_n C0 2 dX6_does_13 rfl rfl rfl ?_
  refine j_get6 C0 (v := .ref (ad 175)) 6 (rfl : kd 168 = 6) fw_X6_does_6 hw_X6_does_0 (fun _ h9 => h9) (by decide) rfl dX6_does_14 rfl ?_
  refine j_iload_n C0 1 dX6_does_17 rfl rfl rfl ?_
  obtain ⟨h4, hX⟩ := hX
  refine j_iald C0 (n := 84) (kd_lt (rfl : kd 175 = 21) (by decide)) (ce21 (rfl : kd 175 = 21)) h4 dX6_does_18 rfl ?_
  by_cases c5 : (μ 175 v1.toNatClampNeg) = 62
  · have hX := hX.1 c5
    refine j_lookup C0 (off := 110) (tgt := 129) dX6_does_19 (by decide) (by rw [c5]; decide) (by decide) ?_
    refine j_aload_n C0 2 dX6_does_129 rfl rfl rfl ?_
    refine j_iload_n C0 0 dX6_does_130 rfl rfl rfl ?_
    refine j_aload_n C0 2 dX6_does_131 rfl rfl rfl ?_
    refine j_get6 C0 (v := .ref (ad 175)) 6 (rfl : kd 168 = 6) fw_X6_does_6 hw_X6_does_0 (fun _ h9 => h9) (by decide) rfl dX6_does_132 rfl ?_
    refine j_iload_n C0 1 dX6_does_135 rfl rfl rfl ?_
    refine j_iconst C0 2 dX6_does_136 (by decide) rfl ?_
    refine j_iadd C0 dX6_does_137 rfl ?_
    obtain ⟨h6, hX⟩ := hX
    refine j_iald C0 (n := 84) (kd_lt (rfl : kd 175 = 21) (by decide)) (ce21 (rfl : kd 175 = 21)) h6 dX6_does_138 rfl ?_
    refine j_aload_n C0 2 dX6_does_139 rfl rfl rfl ?_
    refine j_get6 C0 (v := .ref (ad 175)) 6 (rfl : kd 168 = 6) fw_X6_does_6 hw_X6_does_0 (fun _ h9 => h9) (by decide) rfl dX6_does_140 rfl ?_
    refine j_iload_n C0 1 dX6_does_143 rfl rfl rfl ?_
    refine j_iconst C0 3 dX6_does_144 (by decide) rfl ?_
    refine j_iadd C0 dX6_does_145 rfl ?_
    obtain ⟨h7, hX⟩ := hX
    refine j_iald C0 (n := 84) (kd_lt (rfl : kd 175 = 21) (by decide)) (ce21 (rfl : kd 175 = 21)) h7 dX6_does_146 rfl ?_
    refine j_callVi C0 3 [.int v3, .int (μ 175 (v1 + 2).toNatClampNeg), .int (μ 175 (v1 + 3).toNatClampNeg)] (c_X6_sweeps v3 (μ 175 (v1 + 2).toNatClampNeg) (μ 175 (v1 + 3).toNatClampNeg)  hX) dX6_does_147 gX6_does_X6_sweeps rfl (by decide +kernel) ⟨⟨Nat.le_of_ble_eq_true rfl, Nat.le_of_ble_eq_true rfl⟩, rfl, rfl⟩ (kd_lt (rfl : kd 168 = 6) (by decide)) (ce6 (rfl : kd 168 = 6)) rfl rfl rfl (Nat.le_of_ble_eq_true rfl) rfl (fun r9 μ8 hX => ?_)
    exact j_iret C0 hlk hret dX6_does_150 hX
  · have hX := hX.2 c5
    by_cases c10 : (μ 175 v1.toNatClampNeg) = 111
    · have hX := hX.1 c10
      refine j_lookup C0 (off := 91) (tgt := 110) dX6_does_19 (by decide) (by rw [c10]; decide) (by decide) ?_
      refine j_aload_n C0 2 dX6_does_110 rfl rfl rfl ?_
      refine j_iload_n C0 0 dX6_does_111 rfl rfl rfl ?_
      refine j_iconst C0 1 dX6_does_112 (by decide) rfl ?_
      refine j_aload_n C0 2 dX6_does_113 rfl rfl rfl ?_
      refine j_get6 C0 (v := .ref (ad 169)) 0 (rfl : kd 168 = 6) fw_X6_does_6 hw_X6_does_1 (fun _ h9 => h9) (by decide) rfl dX6_does_114 rfl ?_
      refine j_iload_n C0 0 dX6_does_117 rfl rfl rfl ?_
      refine j_callSi C0 1 [.int v3] (c_X6_w v3  hX) dX6_does_118 gX6_does_X6_w rfl (by decide +kernel) ⟨⟨Nat.le_of_ble_eq_true rfl, Nat.le_of_ble_eq_true rfl⟩, rfl, rfl⟩ rfl rfl (Nat.le_of_ble_eq_true rfl) rfl (fun r12 μ11 hX => ?_)
      refine j_iconst C0 4 dX6_does_121 (by decide) rfl ?_
      refine j_iadd C0 dX6_does_122 rfl ?_
      obtain ⟨h13, hX⟩ := hX
      refine j_iald C0 (n := 166) (kd_lt (rfl : kd 169 = 18) (by decide)) (ce18 (rfl : kd 169 = 18)) h13 dX6_does_123 rfl ?_
      refine j_isub C0 dX6_does_124 rfl ?_
      refine j_callVi C0 2 [.int v3, .int ((1 : Int32) - (μ11 169 (r12 + 4).toNatClampNeg))] (c_X6_turns v3 ((1 : Int32) - (μ11 169 (r12 + 4).toNatClampNeg))  hX) dX6_does_125 gX6_does_X6_turns rfl (by decide +kernel) ⟨⟨Nat.le_of_ble_eq_true rfl, Nat.le_of_ble_eq_true rfl⟩, rfl, rfl⟩ (kd_lt (rfl : kd 168 = 6) (by decide)) (ce6 (rfl : kd 168 = 6)) rfl rfl rfl (Nat.le_of_ble_eq_true rfl) rfl (fun r15 μ14 hX => ?_)
      exact j_iret C0 hlk hret dX6_does_128 hX
    · have hX := hX.2 c10
      by_cases c16 : (μ 175 v1.toNatClampNeg) = 115
      · have hX := hX.1 c16
        refine j_lookup C0 (off := 49) (tgt := 68) dX6_does_19 (by decide) (by rw [c16]; decide) (by decide) ?_
        refine j_aload_n C0 2 dX6_does_68 rfl rfl rfl ?_
        refine j_iload_n C0 0 dX6_does_69 rfl rfl rfl ?_
        refine j_aload_n C0 2 dX6_does_70 rfl rfl rfl ?_
        refine j_get6 C0 (v := .ref (ad 175)) 6 (rfl : kd 168 = 6) fw_X6_does_6 hw_X6_does_0 (fun _ h9 => h9) (by decide) rfl dX6_does_71 rfl ?_
        refine j_iload_n C0 1 dX6_does_74 rfl rfl rfl ?_
        refine j_iconst C0 2 dX6_does_75 (by decide) rfl ?_
        refine j_iadd C0 dX6_does_76 rfl ?_
        obtain ⟨h17, hX⟩ := hX
        refine j_iald C0 (n := 84) (kd_lt (rfl : kd 175 = 21) (by decide)) (ce21 (rfl : kd 175 = 21)) h17 dX6_does_77 rfl ?_
        refine j_callVi C0 2 [.int v3, .int (μ 175 (v1 + 2).toNatClampNeg)] (c_X6_steps v3 (μ 175 (v1 + 2).toNatClampNeg)  hX) dX6_does_78 gX6_does_X6_steps rfl (by decide +kernel) ⟨⟨Nat.le_of_ble_eq_true rfl, Nat.le_of_ble_eq_true rfl⟩, rfl, rfl⟩ (kd_lt (rfl : kd 168 = 6) (by decide)) (ce6 (rfl : kd 168 = 6)) rfl rfl rfl (Nat.le_of_ble_eq_true rfl) rfl (fun r19 μ18 hX => ?_)
        exact j_iret C0 hlk hret dX6_does_81 hX
      · have hX := hX.2 c16
        by_cases c20 : (μ 175 v1.toNatClampNeg) = 116
        · have hX := hX.1 c20
          refine j_lookup C0 (off := 63) (tgt := 82) dX6_does_19 (by decide) (by rw [c20]; decide) (by decide) ?_
          refine j_aload_n C0 2 dX6_does_82 rfl rfl rfl ?_
          refine j_iload_n C0 0 dX6_does_83 rfl rfl rfl ?_
          refine j_aload_n C0 2 dX6_does_84 rfl rfl rfl ?_
          refine j_get6 C0 (v := .ref (ad 175)) 6 (rfl : kd 168 = 6) fw_X6_does_6 hw_X6_does_0 (fun _ h9 => h9) (by decide) rfl dX6_does_85 rfl ?_
          refine j_iload_n C0 1 dX6_does_88 rfl rfl rfl ?_
          refine j_iconst C0 2 dX6_does_89 (by decide) rfl ?_
          refine j_iadd C0 dX6_does_90 rfl ?_
          obtain ⟨h21, hX⟩ := hX
          refine j_iald C0 (n := 84) (kd_lt (rfl : kd 175 = 21) (by decide)) (ce21 (rfl : kd 175 = 21)) h21 dX6_does_91 rfl ?_
          refine j_callVi C0 2 [.int v3, .int (μ 175 (v1 + 2).toNatClampNeg)] (c_X6_tables v3 (μ 175 (v1 + 2).toNatClampNeg)  hX) dX6_does_92 gX6_does_X6_tables rfl (by decide +kernel) ⟨⟨Nat.le_of_ble_eq_true rfl, Nat.le_of_ble_eq_true rfl⟩, rfl, rfl⟩ (kd_lt (rfl : kd 168 = 6) (by decide)) (ce6 (rfl : kd 168 = 6)) rfl rfl rfl (Nat.le_of_ble_eq_true rfl) rfl (fun r23 μ22 hX => ?_)
          exact j_iret C0 hlk hret dX6_does_95 hX
        · have hX := hX.2 c20
          by_cases c24 : (μ 175 v1.toNatClampNeg) = 118
          · have hX := hX.1 c24
            refine j_lookup C0 (off := 77) (tgt := 96) dX6_does_19 (by decide) (by rw [c24]; decide) (by decide) ?_
            refine j_aload_n C0 2 dX6_does_96 rfl rfl rfl ?_
            refine j_iload_n C0 0 dX6_does_97 rfl rfl rfl ?_
            refine j_aload_n C0 2 dX6_does_98 rfl rfl rfl ?_
            refine j_get6 C0 (v := .ref (ad 175)) 6 (rfl : kd 168 = 6) fw_X6_does_6 hw_X6_does_0 (fun _ h9 => h9) (by decide) rfl dX6_does_99 rfl ?_
            refine j_iload_n C0 1 dX6_does_102 rfl rfl rfl ?_
            refine j_iconst C0 2 dX6_does_103 (by decide) rfl ?_
            refine j_iadd C0 dX6_does_104 rfl ?_
            obtain ⟨h25, hX⟩ := hX
            refine j_iald C0 (n := 84) (kd_lt (rfl : kd 175 = 21) (by decide)) (ce21 (rfl : kd 175 = 21)) h25 dX6_does_105 rfl ?_
            refine j_callVi C0 2 [.int v3, .int (μ 175 (v1 + 2).toNatClampNeg)] (c_X6_volumes v3 (μ 175 (v1 + 2).toNatClampNeg)  hX) dX6_does_106 gX6_does_X6_volumes rfl (by decide +kernel) ⟨⟨Nat.le_of_ble_eq_true rfl, Nat.le_of_ble_eq_true rfl⟩, rfl, rfl⟩ (kd_lt (rfl : kd 168 = 6) (by decide)) (ce6 (rfl : kd 168 = 6)) rfl rfl rfl (Nat.le_of_ble_eq_true rfl) rfl (fun r27 μ26 hX => ?_)
            exact j_iret C0 hlk hret dX6_does_109 hX
          · have hX := hX.2 c24
            refine j_lookup C0 (off := 132) (tgt := 151) dX6_does_19 (by decide) (by rw [lv_osw c5 (by decide), lv_osw c10 (by decide), lv_osw c16 (by decide), lv_osw c20 (by decide), lv_osw c24 (by decide)]; rfl) (by decide) ?_
            refine j_aload_n C0 2 dX6_does_151 rfl rfl rfl ?_
            refine j_aload_n C0 2 dX6_does_152 rfl rfl rfl ?_
            refine j_get6 C0 (v := .ref (ad 175)) 6 (rfl : kd 168 = 6) fw_X6_does_6 hw_X6_does_0 (fun _ h9 => h9) (by decide) rfl dX6_does_153 rfl ?_
            refine j_iload_n C0 1 dX6_does_156 rfl rfl rfl ?_
            refine j_iconst C0 2 dX6_does_157 (by decide) rfl ?_
            refine j_iadd C0 dX6_does_158 rfl ?_
            obtain ⟨h28, hX⟩ := hX
            refine j_iald C0 (n := 84) (kd_lt (rfl : kd 175 = 21) (by decide)) (ce21 (rfl : kd 175 = 21)) h28 dX6_does_159 rfl ?_
            refine j_callVi C0 1 [.int (μ 175 (v1 + 2).toNatClampNeg)] (c_X6_makesAll (μ 175 (v1 + 2).toNatClampNeg)  hX) dX6_does_160 gX6_does_X6_makesAll rfl (by decide +kernel) ⟨⟨Nat.le_of_ble_eq_true rfl, Nat.le_of_ble_eq_true rfl⟩, rfl, rfl⟩ (kd_lt (rfl : kd 168 = 6) (by decide)) (ce6 (rfl : kd 168 = 6)) rfl rfl rfl (Nat.le_of_ble_eq_true rfl) rfl (fun r30 μ29 hX => ?_)
            exact j_iret C0 hlk hret dX6_does_163 hX
theorem c_X6_does {l : Launch} {D : va_G} {Y : Nat → ClassId} {ad : Nat → Nat} (a1 : Int32) {μ : Mem} {K : Int32 → Mem → Prop}  (hX : x_X6_does a1 μ K) : ConI l yX6_does wsX6_does rm_X6_does [.ref (ad 168), .int a1] D Y ad μ K := conI_of (cc := cX6_does) (maxL := 4) (ret := (some .int)) (own := RX6) _ (by decide +kernel) rfl rfl (Nat.le_of_ble_eq_true rfl) (fun p e s m args below meth c C0 hlk hret => j_sub (l' := [(0, .ref (ad 168)), (1, .int a1)]) [0, 1] rfl (w_X6_does C0 hlk hret a1 μ K  hX))
/-! PhaseTonesModel.run()I -/
abbrev rm_X6_run : Room := rmf 6 133
theorem fw_X6_run_6 : ∀ w ∈ wsX60, w ∈ wsX6_run := by decide +kernel
theorem hw_X6_run_0 : Cond.fieldLink RX6 109 RX6 (TX6 10).2.1 (TX6 10).2.2.1 ∈ wsX6_run := by decide +kernel
theorem hw_X6_run_1 : Cond.fieldLink RX6 102 RX6 (TX6 8).2.1 (TX6 8).2.2.1 ∈ wsX6_run := by decide +kernel
def x_X6_run_L40 (K : Int32 → Mem → Prop) (B : Int32 → Int32 → Mem → Prop) (a2 : Int32) (as0 : Int32) (as1 : Int32) (μ : Mem) : Prop :=
  ∀ v12 : Int32, v12 = (as1 + as0) → ∀ v13 : Int32, v13 = a2 + 1 → B v12 v13 μ
set_option maxRecDepth 20000 in
theorem w_X6_run_L40 {p : Program} {l : Launch} {e : Env} {s : State} {m : MethodId} {args : Array Value} {below : List Frame} {meth : Method} {c : Code} {D : va_G} {Y : Nat → ClassId} {ad : Nat → Nat} (C0 : CX D Y ad (PA ad) rm_X6_run 0 0 p s args m c cX6_run 3 RX6 wsX6_run) (hlk : meth.locks = false) (hret : meth.sig.returnType = (some .int)) (a2 : Int32) (as0 : Int32) (as1 : Int32) (μ : Mem) (K : Int32 → Mem → Prop) (B : Int32 → Int32 → Mem → Prop) (hB : ∀ (a1 : Int32) (a2 : Int32) (μ : Mem), B a1 a2 μ → J p l e rm_X6_run s m args below meth c D Y ad (PA ad) 0 0 3 (MQ below (va_Qi K (BB D Y ad) (PA ad)) args s 0 0 (PA ad)) 18 [(0, .ref (ad 168)), (1, .int a1), (2, .int a2)] [] μ)  (hX : x_X6_run_L40 K B a2 as0 as1 μ) : J p l e rm_X6_run s m args below meth c D Y ad (PA ad) 0 0 3 (MQ below (va_Qi K (BB D Y ad) (PA ad)) args s 0 0 (PA ad)) 40 [(0, .ref (ad 168)), (2, .int a2)] [.int as0, .int as1] μ := by
  refine j_iadd C0 dX6_run_40 rfl ?_
  refine j_topi (fun v12 e_v12 => ?_)
  have hX := hX v12 e_v12
  refine j_istore_n C0 [(1, .int v12), (0, .ref (ad 168)), (2, .int a2)] dX6_run_41 rfl (by decide) rfl rfl ?_
  obtain ⟨v13, e_v13⟩ : ∃ z : Int32, z = a2 + 1 := ⟨_, rfl⟩
  have hX := hX v13 e_v13
  refine j_iinc C0 2 v13 [(2, .int v13), (1, .int v12), (0, .ref (ad 168))] dX6_run_42 rfl (by rw [e_v13]; rfl) (by decide) rfl rfl ?_
  refine j_goto C0 (tgt := 18) dX6_run_45 (by decide) ?_
  exact j_sub (l' := [(0, .ref (ad 168)), (1, .int v12), (2, .int v13)]) [2, 1, 0] rfl (hB v12 v13 μ  hX)
def xb_X6_run_L18 (K : Int32 → Mem → Prop) (B : Int32 → Int32 → Mem → Prop) (a1 : Int32) (a2 : Int32) (μ : Mem) : Prop :=
  ((μ 168 10) ≤ a2 → ∀ μ6 : Mem, μ6 = um μ 168 (upd (μ 168) 8 0) → x_X6_recorded a1 μ6 (fun r8 μ7 => K r8 μ7)) ∧ (¬ ((μ 168 10) ≤ a2) → x_X6_does a2 μ (fun r10 μ9 => (r10 < 0 → x_X6_run_L40 K B a2 0 a1 μ9) ∧ (¬ (r10 < 0) → x_X6_run_L40 K B a2 1 a1 μ9)))
def x_X6_run_L18 (K : Int32 → Mem → Prop) : Nat → Int32 → Int32 → Mem → Prop
  | 0 => fun _ _ _ => False
  | n + 1 => fun a1 a2 μ => xb_X6_run_L18 K (x_X6_run_L18 K n) a1 a2 μ
set_option maxRecDepth 20000 in
theorem wb_X6_run_L18 {p : Program} {l : Launch} {e : Env} {s : State} {m : MethodId} {args : Array Value} {below : List Frame} {meth : Method} {c : Code} {D : va_G} {Y : Nat → ClassId} {ad : Nat → Nat} (C0 : CX D Y ad (PA ad) rm_X6_run 0 0 p s args m c cX6_run 3 RX6 wsX6_run) (hlk : meth.locks = false) (hret : meth.sig.returnType = (some .int)) (a1 : Int32) (a2 : Int32) (μ : Mem) (K : Int32 → Mem → Prop) (B : Int32 → Int32 → Mem → Prop) (hB : ∀ (a1 : Int32) (a2 : Int32) (μ : Mem), B a1 a2 μ → J p l e rm_X6_run s m args below meth c D Y ad (PA ad) 0 0 3 (MQ below (va_Qi K (BB D Y ad) (PA ad)) args s 0 0 (PA ad)) 18 [(0, .ref (ad 168)), (1, .int a1), (2, .int a2)] [] μ)  (hX : xb_X6_run_L18 K B a1 a2 μ) : J p l e rm_X6_run s m args below meth c D Y ad (PA ad) 0 0 3 (MQ below (va_Qi K (BB D Y ad) (PA ad)) args s 0 0 (PA ad)) 18 [(0, .ref (ad 168)), (1, .int a1), (2, .int a2)] [] μ := by
  refine j_iload_n C0 2 dX6_run_18 rfl rfl rfl ?_
  refine j_aload_n C0 0 dX6_run_19 rfl rfl rfl ?_
  refine j_get6 C0 (v := .int (μ 168 10)) 10 (rfl : kd 168 = 6) fw_X6_run_6 hw_X6_run_0 (fun _ h9 => h9) (by decide) rfl dX6_run_20 rfl ?_
  refine j_icmp_ge C0 (tgt := 48) dX6_run_23 (by decide) rfl (fun c5 => ?_) (fun c5 => ?_)
  · have hX := hX.1 c5
    refine j_aload_n C0 0 dX6_run_48 rfl rfl rfl ?_
    refine j_iconst C0 0 dX6_run_49 (by decide) rfl ?_
    refine j_put6_8 C0 (rfl : kd 168 = 6) fw_X6_run_6 hw_X6_run_1 dX6_run_50 rfl ?_
    refine j_nm (fun μ6 e_μ6 => ?_)
    have hX := hX μ6 e_μ6
    refine j_aload_n C0 0 dX6_run_53 rfl rfl rfl ?_
    refine j_iload_n C0 1 dX6_run_54 rfl rfl rfl ?_
    refine j_callVi C0 1 [.int a1] (c_X6_recorded a1  hX) dX6_run_55 gX6_run_X6_recorded rfl (by decide +kernel) ⟨⟨Nat.le_of_ble_eq_true rfl, Nat.le_of_ble_eq_true rfl⟩, rfl, rfl⟩ (kd_lt (rfl : kd 168 = 6) (by decide)) (ce6 (rfl : kd 168 = 6)) rfl rfl rfl (Nat.le_of_ble_eq_true rfl) rfl (fun r8 μ7 hX => ?_)
    exact j_iret C0 hlk hret dX6_run_58 hX
  · have hX := hX.2 c5
    refine j_iload_n C0 1 dX6_run_26 rfl rfl rfl ?_
    refine j_aload_n C0 0 dX6_run_27 rfl rfl rfl ?_
    refine j_iload_n C0 2 dX6_run_28 rfl rfl rfl ?_
    refine j_callVi C0 1 [.int a2] (c_X6_does a2  hX) dX6_run_29 gX6_run_X6_does rfl (by decide +kernel) ⟨⟨Nat.le_of_ble_eq_true rfl, Nat.le_of_ble_eq_true rfl⟩, rfl, rfl⟩ (kd_lt (rfl : kd 168 = 6) (by decide)) (ce6 (rfl : kd 168 = 6)) rfl rfl rfl (Nat.le_of_ble_eq_true rfl) rfl (fun r10 μ9 hX => ?_)
    refine j_if_lt C0 (tgt := 39) dX6_run_32 (by decide) rfl (fun c11 => ?_) (fun c11 => ?_)
    · have hX := hX.1 c11
      refine j_iconst C0 0 dX6_run_39 (by decide) rfl ?_
      exact j_sub (l' := [(0, .ref (ad 168)), (2, .int a2)]) [0, 2] rfl (w_X6_run_L40 C0 hlk hret a2 0 a1 μ9 K B hB  hX)
    · have hX := hX.2 c11
      refine j_iconst C0 1 dX6_run_35 (by decide) rfl ?_
      refine j_goto C0 (tgt := 40) dX6_run_36 (by decide) ?_
      exact j_sub (l' := [(0, .ref (ad 168)), (2, .int a2)]) [0, 2] rfl (w_X6_run_L40 C0 hlk hret a2 1 a1 μ9 K B hB  hX)
theorem w_X6_run_L18 {p : Program} {l : Launch} {e : Env} {s : State} {m : MethodId} {args : Array Value} {below : List Frame} {meth : Method} {c : Code} {D : va_G} {Y : Nat → ClassId} {ad : Nat → Nat} (C0 : CX D Y ad (PA ad) rm_X6_run 0 0 p s args m c cX6_run 3 RX6 wsX6_run) (hlk : meth.locks = false) (hret : meth.sig.returnType = (some .int)) (K : Int32 → Mem → Prop) : ∀ (n : Nat) (a1 : Int32) (a2 : Int32) (μ : Mem)  (hX : x_X6_run_L18 K n a1 a2 μ), J p l e rm_X6_run s m args below meth c D Y ad (PA ad) 0 0 3 (MQ below (va_Qi K (BB D Y ad) (PA ad)) args s 0 0 (PA ad)) 18 [(0, .ref (ad 168)), (1, .int a1), (2, .int a2)] [] μ
  | 0, a1, a2, μ, hX => hX.elim
  | n + 1, a1, a2, μ, hX => wb_X6_run_L18 C0 hlk hret a1 a2 μ K (x_X6_run_L18 K n) (fun a1 a2 μ  hx => w_X6_run_L18 C0 hlk hret K n a1 a2 μ  hx)  hX
def x_X6_run  (μ : Mem) (K : Int32 → Mem → Prop) : Prop :=
  x_X6_faultOf  μ (fun r2 μ1 => (r2 < 0 → x_X6_hold  μ1 (fun μ4 => ∃ n : Nat, x_X6_run_L18 K n 0 0 μ4)) ∧ (¬ (r2 < 0) → K (-3) μ1))
set_option maxRecDepth 20000 in
theorem w_X6_run {p : Program} {l : Launch} {e : Env} {s : State} {m : MethodId} {args : Array Value} {below : List Frame} {meth : Method} {c : Code} {D : va_G} {Y : Nat → ClassId} {ad : Nat → Nat} (C0 : CX D Y ad (PA ad) rm_X6_run 0 0 p s args m c cX6_run 3 RX6 wsX6_run) (hlk : meth.locks = false) (hret : meth.sig.returnType = (some .int))  (μ : Mem) (K : Int32 → Mem → Prop)  (hX : x_X6_run  μ K) : J p l e rm_X6_run s m args below meth c D Y ad (PA ad) 0 0 3 (MQ below (va_Qi K (BB D Y ad) (PA ad)) args s 0 0 (PA ad)) 0 [(0, .ref (ad 168))] [] μ := by
  refine j_aload_n C0 0 dX6_run_0 rfl rfl rfl ?_
  refine j_callVi C0 0 [] (c_X6_faultOf   hX) dX6_run_1 gX6_run_X6_faultOf rfl (by decide +kernel) ⟨⟨Nat.le_of_ble_eq_true rfl, Nat.le_of_ble_eq_true rfl⟩, rfl, rfl⟩ (kd_lt (rfl : kd 168 = 6) (by decide)) (ce6 (rfl : kd 168 = 6)) rfl rfl rfl (Nat.le_of_ble_eq_true rfl) rfl (fun r2 μ1 hX => ?_)
  refine j_if_lt C0 (tgt := 10) dX6_run_4 (by decide) rfl (fun c3 => ?_) (fun c3 => ?_)
  · have hX := hX.1 c3
    refine j_aload_n C0 0 dX6_run_10 rfl rfl rfl ?_
    refine j_callVv C0 0 [] (c_X6_hold   hX) dX6_run_11 gX6_run_X6_hold rfl (by decide +kernel) ⟨⟨Nat.le_of_ble_eq_true rfl, Nat.le_of_ble_eq_true rfl⟩, rfl, rfl⟩ (kd_lt (rfl : kd 168 = 6) (by decide)) (ce6 (rfl : kd 168 = 6)) rfl rfl rfl (Nat.le_of_ble_eq_true rfl) rfl (fun μ4 hX => ?_)
    refine j_iconst C0 0 dX6_run_14 (by decide) rfl ?_
    refine j_istore_n C0 [(1, .int 0), (0, .ref (ad 168))] dX6_run_15 rfl (by decide) rfl rfl ?_
    refine j_iconst C0 0 dX6_run_16 (by decide) rfl ?_
    refine j_istore_n C0 [(2, .int 0), (1, .int 0), (0, .ref (ad 168))] dX6_run_17 rfl (by decide) rfl rfl ?_
    obtain ⟨n, hX⟩ := hX
    exact j_sub (l' := [(0, .ref (ad 168)), (1, .int 0), (2, .int 0)]) [2, 1, 0] rfl (w_X6_run_L18 C0 hlk hret K n 0 0 μ4  hX)
  · have hX := hX.2 c3
    refine j_bipush C0 (-3) dX6_run_7 (by decide) rfl ?_
    exact j_iret C0 hlk hret dX6_run_9 hX
theorem c_X6_run {l : Launch} {D : va_G} {Y : Nat → ClassId} {ad : Nat → Nat}  {μ : Mem} {K : Int32 → Mem → Prop}  (hX : x_X6_run  μ K) : ConI l yX6_run wsX6_run rm_X6_run [.ref (ad 168)] D Y ad μ K := conI_of (cc := cX6_run) (maxL := 3) (ret := (some .int)) (own := RX6) _ (by decide +kernel) rfl rfl (Nat.le_of_ble_eq_true rfl) (fun p e s m args below meth c C0 hlk hret => j_sub (l' := [(0, .ref (ad 168))]) [0] rfl (w_X6_run C0 hlk hret  μ K  hX))
/-! PhaseTonesModel.image(I)I -/
abbrev rm_X6_image : Room := rmf 0 0
theorem hw_X6_image_0 : Cond.constant RX6 135 (32768) ∈ wsX6_image := by decide +kernel
theorem hw_X6_image_1 : Cond.constant RX6 51 (65536) ∈ wsX6_image := by decide +kernel
def x_X6_image (a0 : Int32) (μ : Mem) (K : Int32 → Mem → Prop) : Prop :=
  (32768 < a0 → K ((65536 : Int32) - a0) μ) ∧ (¬ (32768 < a0) → K a0 μ)
set_option maxRecDepth 20000 in
theorem w_X6_image {p : Program} {l : Launch} {e : Env} {s : State} {m : MethodId} {args : Array Value} {below : List Frame} {meth : Method} {c : Code} {D : va_G} {Y : Nat → ClassId} {ad : Nat → Nat} (C0 : CX D Y ad (PA ad) rm_X6_image 0 0 p s args m c cX6_image 1 RX6 wsX6_image) (hlk : meth.locks = false) (hret : meth.sig.returnType = (some .int)) (a0 : Int32) (μ : Mem) (K : Int32 → Mem → Prop)  (hX : x_X6_image a0 μ K) : J p l e rm_X6_image s m args below meth c D Y ad (PA ad) 0 0 1 (MQ below (va_Qi K (BB D Y ad) (PA ad)) args s 0 0 (PA ad)) 0 [(0, .int a0)] [] μ := by
  refine j_iload_n C0 0 dX6_image_0 rfl rfl rfl ?_
  refine j_ldc C0 32768 dX6_image_1 hw_X6_image_0 rfl ?_
  refine j_icmp_gt C0 (tgt := 10) dX6_image_3 (by decide) rfl (fun c1 => ?_) (fun c1 => ?_)
  · have hX := hX.1 c1
    refine j_ldc C0 65536 dX6_image_10 hw_X6_image_1 rfl ?_
    refine j_iload_n C0 0 dX6_image_12 rfl rfl rfl ?_
    refine j_isub C0 dX6_image_13 rfl ?_
    exact j_iret C0 hlk hret dX6_image_14 hX
  · have hX := hX.2 c1
    refine j_iload_n C0 0 dX6_image_6 rfl rfl rfl ?_
    refine j_goto C0 (tgt := 14) dX6_image_7 (by decide) ?_
    exact j_iret C0 hlk hret dX6_image_14 hX
theorem c_X6_image {l : Launch} {D : va_G} {Y : Nat → ClassId} {ad : Nat → Nat} (a0 : Int32) {μ : Mem} {K : Int32 → Mem → Prop}  (hX : x_X6_image a0 μ K) : ConI l yX6_image wsX6_image rm_X6_image [.int a0] D Y ad μ K := conI_of (cc := cX6_image) (maxL := 1) (ret := (some .int)) (own := RX6) _ (by decide +kernel) rfl rfl (Nat.le_of_ble_eq_true rfl) (fun p e s m args below meth c C0 hlk hret => j_sub (l' := [(0, .int a0)]) [0] rfl (w_X6_image C0 hlk hret a0 μ K  hX))
/-! PhaseTonesModel.around(I)I -/
abbrev rm_X6_around : Room := rmf 0 0
theorem hw_X6_around_0 : Cond.constant RX6 51 (65536) ∈ wsX6_around := by decide +kernel
def xb_X6_around_L5 (K : Int32 → Mem → Prop) (B : Int32 → Int32 → Mem → Prop) (a1 : Int32) (a2 : Int32) (μ : Mem) : Prop :=
  (a1 ≤ 1 → K a1 μ) ∧ (¬ (a1 ≤ 1) → ((a2 - a2 / 2 * 2) = 0 → ∀ v3 : Int32, v3 = (a1 / 2) → ∀ v4 : Int32, v4 = (a2 / 2) → B v3 v4 μ) ∧ (¬ ((a2 - a2 / 2 * 2) = 0) → K a1 μ))
def x_X6_around_L5 (K : Int32 → Mem → Prop) : Nat → Int32 → Int32 → Mem → Prop
  | 0 => fun _ _ _ => False
  | n + 1 => fun a1 a2 μ => xb_X6_around_L5 K (x_X6_around_L5 K n) a1 a2 μ
set_option maxRecDepth 20000 in
theorem wb_X6_around_L5 {p : Program} {l : Launch} {e : Env} {s : State} {m : MethodId} {args : Array Value} {below : List Frame} {meth : Method} {c : Code} {D : va_G} {Y : Nat → ClassId} {ad : Nat → Nat} (C0 : CX D Y ad (PA ad) rm_X6_around 0 0 p s args m c cX6_around 3 RX6 wsX6_around) (hlk : meth.locks = false) (hret : meth.sig.returnType = (some .int)) (a1 : Int32) (a2 : Int32) (μ : Mem) (K : Int32 → Mem → Prop) (B : Int32 → Int32 → Mem → Prop) (hB : ∀ (a1 : Int32) (a2 : Int32) (μ : Mem), B a1 a2 μ → J p l e rm_X6_around s m args below meth c D Y ad (PA ad) 0 0 3 (MQ below (va_Qi K (BB D Y ad) (PA ad)) args s 0 0 (PA ad)) 5 [(1, .int a1), (2, .int a2)] [] μ)  (hX : xb_X6_around_L5 K B a1 a2 μ) : J p l e rm_X6_around s m args below meth c D Y ad (PA ad) 0 0 3 (MQ below (va_Qi K (BB D Y ad) (PA ad)) args s 0 0 (PA ad)) 5 [(1, .int a1), (2, .int a2)] [] μ := by
  refine j_iload_n C0 0 dX6_around_5 rfl rfl rfl ?_
  refine j_iconst C0 1 dX6_around_6 (by decide) rfl ?_
  refine j_icmp_le C0 (tgt := 27) dX6_around_7 (by decide) rfl (fun c1 => ?_) (fun c1 => ?_)
  · have hX := hX.1 c1
    refine j_iload_n C0 0 dX6_around_27 rfl rfl rfl ?_
    exact j_iret C0 hlk hret dX6_around_28 hX
  · have hX := hX.2 c1
    refine j_iload_n C0 1 dX6_around_10 rfl rfl rfl ?_
    refine j_iconst C0 2 dX6_around_11 (by decide) rfl ?_
    refine j_irem C0 dX6_around_12 (by decide) rfl ?_
    refine j_if_ne C0 (tgt := 27) dX6_around_13 (by decide) rfl (fun c2 => ?_) (fun c2 => ?_)
    · have hX := hX.1 c2
      refine j_iload_n C0 0 dX6_around_16 rfl rfl rfl ?_
      refine j_iconst C0 2 dX6_around_17 (by decide) rfl ?_
      refine j_idiv C0 dX6_around_18 (by decide) rfl ?_
      refine j_topi (fun v3 e_v3 => ?_)
      have hX := hX v3 e_v3
      refine j_istore_n C0 [(1, .int v3), (2, .int a2)] dX6_around_19 rfl (by decide) rfl rfl ?_
      refine j_iload_n C0 1 dX6_around_20 rfl rfl rfl ?_
      refine j_iconst C0 2 dX6_around_21 (by decide) rfl ?_
      refine j_idiv C0 dX6_around_22 (by decide) rfl ?_
      refine j_topi (fun v4 e_v4 => ?_)
      have hX := hX v4 e_v4
      refine j_istore_n C0 [(2, .int v4), (1, .int v3)] dX6_around_23 rfl (by decide) rfl rfl ?_
      refine j_goto C0 (tgt := 5) dX6_around_24 (by decide) ?_
      exact j_sub (l' := [(1, .int v3), (2, .int v4)]) [1, 0] rfl (hB v3 v4 μ  hX)
    · have hX := hX.2 c2
      refine j_iload_n C0 0 dX6_around_27 rfl rfl rfl ?_
      exact j_iret C0 hlk hret dX6_around_28 hX
theorem w_X6_around_L5 {p : Program} {l : Launch} {e : Env} {s : State} {m : MethodId} {args : Array Value} {below : List Frame} {meth : Method} {c : Code} {D : va_G} {Y : Nat → ClassId} {ad : Nat → Nat} (C0 : CX D Y ad (PA ad) rm_X6_around 0 0 p s args m c cX6_around 3 RX6 wsX6_around) (hlk : meth.locks = false) (hret : meth.sig.returnType = (some .int)) (K : Int32 → Mem → Prop) : ∀ (n : Nat) (a1 : Int32) (a2 : Int32) (μ : Mem)  (hX : x_X6_around_L5 K n a1 a2 μ), J p l e rm_X6_around s m args below meth c D Y ad (PA ad) 0 0 3 (MQ below (va_Qi K (BB D Y ad) (PA ad)) args s 0 0 (PA ad)) 5 [(1, .int a1), (2, .int a2)] [] μ
  | 0, a1, a2, μ, hX => hX.elim
  | n + 1, a1, a2, μ, hX => wb_X6_around_L5 C0 hlk hret a1 a2 μ K (x_X6_around_L5 K n) (fun a1 a2 μ  hx => w_X6_around_L5 C0 hlk hret K n a1 a2 μ  hx)  hX
def x_X6_around (a0 : Int32) (μ : Mem) (K : Int32 → Mem → Prop) : Prop :=
  ∃ n : Nat, x_X6_around_L5 K n 65536 a0 μ
set_option maxRecDepth 20000 in
theorem w_X6_around {p : Program} {l : Launch} {e : Env} {s : State} {m : MethodId} {args : Array Value} {below : List Frame} {meth : Method} {c : Code} {D : va_G} {Y : Nat → ClassId} {ad : Nat → Nat} (C0 : CX D Y ad (PA ad) rm_X6_around 0 0 p s args m c cX6_around 3 RX6 wsX6_around) (hlk : meth.locks = false) (hret : meth.sig.returnType = (some .int)) (a0 : Int32) (μ : Mem) (K : Int32 → Mem → Prop)  (hX : x_X6_around a0 μ K) : J p l e rm_X6_around s m args below meth c D Y ad (PA ad) 0 0 3 (MQ below (va_Qi K (BB D Y ad) (PA ad)) args s 0 0 (PA ad)) 0 [(0, .int a0)] [] μ := by
  refine j_ldc C0 65536 dX6_around_0 hw_X6_around_0 rfl ?_
  refine j_istore_n C0 [(1, .int 65536), (0, .int a0)] dX6_around_2 rfl (by decide) rfl rfl ?_
  refine j_iload_n C0 1 dX6_around_3 rfl rfl rfl ?_
  refine j_istore_n C0 [(2, .int a0), (1, .int 65536), (0, .int a0)] dX6_around_4 rfl (by decide) rfl rfl ?_
  obtain ⟨n, hX⟩ := hX
  exact j_sub (l' := [(1, .int 65536), (2, .int a0)]) [1, 0] rfl (w_X6_around_L5 C0 hlk hret K n 65536 a0 μ  hX)
theorem c_X6_around {l : Launch} {D : va_G} {Y : Nat → ClassId} {ad : Nat → Nat} (a0 : Int32) {μ : Mem} {K : Int32 → Mem → Prop}  (hX : x_X6_around a0 μ K) : ConI l yX6_around wsX6_around rm_X6_around [.int a0] D Y ad μ K := conI_of (cc := cX6_around) (maxL := 3) (ret := (some .int)) (own := RX6) _ (by decide +kernel) rfl rfl (Nat.le_of_ble_eq_true rfl) (fun p e s m args below meth c C0 hlk hret => j_sub (l' := [(0, .int a0)]) [0] rfl (w_X6_around C0 hlk hret a0 μ K  hX))
/-! PhaseTonesModel.sweepsTake(I)I -/
abbrev rm_X6_sweepsTake : Room := rmf 1 20
theorem fw_X6_sweepsTake_6 : ∀ w ∈ wsX60, w ∈ wsX6_sweepsTake := by decide +kernel
theorem hw_X6_sweepsTake_0 : Cond.fieldLink RX6 7 RX6 (TX6 0).2.1 (TX6 0).2.2.1 ∈ wsX6_sweepsTake := by decide +kernel
def xb_X6_sweepsTake_L19 (K : Int32 → Mem → Prop) (B : Int32 → Int32 → Int32 → Mem → Prop) (a2 : Int32) (a3 : Int32) (a4 : Int32) (μ : Mem) : Prop :=
  vp_in (a2 + 5) 166 ∧ ((μ 169 (a2 + 5).toNatClampNeg) ≤ a4 → K a3 μ) ∧ (¬ ((μ 169 (a2 + 5).toNatClampNeg) ≤ a4) → vp_in (((a2 + 8) + ((2 : Int32) * a4)) + 1) 166 ∧ ∀ v8 : Int32, v8 = (a3 + (μ 169 (((a2 + 8) + ((2 : Int32) * a4)) + 1).toNatClampNeg)) → ∀ v9 : Int32, v9 = a4 + 1 → B a2 v8 v9 μ)
def x_X6_sweepsTake_L19 (K : Int32 → Mem → Prop) : Nat → Int32 → Int32 → Int32 → Mem → Prop
  | 0 => fun _ _ _ _ => False
  | n + 1 => fun a2 a3 a4 μ => xb_X6_sweepsTake_L19 K (x_X6_sweepsTake_L19 K n) a2 a3 a4 μ
set_option maxRecDepth 20000 in
theorem wb_X6_sweepsTake_L19 {p : Program} {l : Launch} {e : Env} {s : State} {m : MethodId} {args : Array Value} {below : List Frame} {meth : Method} {c : Code} {D : va_G} {Y : Nat → ClassId} {ad : Nat → Nat} (C0 : CX D Y ad (PA ad) rm_X6_sweepsTake 0 0 p s args m c cX6_sweepsTake 5 RX6 wsX6_sweepsTake) (hlk : meth.locks = false) (hret : meth.sig.returnType = (some .int)) (a2 : Int32) (a3 : Int32) (a4 : Int32) (μ : Mem) (K : Int32 → Mem → Prop) (B : Int32 → Int32 → Int32 → Mem → Prop) (hB : ∀ (a2 : Int32) (a3 : Int32) (a4 : Int32) (μ : Mem), B a2 a3 a4 μ → J p l e rm_X6_sweepsTake s m args below meth c D Y ad (PA ad) 0 0 5 (MQ below (va_Qi K (BB D Y ad) (PA ad)) args s 0 0 (PA ad)) 19 [(0, .ref (ad 168)), (2, .int a2), (3, .int a3), (4, .int a4)] [] μ)  (hX : xb_X6_sweepsTake_L19 K B a2 a3 a4 μ) : J p l e rm_X6_sweepsTake s m args below meth c D Y ad (PA ad) 0 0 5 (MQ below (va_Qi K (BB D Y ad) (PA ad)) args s 0 0 (PA ad)) 19 [(0, .ref (ad 168)), (2, .int a2), (3, .int a3), (4, .int a4)] [] μ := by
  refine j_iload C0 3 dX6_sweepsTake_19 rfl rfl ?_
  refine j_aload_n C0 0 dX6_sweepsTake_21 rfl rfl rfl ?_
  refine j_get6 C0 (v := .ref (ad 169)) 0 (rfl : kd 168 = 6) fw_X6_sweepsTake_6 hw_X6_sweepsTake_0 (fun _ h9 => h9) (by decide) rfl dX6_sweepsTake_22 rfl ?_
  refine j_iload_n C0 1 dX6_sweepsTake_25 rfl rfl rfl ?_
  refine j_iconst C0 5 dX6_sweepsTake_26 (by decide) rfl ?_
  refine j_iadd C0 dX6_sweepsTake_27 rfl ?_
  obtain ⟨h5, hX⟩ := hX
  refine j_iald C0 (n := 166) (kd_lt (rfl : kd 169 = 18) (by decide)) (ce18 (rfl : kd 169 = 18)) h5 dX6_sweepsTake_28 rfl ?_
  refine j_icmp_ge C0 (tgt := 57) dX6_sweepsTake_29 (by decide) rfl (fun c6 => ?_) (fun c6 => ?_)
  · have hX := hX.1 c6
    refine j_iload_n C0 2 dX6_sweepsTake_57 rfl rfl rfl ?_
    exact j_iret C0 hlk hret dX6_sweepsTake_58 hX
  · have hX := hX.2 c6
    refine j_iload_n C0 2 dX6_sweepsTake_32 rfl rfl rfl ?_
    refine j_aload_n C0 0 dX6_sweepsTake_33 rfl rfl rfl ?_
    refine j_get6 C0 (v := .ref (ad 169)) 0 (rfl : kd 168 = 6) fw_X6_sweepsTake_6 hw_X6_sweepsTake_0 (fun _ h9 => h9) (by decide) rfl dX6_sweepsTake_34 rfl ?_
    refine j_iload_n C0 1 dX6_sweepsTake_37 rfl rfl rfl ?_
    refine j_bipush C0 8 dX6_sweepsTake_38 (by decide) rfl ?_
    refine j_iadd C0 dX6_sweepsTake_40 rfl ?_
    refine j_iconst C0 2 dX6_sweepsTake_41 (by decide) rfl ?_
    refine j_iload C0 3 dX6_sweepsTake_42 rfl rfl ?_
    refine j_imul C0 dX6_sweepsTake_44 rfl ?_
    refine j_iadd C0 dX6_sweepsTake_45 rfl ?_
    refine j_iconst C0 1 dX6_sweepsTake_46 (by decide) rfl ?_
    refine j_iadd C0 dX6_sweepsTake_47 rfl ?_
    obtain ⟨h7, hX⟩ := hX
    refine j_iald C0 (n := 166) (kd_lt (rfl : kd 169 = 18) (by decide)) (ce18 (rfl : kd 169 = 18)) h7 dX6_sweepsTake_48 rfl ?_
    refine j_iadd C0 dX6_sweepsTake_49 rfl ?_
    refine j_topi (fun v8 e_v8 => ?_)
    have hX := hX v8 e_v8
    refine j_istore_n C0 [(3, .int v8), (0, .ref (ad 168)), (2, .int a2), (4, .int a4)] dX6_sweepsTake_50 rfl (by decide) rfl rfl ?_
    obtain ⟨v9, e_v9⟩ : ∃ z : Int32, z = a4 + 1 := ⟨_, rfl⟩
    have hX := hX v9 e_v9
    refine j_iinc C0 3 v9 [(4, .int v9), (3, .int v8), (0, .ref (ad 168)), (2, .int a2)] dX6_sweepsTake_51 rfl (by rw [e_v9]; rfl) (by decide) rfl rfl ?_
    refine j_goto C0 (tgt := 19) dX6_sweepsTake_54 (by decide) ?_
    exact j_sub (l' := [(0, .ref (ad 168)), (2, .int a2), (3, .int v8), (4, .int v9)]) [2, 3, 1, 0] rfl (hB a2 v8 v9 μ  hX)
theorem w_X6_sweepsTake_L19 {p : Program} {l : Launch} {e : Env} {s : State} {m : MethodId} {args : Array Value} {below : List Frame} {meth : Method} {c : Code} {D : va_G} {Y : Nat → ClassId} {ad : Nat → Nat} (C0 : CX D Y ad (PA ad) rm_X6_sweepsTake 0 0 p s args m c cX6_sweepsTake 5 RX6 wsX6_sweepsTake) (hlk : meth.locks = false) (hret : meth.sig.returnType = (some .int)) (K : Int32 → Mem → Prop) : ∀ (n : Nat) (a2 : Int32) (a3 : Int32) (a4 : Int32) (μ : Mem)  (hX : x_X6_sweepsTake_L19 K n a2 a3 a4 μ), J p l e rm_X6_sweepsTake s m args below meth c D Y ad (PA ad) 0 0 5 (MQ below (va_Qi K (BB D Y ad) (PA ad)) args s 0 0 (PA ad)) 19 [(0, .ref (ad 168)), (2, .int a2), (3, .int a3), (4, .int a4)] [] μ
  | 0, a2, a3, a4, μ, hX => hX.elim
  | n + 1, a2, a3, a4, μ, hX => wb_X6_sweepsTake_L19 C0 hlk hret a2 a3 a4 μ K (x_X6_sweepsTake_L19 K n) (fun a2 a3 a4 μ  hx => w_X6_sweepsTake_L19 C0 hlk hret K n a2 a3 a4 μ  hx)  hX
def x_X6_sweepsTake (a1 : Int32) (μ : Mem) (K : Int32 → Mem → Prop) : Prop :=
  x_X6_w a1 μ (fun r2 μ1 => vp_in (r2 + 6) 166 ∧ ∀ v4 : Int32, v4 = (-(μ1 169 (r2 + 6).toNatClampNeg)) → ∃ n : Nat, x_X6_sweepsTake_L19 K n r2 v4 0 μ1)
set_option maxRecDepth 20000 in
theorem w_X6_sweepsTake {p : Program} {l : Launch} {e : Env} {s : State} {m : MethodId} {args : Array Value} {below : List Frame} {meth : Method} {c : Code} {D : va_G} {Y : Nat → ClassId} {ad : Nat → Nat} (C0 : CX D Y ad (PA ad) rm_X6_sweepsTake 0 0 p s args m c cX6_sweepsTake 5 RX6 wsX6_sweepsTake) (hlk : meth.locks = false) (hret : meth.sig.returnType = (some .int)) (a1 : Int32) (μ : Mem) (K : Int32 → Mem → Prop)  (hX : x_X6_sweepsTake a1 μ K) : J p l e rm_X6_sweepsTake s m args below meth c D Y ad (PA ad) 0 0 5 (MQ below (va_Qi K (BB D Y ad) (PA ad)) args s 0 0 (PA ad)) 0 [(0, .ref (ad 168)), (1, .int a1)] [] μ := by
  refine j_iload_n C0 1 dX6_sweepsTake_0 rfl rfl rfl ?_
  refine j_callSi C0 1 [.int a1] (c_X6_w a1  hX) dX6_sweepsTake_1 gX6_sweepsTake_X6_w rfl (by decide +kernel) ⟨⟨Nat.le_of_ble_eq_true rfl, Nat.le_of_ble_eq_true rfl⟩, rfl, rfl⟩ rfl rfl (Nat.le_of_ble_eq_true rfl) rfl (fun r2 μ1 hX => ?_)
  refine j_istore_n C0 [(2, .int r2), (0, .ref (ad 168)), (1, .int a1)] dX6_sweepsTake_4 rfl (by decide) rfl rfl ?_
  refine j_aload_n C0 1 dX6_sweepsTake_5 rfl rfl rfl ?_
  refine j_get6 C0 (v := .ref (ad 169)) 0 (rfl : kd 168 = 6) fw_X6_sweepsTake_6 hw_X6_sweepsTake_0 (fun _ h9 => h9) (by decide) rfl dX6_sweepsTake_6 rfl ?_
  refine j_iload_n C0 0 dX6_sweepsTake_9 rfl rfl rfl ?_
  refine j_bipush C0 6 dX6_sweepsTake_10 (by decide) rfl ?_
  refine j_iadd C0 dX6_sweepsTake_12 rfl ?_
  obtain ⟨h3, hX⟩ := hX
  refine j_iald C0 (n := 166) (kd_lt (rfl : kd 169 = 18) (by decide)) (ce18 (rfl : kd 169 = 18)) h3 dX6_sweepsTake_13 rfl ?_
  refine j_ineg C0 dX6_sweepsTake_14 rfl ?_
  refine j_topi (fun v4 e_v4 => ?_)
  have hX := hX v4 e_v4
  refine j_istore_n C0 [(3, .int v4), (2, .int r2), (0, .ref (ad 168)), (1, .int a1)] dX6_sweepsTake_15 rfl (by decide) rfl rfl ?_
  refine j_iconst C0 0 dX6_sweepsTake_16 (by decide) rfl ?_
  refine j_istore C0 [(4, .int 0), (3, .int v4), (2, .int r2), (0, .ref (ad 168)), (1, .int a1)] dX6_sweepsTake_17 (by decide) rfl rfl ?_
  obtain ⟨n, hX⟩ := hX
  exact j_sub (l' := [(0, .ref (ad 168)), (2, .int r2), (3, .int v4), (4, .int 0)]) [3, 2, 1, 0] rfl (w_X6_sweepsTake_L19 C0 hlk hret K n r2 v4 0 μ1  hX)
theorem c_X6_sweepsTake {l : Launch} {D : va_G} {Y : Nat → ClassId} {ad : Nat → Nat} (a1 : Int32) {μ : Mem} {K : Int32 → Mem → Prop}  (hX : x_X6_sweepsTake a1 μ K) : ConI l yX6_sweepsTake wsX6_sweepsTake rm_X6_sweepsTake [.ref (ad 168), .int a1] D Y ad μ K := conI_of (cc := cX6_sweepsTake) (maxL := 5) (ret := (some .int)) (own := RX6) _ (by decide +kernel) rfl rfl (Nat.le_of_ble_eq_true rfl) (fun p e s m args below meth c C0 hlk hret => j_sub (l' := [(0, .ref (ad 168)), (1, .int a1)]) [0, 1] rfl (w_X6_sweepsTake C0 hlk hret a1 μ K  hX))
/-! PhaseTonesModel.wheel(II)I -/
abbrev rm_X6_wheel : Room := rmf 2 44
theorem fw_X6_wheel_6 : ∀ w ∈ wsX60, w ∈ wsX6_wheel := by decide +kernel
theorem hw_X6_wheel_0 : Cond.fieldLink RX6 7 RX6 (TX6 0).2.1 (TX6 0).2.2.1 ∈ wsX6_wheel := by decide +kernel
def x_X6_wheel (a1 : Int32) (a2 : Int32) (μ : Mem) (K : Int32 → Mem → Prop) : Prop :=
  x_X6_isOne a1 μ (fun r2 μ1 => (r2 = 0 → K (-1) μ1) ∧ (¬ (r2 = 0) → x_X6_w a1 μ1 (fun r5 μ4 => x_X6_in a2 0 5 μ4 (fun r7 μ6 => (r7 = 0 → (a2 = 6 → x_X6_gives a1 μ6 (fun r11 μ10 => K r11 μ10)) ∧ (¬ (a2 = 6) → (a2 = 7 → vp_in (r5 + 1) 166 ∧ x_X6_image (μ6 169 (r5 + 1).toNatClampNeg) μ6 (fun r15 μ14 => K r15 μ14)) ∧ (¬ (a2 = 7) → (a2 = 8 → vp_in (r5 + 1) 166 ∧ x_X6_around (μ6 169 (r5 + 1).toNatClampNeg) μ6 (fun r19 μ18 => K r19 μ18)) ∧ (¬ (a2 = 8) → (a2 = 9 → x_X6_sweepsTake a1 μ6 (fun r22 μ21 => K r22 μ21)) ∧ (¬ (a2 = 9) → (a2 = 10 → vp_in (r5 + 5) 166 ∧ ((μ6 169 (r5 + 5).toNatClampNeg) = 0 → vp_in (r5 + 1) 166 ∧ K (μ6 169 (r5 + 1).toNatClampNeg) μ6) ∧ (¬ ((μ6 169 (r5 + 5).toNatClampNeg) = 0) → vp_in (r5 + 5) 166 ∧ vp_in (((r5 + 8) + ((2 : Int32) * (μ6 169 (r5 + 5).toNatClampNeg))) - 2) 166 ∧ K (μ6 169 (((r5 + 8) + ((2 : Int32) * (μ6 169 (r5 + 5).toNatClampNeg))) - 2).toNatClampNeg) μ6)) ∧ (¬ (a2 = 10) → K (-2) μ6)))))) ∧ (¬ (r7 = 0) → vp_in (r5 + a2) 166 ∧ K (μ6 169 (r5 + a2).toNatClampNeg) μ6)))))
set_option maxRecDepth 20000 in
theorem w_X6_wheel {p : Program} {l : Launch} {e : Env} {s : State} {m : MethodId} {args : Array Value} {below : List Frame} {meth : Method} {c : Code} {D : va_G} {Y : Nat → ClassId} {ad : Nat → Nat} (C0 : CX D Y ad (PA ad) rm_X6_wheel 0 0 p s args m c cX6_wheel 4 RX6 wsX6_wheel) (hlk : meth.locks = false) (hret : meth.sig.returnType = (some .int)) (a1 : Int32) (a2 : Int32) (μ : Mem) (K : Int32 → Mem → Prop)  (hX : x_X6_wheel a1 a2 μ K) : J p l e rm_X6_wheel s m args below meth c D Y ad (PA ad) 0 0 4 (MQ below (va_Qi K (BB D Y ad) (PA ad)) args s 0 0 (PA ad)) 0 [(0, .ref (ad 168)), (1, .int a1), (2, .int a2)] [] μ := by
  refine j_iload_n C0 1 dX6_wheel_0 rfl rfl rfl ?_
  refine j_callSi C0 1 [.int a1] (c_X6_isOne a1  hX) dX6_wheel_1 gX6_wheel_X6_isOne rfl (by decide +kernel) ⟨⟨Nat.le_of_ble_eq_true rfl, Nat.le_of_ble_eq_true rfl⟩, rfl, rfl⟩ rfl rfl (Nat.le_of_ble_eq_true rfl) rfl (fun r2 μ1 hX => ?_)
  refine j_if_ne C0 (tgt := 9) dX6_wheel_4 (by decide) rfl (fun c3 => ?_) (fun c3 => ?_)
  · have hX := hX.1 c3
    refine j_iconst C0 (-1) dX6_wheel_7 (by decide) rfl ?_
    exact j_iret C0 hlk hret dX6_wheel_8 hX
  · have hX := hX.2 c3
    refine j_iload_n C0 1 dX6_wheel_9 rfl rfl rfl ?_
    refine j_callSi C0 1 [.int a1] (c_X6_w a1  hX) dX6_wheel_10 gX6_wheel_X6_w rfl (by decide +kernel) ⟨⟨Nat.le_of_ble_eq_true rfl, Nat.le_of_ble_eq_true rfl⟩, rfl, rfl⟩ rfl rfl (Nat.le_of_ble_eq_true rfl) rfl (fun r5 μ4 hX => ?_)
    refine j_istore_n C0 [(3, .int r5), (0, .ref (ad 168)), (1, .int a1), (2, .int a2)] dX6_wheel_13 rfl (by decide) rfl rfl ?_
    refine j_iload_n C0 3 dX6_wheel_14 rfl rfl rfl ?_
    refine j_iconst C0 0 dX6_wheel_15 (by decide) rfl ?_
    refine j_iconst C0 5 dX6_wheel_16 (by decide) rfl ?_
    refine j_callSi C0 3 [.int a2, .int 0, .int 5] (c_X6_in a2 0 5  hX) dX6_wheel_17 gX6_wheel_X6_in rfl (by decide +kernel) ⟨⟨Nat.le_of_ble_eq_true rfl, Nat.le_of_ble_eq_true rfl⟩, rfl, rfl⟩ rfl rfl (Nat.le_of_ble_eq_true rfl) rfl (fun r7 μ6 hX => ?_)
    refine j_if_eq C0 (tgt := 32) dX6_wheel_20 (by decide) rfl (fun c8 => ?_) (fun c8 => ?_)
    · have hX := hX.1 c8
      refine j_iload_n C0 3 dX6_wheel_32 rfl rfl rfl ?_
      by_cases c9 : a2 = 6
      · have hX := hX.1 c9
        refine j_tableIn C0 (off := 35) (tgt := 68) dX6_wheel_33 (by rw [c9]; decide) (by rw [c9]; decide) (by rw [c9]; decide) (by decide) ?_
        refine j_aload_n C0 1 dX6_wheel_68 rfl rfl rfl ?_
        refine j_iload_n C0 2 dX6_wheel_69 rfl rfl rfl ?_
        refine j_callVi C0 1 [.int a1] (c_X6_gives a1  hX) dX6_wheel_70 gX6_wheel_X6_gives rfl (by decide +kernel) ⟨⟨Nat.le_of_ble_eq_true rfl, Nat.le_of_ble_eq_true rfl⟩, rfl, rfl⟩ (kd_lt (rfl : kd 168 = 6) (by decide)) (ce6 (rfl : kd 168 = 6)) rfl rfl rfl (Nat.le_of_ble_eq_true rfl) rfl (fun r11 μ10 hX => ?_)
        exact j_iret C0 hlk hret dX6_wheel_73 hX
      · have hX := hX.2 c9
        by_cases c12 : a2 = 7
        · have hX := hX.1 c12
          refine j_tableIn C0 (off := 41) (tgt := 74) dX6_wheel_33 (by rw [c12]; decide) (by rw [c12]; decide) (by rw [c12]; decide) (by decide) ?_
          refine j_aload_n C0 1 dX6_wheel_74 rfl rfl rfl ?_
          refine j_get6 C0 (v := .ref (ad 169)) 0 (rfl : kd 168 = 6) fw_X6_wheel_6 hw_X6_wheel_0 (fun _ h9 => h9) (by decide) rfl dX6_wheel_75 rfl ?_
          refine j_iload_n C0 0 dX6_wheel_78 rfl rfl rfl ?_
          refine j_iconst C0 1 dX6_wheel_79 (by decide) rfl ?_
          refine j_iadd C0 dX6_wheel_80 rfl ?_
          obtain ⟨h13, hX⟩ := hX
          refine j_iald C0 (n := 166) (kd_lt (rfl : kd 169 = 18) (by decide)) (ce18 (rfl : kd 169 = 18)) h13 dX6_wheel_81 rfl ?_
          refine j_callSi C0 1 [.int (μ6 169 (r5 + 1).toNatClampNeg)] (c_X6_image (μ6 169 (r5 + 1).toNatClampNeg)  hX) dX6_wheel_82 gX6_wheel_X6_image rfl (by decide +kernel) ⟨⟨Nat.le_of_ble_eq_true rfl, Nat.le_of_ble_eq_true rfl⟩, rfl, rfl⟩ rfl rfl (Nat.le_of_ble_eq_true rfl) rfl (fun r15 μ14 hX => ?_)
          exact j_iret C0 hlk hret dX6_wheel_85 hX
        · have hX := hX.2 c12
          by_cases c16 : a2 = 8
          · have hX := hX.1 c16
            refine j_tableIn C0 (off := 53) (tgt := 86) dX6_wheel_33 (by rw [c16]; decide) (by rw [c16]; decide) (by rw [c16]; decide) (by decide) ?_
            refine j_aload_n C0 1 dX6_wheel_86 rfl rfl rfl ?_
            refine j_get6 C0 (v := .ref (ad 169)) 0 (rfl : kd 168 = 6) fw_X6_wheel_6 hw_X6_wheel_0 (fun _ h9 => h9) (by decide) rfl dX6_wheel_87 rfl ?_
            refine j_iload_n C0 0 dX6_wheel_90 rfl rfl rfl ?_
            refine j_iconst C0 1 dX6_wheel_91 (by decide) rfl ?_
            refine j_iadd C0 dX6_wheel_92 rfl ?_
            obtain ⟨h17, hX⟩ := hX
            refine j_iald C0 (n := 166) (kd_lt (rfl : kd 169 = 18) (by decide)) (ce18 (rfl : kd 169 = 18)) h17 dX6_wheel_93 rfl ?_
            refine j_callSi C0 1 [.int (μ6 169 (r5 + 1).toNatClampNeg)] (c_X6_around (μ6 169 (r5 + 1).toNatClampNeg)  hX) dX6_wheel_94 gX6_wheel_X6_around rfl (by decide +kernel) ⟨⟨Nat.le_of_ble_eq_true rfl, Nat.le_of_ble_eq_true rfl⟩, rfl, rfl⟩ rfl rfl (Nat.le_of_ble_eq_true rfl) rfl (fun r19 μ18 hX => ?_)
            exact j_iret C0 hlk hret dX6_wheel_97 hX
          · have hX := hX.2 c16
            by_cases c20 : a2 = 9
            · have hX := hX.1 c20
              refine j_tableIn C0 (off := 65) (tgt := 98) dX6_wheel_33 (by rw [c20]; decide) (by rw [c20]; decide) (by rw [c20]; decide) (by decide) ?_
              refine j_aload_n C0 1 dX6_wheel_98 rfl rfl rfl ?_
              refine j_iload_n C0 2 dX6_wheel_99 rfl rfl rfl ?_
              refine j_callVi C0 1 [.int a1] (c_X6_sweepsTake a1  hX) dX6_wheel_100 gX6_wheel_X6_sweepsTake rfl (by decide +kernel) ⟨⟨Nat.le_of_ble_eq_true rfl, Nat.le_of_ble_eq_true rfl⟩, rfl, rfl⟩ (kd_lt (rfl : kd 168 = 6) (by decide)) (ce6 (rfl : kd 168 = 6)) rfl rfl rfl (Nat.le_of_ble_eq_true rfl) rfl (fun r22 μ21 hX => ?_)
              exact j_iret C0 hlk hret dX6_wheel_103 hX
            · have hX := hX.2 c20
              by_cases c23 : a2 = 10
              · have hX := hX.1 c23
                refine j_tableIn C0 (off := 71) (tgt := 104) dX6_wheel_33 (by rw [c23]; decide) (by rw [c23]; decide) (by rw [c23]; decide) (by decide) ?_
                refine j_aload_n C0 1 dX6_wheel_104 rfl rfl rfl ?_
                refine j_get6 C0 (v := .ref (ad 169)) 0 (rfl : kd 168 = 6) fw_X6_wheel_6 hw_X6_wheel_0 (fun _ h9 => h9) (by decide) rfl dX6_wheel_105 rfl ?_
                refine j_iload_n C0 0 dX6_wheel_108 rfl rfl rfl ?_
                refine j_iconst C0 5 dX6_wheel_109 (by decide) rfl ?_
                refine j_iadd C0 dX6_wheel_110 rfl ?_
                obtain ⟨h24, hX⟩ := hX
                refine j_iald C0 (n := 166) (kd_lt (rfl : kd 169 = 18) (by decide)) (ce18 (rfl : kd 169 = 18)) h24 dX6_wheel_111 rfl ?_
                refine j_if_ne C0 (tgt := 126) dX6_wheel_112 (by decide) rfl (fun c25 => ?_) (fun c25 => ?_)
                · have hX := hX.1 c25
                  refine j_aload_n C0 1 dX6_wheel_115 rfl rfl rfl ?_
                  refine j_get6 C0 (v := .ref (ad 169)) 0 (rfl : kd 168 = 6) fw_X6_wheel_6 hw_X6_wheel_0 (fun _ h9 => h9) (by decide) rfl dX6_wheel_116 rfl ?_
                  refine j_iload_n C0 0 dX6_wheel_119 rfl rfl rfl ?_
                  refine j_iconst C0 1 dX6_wheel_120 (by decide) rfl ?_
                  refine j_iadd C0 dX6_wheel_121 rfl ?_
                  obtain ⟨h26, hX⟩ := hX
                  refine j_iald C0 (n := 166) (kd_lt (rfl : kd 169 = 18) (by decide)) (ce18 (rfl : kd 169 = 18)) h26 dX6_wheel_122 rfl ?_
                  refine j_goto C0 (tgt := 148) dX6_wheel_123 (by decide) ?_
                  exact j_iret C0 hlk hret dX6_wheel_148 hX
                · have hX := hX.2 c25
                  refine j_aload_n C0 1 dX6_wheel_126 rfl rfl rfl ?_
                  refine j_get6 C0 (v := .ref (ad 169)) 0 (rfl : kd 168 = 6) fw_X6_wheel_6 hw_X6_wheel_0 (fun _ h9 => h9) (by decide) rfl dX6_wheel_127 rfl ?_
                  refine j_iload_n C0 0 dX6_wheel_130 rfl rfl rfl ?_
                  refine j_bipush C0 8 dX6_wheel_131 (by decide) rfl ?_
                  refine j_iadd C0 dX6_wheel_133 rfl ?_
                  refine j_iconst C0 2 dX6_wheel_134 (by decide) rfl ?_
                  refine j_aload_n C0 1 dX6_wheel_135 rfl rfl rfl ?_
                  refine j_get6 C0 (v := .ref (ad 169)) 0 (rfl : kd 168 = 6) fw_X6_wheel_6 hw_X6_wheel_0 (fun _ h9 => h9) (by decide) rfl dX6_wheel_136 rfl ?_
                  refine j_iload_n C0 0 dX6_wheel_139 rfl rfl rfl ?_
                  refine j_iconst C0 5 dX6_wheel_140 (by decide) rfl ?_
                  refine j_iadd C0 dX6_wheel_141 rfl ?_
                  obtain ⟨h27, hX⟩ := hX
                  refine j_iald C0 (n := 166) (kd_lt (rfl : kd 169 = 18) (by decide)) (ce18 (rfl : kd 169 = 18)) h27 dX6_wheel_142 rfl ?_
                  refine j_imul C0 dX6_wheel_143 rfl ?_
                  refine j_iadd C0 dX6_wheel_144 rfl ?_
                  refine j_iconst C0 2 dX6_wheel_145 (by decide) rfl ?_
                  refine j_isub C0 dX6_wheel_146 rfl ?_
                  obtain ⟨h28, hX⟩ := hX
                  refine j_iald C0 (n := 166) (kd_lt (rfl : kd 169 = 18) (by decide)) (ce18 (rfl : kd 169 = 18)) h28 dX6_wheel_147 rfl ?_
                  exact j_iret C0 hlk hret dX6_wheel_148 hX
              · have hX := hX.2 c23
                have t_c9 : ¬ (a2).toInt = 6 := lv_neT c9 (by decide)
                have t_c12 : ¬ (a2).toInt = 7 := lv_neT c12 (by decide)
                have t_c16 : ¬ (a2).toInt = 8 := lv_neT c16 (by decide)
                have t_c20 : ¬ (a2).toInt = 9 := lv_neT c20 (by decide)
                have t_c23 : ¬ (a2).toInt = 10 := lv_neT c23 (by decide)
                refine j_tableOut C0 (tgt := 149) dX6_wheel_33 (by omega) (by decide) ?_
                refine j_bipush C0 (-2) dX6_wheel_149 (by decide) rfl ?_
                exact j_iret C0 hlk hret dX6_wheel_151 hX
    · have hX := hX.2 c8
      refine j_aload_n C0 1 dX6_wheel_23 rfl rfl rfl ?_
      refine j_get6 C0 (v := .ref (ad 169)) 0 (rfl : kd 168 = 6) fw_X6_wheel_6 hw_X6_wheel_0 (fun _ h9 => h9) (by decide) rfl dX6_wheel_24 rfl ?_
      refine j_iload_n C0 0 dX6_wheel_27 rfl rfl rfl ?_
      refine j_iload_n C0 3 dX6_wheel_28 rfl rfl rfl ?_
      refine j_iadd C0 dX6_wheel_29 rfl ?_
      obtain ⟨h29, hX⟩ := hX
      refine j_iald C0 (n := 166) (kd_lt (rfl : kd 169 = 18) (by decide)) (ce18 (rfl : kd 169 = 18)) h29 dX6_wheel_30 rfl ?_
      exact j_iret C0 hlk hret dX6_wheel_31 hX
theorem c_X6_wheel {l : Launch} {D : va_G} {Y : Nat → ClassId} {ad : Nat → Nat} (a1 : Int32) (a2 : Int32) {μ : Mem} {K : Int32 → Mem → Prop}  (hX : x_X6_wheel a1 a2 μ K) : ConI l yX6_wheel wsX6_wheel rm_X6_wheel [.ref (ad 168), .int a1, .int a2] D Y ad μ K := conI_of (cc := cX6_wheel) (maxL := 4) (ret := (some .int)) (own := RX6) _ (by decide +kernel) rfl rfl (Nat.le_of_ble_eq_true rfl) (fun p e s m args below meth c C0 hlk hret => j_sub (l' := [(0, .ref (ad 168)), (1, .int a1), (2, .int a2)]) [0, 1, 2] rfl (w_X6_wheel C0 hlk hret a1 a2 μ K  hX))
/-! PhaseTonesModel.valueOf(II)I -/
abbrev rm_X6_valueOf : Room := rmf 2 42
theorem fw_X6_valueOf_6 : ∀ w ∈ wsX60, w ∈ wsX6_valueOf := by decide +kernel
theorem hw_X6_valueOf_0 : Cond.fieldLink RX6 7 RX6 (TX6 0).2.1 (TX6 0).2.2.1 ∈ wsX6_valueOf := by decide +kernel
def x_X6_valueOf (a1 : Int32) (a2 : Int32) (μ : Mem) (K : Int32 → Mem → Prop) : Prop :=
  x_X6_isOne a1 μ (fun r2 μ1 => (r2 = 0 → K (-1) μ1) ∧ (¬ (r2 = 0) → x_X6_in a2 0 15 μ1 (fun r5 μ4 => (r5 = 0 → K (-1) μ4) ∧ (¬ (r5 = 0) → vp_in (((6 : Int32) + ((16 : Int32) * a1)) + a2) 166 ∧ K (μ4 169 (((6 : Int32) + ((16 : Int32) * a1)) + a2).toNatClampNeg) μ4))))
set_option maxRecDepth 20000 in
theorem w_X6_valueOf {p : Program} {l : Launch} {e : Env} {s : State} {m : MethodId} {args : Array Value} {below : List Frame} {meth : Method} {c : Code} {D : va_G} {Y : Nat → ClassId} {ad : Nat → Nat} (C0 : CX D Y ad (PA ad) rm_X6_valueOf 0 0 p s args m c cX6_valueOf 3 RX6 wsX6_valueOf) (hlk : meth.locks = false) (hret : meth.sig.returnType = (some .int)) (a1 : Int32) (a2 : Int32) (μ : Mem) (K : Int32 → Mem → Prop)  (hX : x_X6_valueOf a1 a2 μ K) : J p l e rm_X6_valueOf s m args below meth c D Y ad (PA ad) 0 0 3 (MQ below (va_Qi K (BB D Y ad) (PA ad)) args s 0 0 (PA ad)) 0 [(0, .ref (ad 168)), (1, .int a1), (2, .int a2)] [] μ := by
  refine j_iload_n C0 1 dX6_valueOf_0 rfl rfl rfl ?_
  refine j_callSi C0 1 [.int a1] (c_X6_isOne a1  hX) dX6_valueOf_1 gX6_valueOf_X6_isOne rfl (by decide +kernel) ⟨⟨Nat.le_of_ble_eq_true rfl, Nat.le_of_ble_eq_true rfl⟩, rfl, rfl⟩ rfl rfl (Nat.le_of_ble_eq_true rfl) rfl (fun r2 μ1 hX => ?_)
  refine j_if_eq C0 (tgt := 34) dX6_valueOf_4 (by decide) rfl (fun c3 => ?_) (fun c3 => ?_)
  · have hX := hX.1 c3
    refine j_iconst C0 (-1) dX6_valueOf_34 (by decide) rfl ?_
    exact j_iret C0 hlk hret dX6_valueOf_35 hX
  · have hX := hX.2 c3
    refine j_iload_n C0 2 dX6_valueOf_7 rfl rfl rfl ?_
    refine j_iconst C0 0 dX6_valueOf_8 (by decide) rfl ?_
    refine j_bipush C0 15 dX6_valueOf_9 (by decide) rfl ?_
    refine j_callSi C0 3 [.int a2, .int 0, .int 15] (c_X6_in a2 0 15  hX) dX6_valueOf_11 gX6_valueOf_X6_in rfl (by decide +kernel) ⟨⟨Nat.le_of_ble_eq_true rfl, Nat.le_of_ble_eq_true rfl⟩, rfl, rfl⟩ rfl rfl (Nat.le_of_ble_eq_true rfl) rfl (fun r5 μ4 hX => ?_)
    refine j_if_eq C0 (tgt := 34) dX6_valueOf_14 (by decide) rfl (fun c6 => ?_) (fun c6 => ?_)
    · have hX := hX.1 c6
      refine j_iconst C0 (-1) dX6_valueOf_34 (by decide) rfl ?_
      exact j_iret C0 hlk hret dX6_valueOf_35 hX
    · have hX := hX.2 c6
      refine j_aload_n C0 0 dX6_valueOf_17 rfl rfl rfl ?_
      refine j_get6 C0 (v := .ref (ad 169)) 0 (rfl : kd 168 = 6) fw_X6_valueOf_6 hw_X6_valueOf_0 (fun _ h9 => h9) (by decide) rfl dX6_valueOf_18 rfl ?_
      refine j_bipush C0 6 dX6_valueOf_21 (by decide) rfl ?_
      refine j_bipush C0 16 dX6_valueOf_23 (by decide) rfl ?_
      refine j_iload_n C0 1 dX6_valueOf_25 rfl rfl rfl ?_
      refine j_imul C0 dX6_valueOf_26 rfl ?_
      refine j_iadd C0 dX6_valueOf_27 rfl ?_
      refine j_iload_n C0 2 dX6_valueOf_28 rfl rfl rfl ?_
      refine j_iadd C0 dX6_valueOf_29 rfl ?_
      obtain ⟨h7, hX⟩ := hX
      refine j_iald C0 (n := 166) (kd_lt (rfl : kd 169 = 18) (by decide)) (ce18 (rfl : kd 169 = 18)) h7 dX6_valueOf_30 rfl ?_
      refine j_goto C0 (tgt := 35) dX6_valueOf_31 (by decide) ?_
      exact j_iret C0 hlk hret dX6_valueOf_35 hX
theorem c_X6_valueOf {l : Launch} {D : va_G} {Y : Nat → ClassId} {ad : Nat → Nat} (a1 : Int32) (a2 : Int32) {μ : Mem} {K : Int32 → Mem → Prop}  (hX : x_X6_valueOf a1 a2 μ K) : ConI l yX6_valueOf wsX6_valueOf rm_X6_valueOf [.ref (ad 168), .int a1, .int a2] D Y ad μ K := conI_of (cc := cX6_valueOf) (maxL := 3) (ret := (some .int)) (own := RX6) _ (by decide +kernel) rfl rfl (Nat.le_of_ble_eq_true rfl) (fun p e s m args below meth c C0 hlk hret => j_sub (l' := [(0, .ref (ad 168)), (1, .int a1), (2, .int a2)]) [0, 1, 2] rfl (w_X6_valueOf C0 hlk hret a1 a2 μ K  hX))
/-! PhaseTonesModel.sample(I)I -/
abbrev rm_X6_sample : Room := rmf 1 22
theorem fw_X6_sample_6 : ∀ w ∈ wsX60, w ∈ wsX6_sample := by decide +kernel
theorem hw_X6_sample_0 : Cond.fieldLink RX6 7 RX6 (TX6 0).2.1 (TX6 0).2.2.1 ∈ wsX6_sample := by decide +kernel
def x_X6_sample (a1 : Int32) (μ : Mem) (K : Int32 → Mem → Prop) : Prop :=
  x_X6_in a1 0 31 μ (fun r2 μ1 => (r2 = 0 → K (-2) μ1) ∧ (¬ (r2 = 0) → ((μ1 169 1) ≤ a1 → K (-6) μ1) ∧ (¬ ((μ1 169 1) ≤ a1) → vp_in ((134 : Int32) + ((((μ1 169 1) - 1) - a1) - (((μ1 169 1) - 1) - a1) / 32 * 32)) 166 ∧ K (μ1 169 ((134 : Int32) + ((((μ1 169 1) - 1) - a1) - (((μ1 169 1) - 1) - a1) / 32 * 32)).toNatClampNeg) μ1)))
set_option maxRecDepth 20000 in
theorem w_X6_sample {p : Program} {l : Launch} {e : Env} {s : State} {m : MethodId} {args : Array Value} {below : List Frame} {meth : Method} {c : Code} {D : va_G} {Y : Nat → ClassId} {ad : Nat → Nat} (C0 : CX D Y ad (PA ad) rm_X6_sample 0 0 p s args m c cX6_sample 2 RX6 wsX6_sample) (hlk : meth.locks = false) (hret : meth.sig.returnType = (some .int)) (a1 : Int32) (μ : Mem) (K : Int32 → Mem → Prop)  (hX : x_X6_sample a1 μ K) : J p l e rm_X6_sample s m args below meth c D Y ad (PA ad) 0 0 2 (MQ below (va_Qi K (BB D Y ad) (PA ad)) args s 0 0 (PA ad)) 0 [(0, .ref (ad 168)), (1, .int a1)] [] μ := by
  refine j_iload_n C0 1 dX6_sample_0 rfl rfl rfl ?_
  refine j_iconst C0 0 dX6_sample_1 (by decide) rfl ?_
  refine j_bipush C0 31 dX6_sample_2 (by decide) rfl ?_
  refine j_callSi C0 3 [.int a1, .int 0, .int 31] (c_X6_in a1 0 31  hX) dX6_sample_4 gX6_sample_X6_in rfl (by decide +kernel) ⟨⟨Nat.le_of_ble_eq_true rfl, Nat.le_of_ble_eq_true rfl⟩, rfl, rfl⟩ rfl rfl (Nat.le_of_ble_eq_true rfl) rfl (fun r2 μ1 hX => ?_)
  refine j_if_ne C0 (tgt := 13) dX6_sample_7 (by decide) rfl (fun c3 => ?_) (fun c3 => ?_)
  · have hX := hX.1 c3
    refine j_bipush C0 (-2) dX6_sample_10 (by decide) rfl ?_
    exact j_iret C0 hlk hret dX6_sample_12 hX
  · have hX := hX.2 c3
    refine j_iload_n C0 1 dX6_sample_13 rfl rfl rfl ?_
    refine j_aload_n C0 0 dX6_sample_14 rfl rfl rfl ?_
    refine j_get6 C0 (v := .ref (ad 169)) 0 (rfl : kd 168 = 6) fw_X6_sample_6 hw_X6_sample_0 (fun _ h9 => h9) (by decide) rfl dX6_sample_15 rfl ?_
    refine j_iconst C0 1 dX6_sample_18 (by decide) rfl ?_
    refine j_iald C0 (n := 166) (kd_lt (rfl : kd 169 = 18) (by decide)) (ce18 (rfl : kd 169 = 18)) (vp_lit (i := 1) (by decide)) dX6_sample_19 rfl ?_
    refine j_val (μ1 169 1) rfl ?_
    refine j_icmp_ge C0 (tgt := 48) dX6_sample_20 (by decide) rfl (fun c4 => ?_) (fun c4 => ?_)
    · have hX := hX.1 c4
      refine j_bipush C0 (-6) dX6_sample_48 (by decide) rfl ?_
      exact j_iret C0 hlk hret dX6_sample_50 hX
    · have hX := hX.2 c4
      refine j_aload_n C0 0 dX6_sample_23 rfl rfl rfl ?_
      refine j_get6 C0 (v := .ref (ad 169)) 0 (rfl : kd 168 = 6) fw_X6_sample_6 hw_X6_sample_0 (fun _ h9 => h9) (by decide) rfl dX6_sample_24 rfl ?_
      refine j_sipush C0 134 dX6_sample_27 (by decide) rfl ?_
      refine j_aload_n C0 0 dX6_sample_30 rfl rfl rfl ?_
      refine j_get6 C0 (v := .ref (ad 169)) 0 (rfl : kd 168 = 6) fw_X6_sample_6 hw_X6_sample_0 (fun _ h9 => h9) (by decide) rfl dX6_sample_31 rfl ?_
      refine j_iconst C0 1 dX6_sample_34 (by decide) rfl ?_
      refine j_iald C0 (n := 166) (kd_lt (rfl : kd 169 = 18) (by decide)) (ce18 (rfl : kd 169 = 18)) (vp_lit (i := 1) (by decide)) dX6_sample_35 rfl ?_
      refine j_val (μ1 169 1) rfl ?_
      refine j_iconst C0 1 dX6_sample_36 (by decide) rfl ?_
      refine j_isub C0 dX6_sample_37 rfl ?_
      refine j_iload_n C0 1 dX6_sample_38 rfl rfl rfl ?_
      refine j_isub C0 dX6_sample_39 rfl ?_
      refine j_bipush C0 32 dX6_sample_40 (by decide) rfl ?_
      refine j_irem C0 dX6_sample_42 (by decide) rfl ?_
      refine j_iadd C0 dX6_sample_43 rfl ?_
      obtain ⟨h5, hX⟩ := hX
      refine j_iald C0 (n := 166) (kd_lt (rfl : kd 169 = 18) (by decide)) (ce18 (rfl : kd 169 = 18)) h5 dX6_sample_44 rfl ?_
      refine j_goto C0 (tgt := 50) dX6_sample_45 (by decide) ?_
      exact j_iret C0 hlk hret dX6_sample_50 hX
theorem c_X6_sample {l : Launch} {D : va_G} {Y : Nat → ClassId} {ad : Nat → Nat} (a1 : Int32) {μ : Mem} {K : Int32 → Mem → Prop}  (hX : x_X6_sample a1 μ K) : ConI l yX6_sample wsX6_sample rm_X6_sample [.ref (ad 168), .int a1] D Y ad μ K := conI_of (cc := cX6_sample) (maxL := 2) (ret := (some .int)) (own := RX6) _ (by decide +kernel) rfl rfl (Nat.le_of_ble_eq_true rfl) (fun p e s m args below meth c C0 hlk hret => j_sub (l' := [(0, .ref (ad 168)), (1, .int a1)]) [0, 1] rfl (w_X6_sample C0 hlk hret a1 μ K  hX))
/-! PhaseTonesModel.beat(II)I -/
abbrev rm_X6_beat : Room := rmf 2 42
theorem fw_X6_beat_6 : ∀ w ∈ wsX60, w ∈ wsX6_beat := by decide +kernel
theorem hw_X6_beat_0 : Cond.fieldLink RX6 7 RX6 (TX6 0).2.1 (TX6 0).2.2.1 ∈ wsX6_beat := by decide +kernel
def x_X6_beat (a1 : Int32) (a2 : Int32) (μ : Mem) (K : Int32 → Mem → Prop) : Prop :=
  x_X6_isOne a1 μ (fun r2 μ1 => (r2 = 0 → K (-1) μ1) ∧ (¬ (r2 = 0) → x_X6_isOne a2 μ1 (fun r5 μ4 => (r5 = 0 → K (-1) μ4) ∧ (¬ (r5 = 0) → x_X6_w a1 μ4 (fun r8 μ7 => vp_in (r8 + 1) 166 ∧ x_X6_image (μ7 169 (r8 + 1).toNatClampNeg) μ7 (fun r11 μ10 => x_X6_w a2 μ10 (fun r13 μ12 => vp_in (r13 + 1) 166 ∧ x_X6_image (μ12 169 (r13 + 1).toNatClampNeg) μ12 (fun r16 μ15 => ∀ v17 : Int32, v17 = (r11 - r16) → (0 ≤ v17 → K v17 μ15) ∧ (¬ (0 ≤ v17) → K (-v17) μ15)))))))))
set_option maxRecDepth 20000 in
theorem w_X6_beat {p : Program} {l : Launch} {e : Env} {s : State} {m : MethodId} {args : Array Value} {below : List Frame} {meth : Method} {c : Code} {D : va_G} {Y : Nat → ClassId} {ad : Nat → Nat} (C0 : CX D Y ad (PA ad) rm_X6_beat 0 0 p s args m c cX6_beat 4 RX6 wsX6_beat) (hlk : meth.locks = false) (hret : meth.sig.returnType = (some .int)) (a1 : Int32) (a2 : Int32) (μ : Mem) (K : Int32 → Mem → Prop)  (hX : x_X6_beat a1 a2 μ K) : J p l e rm_X6_beat s m args below meth c D Y ad (PA ad) 0 0 4 (MQ below (va_Qi K (BB D Y ad) (PA ad)) args s 0 0 (PA ad)) 0 [(0, .ref (ad 168)), (1, .int a1), (2, .int a2)] [] μ := by
  refine j_iload_n C0 1 dX6_beat_0 rfl rfl rfl ?_
  refine j_callSi C0 1 [.int a1] (c_X6_isOne a1  hX) dX6_beat_1 gX6_beat_X6_isOne rfl (by decide +kernel) ⟨⟨Nat.le_of_ble_eq_true rfl, Nat.le_of_ble_eq_true rfl⟩, rfl, rfl⟩ rfl rfl (Nat.le_of_ble_eq_true rfl) rfl (fun r2 μ1 hX => ?_)
  refine j_if_eq C0 (tgt := 14) dX6_beat_4 (by decide) rfl (fun c3 => ?_) (fun c3 => ?_)
  · have hX := hX.1 c3
    refine j_iconst C0 (-1) dX6_beat_14 (by decide) rfl ?_
    exact j_iret C0 hlk hret dX6_beat_15 hX
  · have hX := hX.2 c3
    refine j_iload_n C0 2 dX6_beat_7 rfl rfl rfl ?_
    refine j_callSi C0 1 [.int a2] (c_X6_isOne a2  hX) dX6_beat_8 gX6_beat_X6_isOne rfl (by decide +kernel) ⟨⟨Nat.le_of_ble_eq_true rfl, Nat.le_of_ble_eq_true rfl⟩, rfl, rfl⟩ rfl rfl (Nat.le_of_ble_eq_true rfl) rfl (fun r5 μ4 hX => ?_)
    refine j_if_ne C0 (tgt := 16) dX6_beat_11 (by decide) rfl (fun c6 => ?_) (fun c6 => ?_)
    · have hX := hX.1 c6
      refine j_iconst C0 (-1) dX6_beat_14 (by decide) rfl ?_
      exact j_iret C0 hlk hret dX6_beat_15 hX
    · have hX := hX.2 c6
      refine j_aload_n C0 0 dX6_beat_16 rfl rfl rfl ?_
      refine j_get6 C0 (v := .ref (ad 169)) 0 (rfl : kd 168 = 6) fw_X6_beat_6 hw_X6_beat_0 (fun _ h9 => h9) (by decide) rfl dX6_beat_17 rfl ?_
      refine j_iload_n C0 1 dX6_beat_20 rfl rfl rfl ?_
      refine j_callSi C0 1 [.int a1] (c_X6_w a1  hX) dX6_beat_21 gX6_beat_X6_w rfl (by decide +kernel) ⟨⟨Nat.le_of_ble_eq_true rfl, Nat.le_of_ble_eq_true rfl⟩, rfl, rfl⟩ rfl rfl (Nat.le_of_ble_eq_true rfl) rfl (fun r8 μ7 hX => ?_)
      refine j_iconst C0 1 dX6_beat_24 (by decide) rfl ?_
      refine j_iadd C0 dX6_beat_25 rfl ?_
      obtain ⟨h9, hX⟩ := hX
      refine j_iald C0 (n := 166) (kd_lt (rfl : kd 169 = 18) (by decide)) (ce18 (rfl : kd 169 = 18)) h9 dX6_beat_26 rfl ?_
      refine j_callSi C0 1 [.int (μ7 169 (r8 + 1).toNatClampNeg)] (c_X6_image (μ7 169 (r8 + 1).toNatClampNeg)  hX) dX6_beat_27 gX6_beat_X6_image rfl (by decide +kernel) ⟨⟨Nat.le_of_ble_eq_true rfl, Nat.le_of_ble_eq_true rfl⟩, rfl, rfl⟩ rfl rfl (Nat.le_of_ble_eq_true rfl) rfl (fun r11 μ10 hX => ?_)
      refine j_aload_n C0 0 dX6_beat_30 rfl rfl rfl ?_
      refine j_get6 C0 (v := .ref (ad 169)) 0 (rfl : kd 168 = 6) fw_X6_beat_6 hw_X6_beat_0 (fun _ h9 => h9) (by decide) rfl dX6_beat_31 rfl ?_
      refine j_iload_n C0 2 dX6_beat_34 rfl rfl rfl ?_
      refine j_callSi C0 1 [.int a2] (c_X6_w a2  hX) dX6_beat_35 gX6_beat_X6_w rfl (by decide +kernel) ⟨⟨Nat.le_of_ble_eq_true rfl, Nat.le_of_ble_eq_true rfl⟩, rfl, rfl⟩ rfl rfl (Nat.le_of_ble_eq_true rfl) rfl (fun r13 μ12 hX => ?_)
      refine j_iconst C0 1 dX6_beat_38 (by decide) rfl ?_
      refine j_iadd C0 dX6_beat_39 rfl ?_
      obtain ⟨h14, hX⟩ := hX
      refine j_iald C0 (n := 166) (kd_lt (rfl : kd 169 = 18) (by decide)) (ce18 (rfl : kd 169 = 18)) h14 dX6_beat_40 rfl ?_
      refine j_callSi C0 1 [.int (μ12 169 (r13 + 1).toNatClampNeg)] (c_X6_image (μ12 169 (r13 + 1).toNatClampNeg)  hX) dX6_beat_41 gX6_beat_X6_image rfl (by decide +kernel) ⟨⟨Nat.le_of_ble_eq_true rfl, Nat.le_of_ble_eq_true rfl⟩, rfl, rfl⟩ rfl rfl (Nat.le_of_ble_eq_true rfl) rfl (fun r16 μ15 hX => ?_)
      refine j_isub C0 dX6_beat_44 rfl ?_
      refine j_topi (fun v17 e_v17 => ?_)
      have hX := hX v17 e_v17
      refine j_istore_n C0 [(3, .int v17), (0, .ref (ad 168)), (1, .int a1), (2, .int a2)] dX6_beat_45 rfl (by decide) rfl rfl ?_
      refine j_iload_n C0 0 dX6_beat_46 rfl rfl rfl ?_
      refine j_if_ge C0 (tgt := 55) dX6_beat_47 (by decide) rfl (fun c18 => ?_) (fun c18 => ?_)
      · have hX := hX.1 c18
        refine j_iload_n C0 0 dX6_beat_55 rfl rfl rfl ?_
        exact j_iret C0 hlk hret dX6_beat_56 hX
      · have hX := hX.2 c18
        refine j_iload_n C0 0 dX6_beat_50 rfl rfl rfl ?_
        refine j_ineg C0 dX6_beat_51 rfl ?_
        refine j_goto C0 (tgt := 56) dX6_beat_52 (by decide) ?_
        exact j_iret C0 hlk hret dX6_beat_56 hX
theorem c_X6_beat {l : Launch} {D : va_G} {Y : Nat → ClassId} {ad : Nat → Nat} (a1 : Int32) (a2 : Int32) {μ : Mem} {K : Int32 → Mem → Prop}  (hX : x_X6_beat a1 a2 μ K) : ConI l yX6_beat wsX6_beat rm_X6_beat [.ref (ad 168), .int a1, .int a2] D Y ad μ K := conI_of (cc := cX6_beat) (maxL := 4) (ret := (some .int)) (own := RX6) _ (by decide +kernel) rfl rfl (Nat.le_of_ble_eq_true rfl) (fun p e s m args below meth c C0 hlk hret => j_sub (l' := [(0, .ref (ad 168)), (1, .int a1), (2, .int a2)]) [0, 1, 2] rfl (w_X6_beat C0 hlk hret a1 a2 μ K  hX))
/-! PhaseTonesModel.together()I -/
abbrev rm_X6_together : Room := rmf 1 22
theorem fw_X6_together_6 : ∀ w ∈ wsX60, w ∈ wsX6_together := by decide +kernel
theorem hw_X6_together_0 : Cond.fieldLink RX6 7 RX6 (TX6 0).2.1 (TX6 0).2.2.1 ∈ wsX6_together := by decide +kernel
def x_X6_together_L53 (K : Int32 → Mem → Prop) (B : Int32 → Int32 → Mem → Prop) (a2 : Int32) (as0 : Int32) (μ : Mem) : Prop :=
  ∀ v12 : Int32, v12 = a2 + 1 → B as0 v12 μ
set_option maxRecDepth 20000 in
theorem w_X6_together_L53 {p : Program} {l : Launch} {e : Env} {s : State} {m : MethodId} {args : Array Value} {below : List Frame} {meth : Method} {c : Code} {D : va_G} {Y : Nat → ClassId} {ad : Nat → Nat} (C0 : CX D Y ad (PA ad) rm_X6_together 0 0 p s args m c cX6_together 4 RX6 wsX6_together) (hlk : meth.locks = false) (hret : meth.sig.returnType = (some .int)) (a2 : Int32) (as0 : Int32) (μ : Mem) (K : Int32 → Mem → Prop) (B : Int32 → Int32 → Mem → Prop) (hB : ∀ (a1 : Int32) (a2 : Int32) (μ : Mem), B a1 a2 μ → J p l e rm_X6_together s m args below meth c D Y ad (PA ad) 0 0 4 (MQ below (va_Qi K (BB D Y ad) (PA ad)) args s 0 0 (PA ad)) 4 [(0, .ref (ad 168)), (1, .int a1), (2, .int a2)] [] μ)  (hX : x_X6_together_L53 K B a2 as0 μ) : J p l e rm_X6_together s m args below meth c D Y ad (PA ad) 0 0 4 (MQ below (va_Qi K (BB D Y ad) (PA ad)) args s 0 0 (PA ad)) 53 [(0, .ref (ad 168)), (2, .int a2)] [.int as0] μ := by
  refine j_istore_n C0 [(1, .int as0), (0, .ref (ad 168)), (2, .int a2)] dX6_together_53 rfl (by decide) rfl rfl ?_
  obtain ⟨v12, e_v12⟩ : ∃ z : Int32, z = a2 + 1 := ⟨_, rfl⟩
  have hX := hX v12 e_v12
  refine j_iinc C0 2 v12 [(2, .int v12), (1, .int as0), (0, .ref (ad 168))] dX6_together_54 rfl (by rw [e_v12]; rfl) (by decide) rfl rfl ?_
  refine j_goto C0 (tgt := 4) dX6_together_57 (by decide) ?_
  exact j_sub (l' := [(0, .ref (ad 168)), (1, .int as0), (2, .int v12)]) [2, 1, 0] rfl (hB as0 v12 μ  hX)
def x_X6_together_L42 (K : Int32 → Mem → Prop) (B : Int32 → Int32 → Mem → Prop) (a1 : Int32) (a2 : Int32) (as0 : Int32) (μ : Mem) : Prop :=
  (as0 ≤ a1 → x_X6_together_L53 K B a2 a1 μ) ∧ (¬ (as0 ≤ a1) → x_X6_together_L53 K B a2 as0 μ)
set_option maxRecDepth 20000 in
theorem w_X6_together_L42 {p : Program} {l : Launch} {e : Env} {s : State} {m : MethodId} {args : Array Value} {below : List Frame} {meth : Method} {c : Code} {D : va_G} {Y : Nat → ClassId} {ad : Nat → Nat} (C0 : CX D Y ad (PA ad) rm_X6_together 0 0 p s args m c cX6_together 4 RX6 wsX6_together) (hlk : meth.locks = false) (hret : meth.sig.returnType = (some .int)) (a1 : Int32) (a2 : Int32) (as0 : Int32) (μ : Mem) (K : Int32 → Mem → Prop) (B : Int32 → Int32 → Mem → Prop) (hB : ∀ (a1 : Int32) (a2 : Int32) (μ : Mem), B a1 a2 μ → J p l e rm_X6_together s m args below meth c D Y ad (PA ad) 0 0 4 (MQ below (va_Qi K (BB D Y ad) (PA ad)) args s 0 0 (PA ad)) 4 [(0, .ref (ad 168)), (1, .int a1), (2, .int a2)] [] μ)  (hX : x_X6_together_L42 K B a1 a2 as0 μ) : J p l e rm_X6_together s m args below meth c D Y ad (PA ad) 0 0 4 (MQ below (va_Qi K (BB D Y ad) (PA ad)) args s 0 0 (PA ad)) 42 [(0, .ref (ad 168)), (1, .int a1), (2, .int a2)] [.int as0] μ := by
  refine j_istore_n C0 [(3, .int as0), (0, .ref (ad 168)), (1, .int a1), (2, .int a2)] dX6_together_42 rfl (by decide) rfl rfl ?_
  refine j_iload_n C0 0 dX6_together_43 rfl rfl rfl ?_
  refine j_iload_n C0 2 dX6_together_44 rfl rfl rfl ?_
  refine j_icmp_le C0 (tgt := 52) dX6_together_45 (by decide) rfl (fun c11 => ?_) (fun c11 => ?_)
  · have hX := hX.1 c11
    refine j_iload_n C0 2 dX6_together_52 rfl rfl rfl ?_
    exact j_sub (l' := [(0, .ref (ad 168)), (2, .int a2)]) [1, 3] rfl (w_X6_together_L53 C0 hlk hret a2 a1 μ K B hB  hX)
  · have hX := hX.2 c11
    refine j_iload_n C0 0 dX6_together_48 rfl rfl rfl ?_
    refine j_goto C0 (tgt := 53) dX6_together_49 (by decide) ?_
    exact j_sub (l' := [(0, .ref (ad 168)), (2, .int a2)]) [1, 3] rfl (w_X6_together_L53 C0 hlk hret a2 as0 μ K B hB  hX)
def xb_X6_together_L4 (K : Int32 → Mem → Prop) (B : Int32 → Int32 → Mem → Prop) (a1 : Int32) (a2 : Int32) (μ : Mem) : Prop :=
  (4 ≤ a2 → K a1 μ) ∧ (¬ (4 ≤ a2) → x_X6_w a2 μ (fun r3 μ2 => vp_in (r3 + 4) 166 ∧ ((μ2 169 (r3 + 4).toNatClampNeg) = 1 → x_X6_w a2 μ2 (fun r7 μ6 => vp_in (r7 + 1) 166 ∧ x_X6_around (μ6 169 (r7 + 1).toNatClampNeg) μ6 (fun r10 μ9 => x_X6_together_L42 K B a1 a2 r10 μ9))) ∧ (¬ ((μ2 169 (r3 + 4).toNatClampNeg) = 1) → x_X6_together_L42 K B a1 a2 1 μ2)))
def x_X6_together_L4 (K : Int32 → Mem → Prop) : Nat → Int32 → Int32 → Mem → Prop
  | 0 => fun _ _ _ => False
  | n + 1 => fun a1 a2 μ => xb_X6_together_L4 K (x_X6_together_L4 K n) a1 a2 μ
set_option maxRecDepth 20000 in
theorem wb_X6_together_L4 {p : Program} {l : Launch} {e : Env} {s : State} {m : MethodId} {args : Array Value} {below : List Frame} {meth : Method} {c : Code} {D : va_G} {Y : Nat → ClassId} {ad : Nat → Nat} (C0 : CX D Y ad (PA ad) rm_X6_together 0 0 p s args m c cX6_together 4 RX6 wsX6_together) (hlk : meth.locks = false) (hret : meth.sig.returnType = (some .int)) (a1 : Int32) (a2 : Int32) (μ : Mem) (K : Int32 → Mem → Prop) (B : Int32 → Int32 → Mem → Prop) (hB : ∀ (a1 : Int32) (a2 : Int32) (μ : Mem), B a1 a2 μ → J p l e rm_X6_together s m args below meth c D Y ad (PA ad) 0 0 4 (MQ below (va_Qi K (BB D Y ad) (PA ad)) args s 0 0 (PA ad)) 4 [(0, .ref (ad 168)), (1, .int a1), (2, .int a2)] [] μ)  (hX : xb_X6_together_L4 K B a1 a2 μ) : J p l e rm_X6_together s m args below meth c D Y ad (PA ad) 0 0 4 (MQ below (va_Qi K (BB D Y ad) (PA ad)) args s 0 0 (PA ad)) 4 [(0, .ref (ad 168)), (1, .int a1), (2, .int a2)] [] μ := by
  refine j_iload_n C0 2 dX6_together_4 rfl rfl rfl ?_
  refine j_iconst C0 4 dX6_together_5 (by decide) rfl ?_
  refine j_icmp_ge C0 (tgt := 60) dX6_together_6 (by decide) rfl (fun c1 => ?_) (fun c1 => ?_)
  · have hX := hX.1 c1
    refine j_iload_n C0 1 dX6_together_60 rfl rfl rfl ?_
    exact j_iret C0 hlk hret dX6_together_61 hX
  · have hX := hX.2 c1
    refine j_aload_n C0 0 dX6_together_9 rfl rfl rfl ?_
    refine j_get6 C0 (v := .ref (ad 169)) 0 (rfl : kd 168 = 6) fw_X6_together_6 hw_X6_together_0 (fun _ h9 => h9) (by decide) rfl dX6_together_10 rfl ?_
    refine j_iload_n C0 2 dX6_together_13 rfl rfl rfl ?_
    refine j_callSi C0 1 [.int a2] (c_X6_w a2  hX) dX6_together_14 gX6_together_X6_w rfl (by decide +kernel) ⟨⟨Nat.le_of_ble_eq_true rfl, Nat.le_of_ble_eq_true rfl⟩, rfl, rfl⟩ rfl rfl (Nat.le_of_ble_eq_true rfl) rfl (fun r3 μ2 hX => ?_)
    refine j_iconst C0 4 dX6_together_17 (by decide) rfl ?_
    refine j_iadd C0 dX6_together_18 rfl ?_
    obtain ⟨h4, hX⟩ := hX
    refine j_iald C0 (n := 166) (kd_lt (rfl : kd 169 = 18) (by decide)) (ce18 (rfl : kd 169 = 18)) h4 dX6_together_19 rfl ?_
    refine j_iconst C0 1 dX6_together_20 (by decide) rfl ?_
    refine j_icmp_ne C0 (tgt := 41) dX6_together_21 (by decide) rfl (fun c5 => ?_) (fun c5 => ?_)
    · have hX := hX.1 c5
      refine j_aload_n C0 0 dX6_together_24 rfl rfl rfl ?_
      refine j_get6 C0 (v := .ref (ad 169)) 0 (rfl : kd 168 = 6) fw_X6_together_6 hw_X6_together_0 (fun _ h9 => h9) (by decide) rfl dX6_together_25 rfl ?_
      refine j_iload_n C0 2 dX6_together_28 rfl rfl rfl ?_
      refine j_callSi C0 1 [.int a2] (c_X6_w a2  hX) dX6_together_29 gX6_together_X6_w rfl (by decide +kernel) ⟨⟨Nat.le_of_ble_eq_true rfl, Nat.le_of_ble_eq_true rfl⟩, rfl, rfl⟩ rfl rfl (Nat.le_of_ble_eq_true rfl) rfl (fun r7 μ6 hX => ?_)
      refine j_iconst C0 1 dX6_together_32 (by decide) rfl ?_
      refine j_iadd C0 dX6_together_33 rfl ?_
      obtain ⟨h8, hX⟩ := hX
      refine j_iald C0 (n := 166) (kd_lt (rfl : kd 169 = 18) (by decide)) (ce18 (rfl : kd 169 = 18)) h8 dX6_together_34 rfl ?_
      refine j_callSi C0 1 [.int (μ6 169 (r7 + 1).toNatClampNeg)] (c_X6_around (μ6 169 (r7 + 1).toNatClampNeg)  hX) dX6_together_35 gX6_together_X6_around rfl (by decide +kernel) ⟨⟨Nat.le_of_ble_eq_true rfl, Nat.le_of_ble_eq_true rfl⟩, rfl, rfl⟩ rfl rfl (Nat.le_of_ble_eq_true rfl) rfl (fun r10 μ9 hX => ?_)
      refine j_goto C0 (tgt := 42) dX6_together_38 (by decide) ?_
      exact j_sub (l' := [(0, .ref (ad 168)), (1, .int a1), (2, .int a2)]) [0, 1, 2] rfl (w_X6_together_L42 C0 hlk hret a1 a2 r10 μ9 K B hB  hX)
    · have hX := hX.2 c5
      refine j_iconst C0 1 dX6_together_41 (by decide) rfl ?_
      exact j_sub (l' := [(0, .ref (ad 168)), (1, .int a1), (2, .int a2)]) [0, 1, 2] rfl (w_X6_together_L42 C0 hlk hret a1 a2 1 μ2 K B hB  hX)
theorem w_X6_together_L4 {p : Program} {l : Launch} {e : Env} {s : State} {m : MethodId} {args : Array Value} {below : List Frame} {meth : Method} {c : Code} {D : va_G} {Y : Nat → ClassId} {ad : Nat → Nat} (C0 : CX D Y ad (PA ad) rm_X6_together 0 0 p s args m c cX6_together 4 RX6 wsX6_together) (hlk : meth.locks = false) (hret : meth.sig.returnType = (some .int)) (K : Int32 → Mem → Prop) : ∀ (n : Nat) (a1 : Int32) (a2 : Int32) (μ : Mem)  (hX : x_X6_together_L4 K n a1 a2 μ), J p l e rm_X6_together s m args below meth c D Y ad (PA ad) 0 0 4 (MQ below (va_Qi K (BB D Y ad) (PA ad)) args s 0 0 (PA ad)) 4 [(0, .ref (ad 168)), (1, .int a1), (2, .int a2)] [] μ
  | 0, a1, a2, μ, hX => hX.elim
  | n + 1, a1, a2, μ, hX => wb_X6_together_L4 C0 hlk hret a1 a2 μ K (x_X6_together_L4 K n) (fun a1 a2 μ  hx => w_X6_together_L4 C0 hlk hret K n a1 a2 μ  hx)  hX
def x_X6_together  (μ : Mem) (K : Int32 → Mem → Prop) : Prop :=
  ∃ n : Nat, x_X6_together_L4 K n 1 0 μ
set_option maxRecDepth 20000 in
theorem w_X6_together {p : Program} {l : Launch} {e : Env} {s : State} {m : MethodId} {args : Array Value} {below : List Frame} {meth : Method} {c : Code} {D : va_G} {Y : Nat → ClassId} {ad : Nat → Nat} (C0 : CX D Y ad (PA ad) rm_X6_together 0 0 p s args m c cX6_together 4 RX6 wsX6_together) (hlk : meth.locks = false) (hret : meth.sig.returnType = (some .int))  (μ : Mem) (K : Int32 → Mem → Prop)  (hX : x_X6_together  μ K) : J p l e rm_X6_together s m args below meth c D Y ad (PA ad) 0 0 4 (MQ below (va_Qi K (BB D Y ad) (PA ad)) args s 0 0 (PA ad)) 0 [(0, .ref (ad 168))] [] μ := by
  refine j_iconst C0 1 dX6_together_0 (by decide) rfl ?_
  refine j_istore_n C0 [(1, .int 1), (0, .ref (ad 168))] dX6_together_1 rfl (by decide) rfl rfl ?_
  refine j_iconst C0 0 dX6_together_2 (by decide) rfl ?_
  refine j_istore_n C0 [(2, .int 0), (1, .int 1), (0, .ref (ad 168))] dX6_together_3 rfl (by decide) rfl rfl ?_
  obtain ⟨n, hX⟩ := hX
  exact j_sub (l' := [(0, .ref (ad 168)), (1, .int 1), (2, .int 0)]) [2, 1, 0] rfl (w_X6_together_L4 C0 hlk hret K n 1 0 μ  hX)
theorem c_X6_together {l : Launch} {D : va_G} {Y : Nat → ClassId} {ad : Nat → Nat}  {μ : Mem} {K : Int32 → Mem → Prop}  (hX : x_X6_together  μ K) : ConI l yX6_together wsX6_together rm_X6_together [.ref (ad 168)] D Y ad μ K := conI_of (cc := cX6_together) (maxL := 4) (ret := (some .int)) (own := RX6) _ (by decide +kernel) rfl rfl (Nat.le_of_ble_eq_true rfl) (fun p e s m args below meth c C0 hlk hret => j_sub (l' := [(0, .ref (ad 168))]) [0] rfl (w_X6_together C0 hlk hret  μ K  hX))
/-! PhaseTonesModel.count(I)I -/
abbrev rm_X6_count : Room := rmf 3 64
theorem fw_X6_count_6 : ∀ w ∈ wsX60, w ∈ wsX6_count := by decide +kernel
theorem hw_X6_count_0 : Cond.fieldLink RX6 7 RX6 (TX6 0).2.1 (TX6 0).2.2.1 ∈ wsX6_count := by decide +kernel
theorem hw_X6_count_1 : Cond.fieldLink RX6 102 RX6 (TX6 8).2.1 (TX6 8).2.2.1 ∈ wsX6_count := by decide +kernel
theorem hw_X6_count_2 : Cond.fieldLink RX6 44 RX6 (TX6 9).2.1 (TX6 9).2.2.1 ∈ wsX6_count := by decide +kernel
def x_X6_count (a1 : Int32) (μ : Mem) (K : Int32 → Mem → Prop) : Prop :=
  (a1 = 0 → vp_in a1 166 ∧ K (μ 169 a1.toNatClampNeg) μ) ∧ (¬ (a1 = 0) → (a1 = 1 → vp_in a1 166 ∧ K (μ 169 a1.toNatClampNeg) μ) ∧ (¬ (a1 = 1) → (a1 = 2 → vp_in a1 166 ∧ K (μ 169 a1.toNatClampNeg) μ) ∧ (¬ (a1 = 2) → (a1 = 3 → x_X6_onWheels  μ (fun r9 μ8 => K r9 μ8)) ∧ (¬ (a1 = 3) → (a1 = 4 → x_X6_mixture  μ (fun r12 μ11 => (r12 ≤ (μ11 169 0) → x_X6_mixture  μ11 (fun r15 μ14 => K r15 μ14)) ∧ (¬ (r12 ≤ (μ11 169 0)) → K (μ11 169 0) μ11))) ∧ (¬ (a1 = 4) → (a1 = 5 → K (μ 169 3) μ) ∧ (¬ (a1 = 5) → (a1 = 6 → K (μ 169 4) μ) ∧ (¬ (a1 = 6) → (a1 = 7 → x_X6_together  μ (fun r20 μ19 => K r20 μ19)) ∧ (¬ (a1 = 7) → (a1 = 8 → K (μ 168 8) μ) ∧ (¬ (a1 = 8) → (a1 = 9 → K (μ 168 9) μ) ∧ (¬ (a1 = 9) → K (-2) μ))))))))))
set_option maxRecDepth 20000 in
theorem w_X6_count {p : Program} {l : Launch} {e : Env} {s : State} {m : MethodId} {args : Array Value} {below : List Frame} {meth : Method} {c : Code} {D : va_G} {Y : Nat → ClassId} {ad : Nat → Nat} (C0 : CX D Y ad (PA ad) rm_X6_count 0 0 p s args m c cX6_count 2 RX6 wsX6_count) (hlk : meth.locks = false) (hret : meth.sig.returnType = (some .int)) (a1 : Int32) (μ : Mem) (K : Int32 → Mem → Prop)  (hX : x_X6_count a1 μ K) : J p l e rm_X6_count s m args below meth c D Y ad (PA ad) 0 0 2 (MQ below (va_Qi K (BB D Y ad) (PA ad)) args s 0 0 (PA ad)) 0 [(0, .ref (ad 168)), (1, .int a1)] [] μ := by
  refine j_iload_n C0 1 dX6_count_0 rfl rfl rfl ?_
  by_cases c1 : a1 = 0
  · have hX := hX.1 c1
    refine j_tableIn C0 (off := 55) (tgt := 56) dX6_count_1 (by rw [c1]; decide) (by rw [c1]; decide) (by rw [c1]; decide) (by decide) ?_
    refine j_aload_n C0 0 dX6_count_56 rfl rfl rfl ?_
    refine j_get6 C0 (v := .ref (ad 169)) 0 (rfl : kd 168 = 6) fw_X6_count_6 hw_X6_count_0 (fun _ h9 => h9) (by decide) rfl dX6_count_57 rfl ?_
    refine j_iload_n C0 1 dX6_count_60 rfl rfl rfl ?_
    obtain ⟨h2, hX⟩ := hX
    refine j_iald C0 (n := 166) (kd_lt (rfl : kd 169 = 18) (by decide)) (ce18 (rfl : kd 169 = 18)) h2 dX6_count_61 rfl ?_
    exact j_iret C0 hlk hret dX6_count_62 hX
  · have hX := hX.2 c1
    by_cases c3 : a1 = 1
    · have hX := hX.1 c3
      refine j_tableIn C0 (off := 55) (tgt := 56) dX6_count_1 (by rw [c3]; decide) (by rw [c3]; decide) (by rw [c3]; decide) (by decide) ?_
      refine j_aload_n C0 0 dX6_count_56 rfl rfl rfl ?_
      refine j_get6 C0 (v := .ref (ad 169)) 0 (rfl : kd 168 = 6) fw_X6_count_6 hw_X6_count_0 (fun _ h9 => h9) (by decide) rfl dX6_count_57 rfl ?_
      refine j_iload_n C0 1 dX6_count_60 rfl rfl rfl ?_
      obtain ⟨h4, hX⟩ := hX
      refine j_iald C0 (n := 166) (kd_lt (rfl : kd 169 = 18) (by decide)) (ce18 (rfl : kd 169 = 18)) h4 dX6_count_61 rfl ?_
      exact j_iret C0 hlk hret dX6_count_62 hX
    · have hX := hX.2 c3
      by_cases c5 : a1 = 2
      · have hX := hX.1 c5
        refine j_tableIn C0 (off := 55) (tgt := 56) dX6_count_1 (by rw [c5]; decide) (by rw [c5]; decide) (by rw [c5]; decide) (by decide) ?_
        refine j_aload_n C0 0 dX6_count_56 rfl rfl rfl ?_
        refine j_get6 C0 (v := .ref (ad 169)) 0 (rfl : kd 168 = 6) fw_X6_count_6 hw_X6_count_0 (fun _ h9 => h9) (by decide) rfl dX6_count_57 rfl ?_
        refine j_iload_n C0 1 dX6_count_60 rfl rfl rfl ?_
        obtain ⟨h6, hX⟩ := hX
        refine j_iald C0 (n := 166) (kd_lt (rfl : kd 169 = 18) (by decide)) (ce18 (rfl : kd 169 = 18)) h6 dX6_count_61 rfl ?_
        exact j_iret C0 hlk hret dX6_count_62 hX
      · have hX := hX.2 c5
        by_cases c7 : a1 = 3
        · have hX := hX.1 c7
          refine j_tableIn C0 (off := 62) (tgt := 63) dX6_count_1 (by rw [c7]; decide) (by rw [c7]; decide) (by rw [c7]; decide) (by decide) ?_
          refine j_aload_n C0 0 dX6_count_63 rfl rfl rfl ?_
          refine j_callVi C0 0 [] (c_X6_onWheels   hX) dX6_count_64 gX6_count_X6_onWheels rfl (by decide +kernel) ⟨⟨Nat.le_of_ble_eq_true rfl, Nat.le_of_ble_eq_true rfl⟩, rfl, rfl⟩ (kd_lt (rfl : kd 168 = 6) (by decide)) (ce6 (rfl : kd 168 = 6)) rfl rfl rfl (Nat.le_of_ble_eq_true rfl) rfl (fun r9 μ8 hX => ?_)
          exact j_iret C0 hlk hret dX6_count_67 hX
        · have hX := hX.2 c7
          by_cases c10 : a1 = 4
          · have hX := hX.1 c10
            refine j_tableIn C0 (off := 67) (tgt := 68) dX6_count_1 (by rw [c10]; decide) (by rw [c10]; decide) (by rw [c10]; decide) (by decide) ?_
            refine j_aload_n C0 0 dX6_count_68 rfl rfl rfl ?_
            refine j_callVi C0 0 [] (c_X6_mixture   hX) dX6_count_69 gX6_count_X6_mixture rfl (by decide +kernel) ⟨⟨Nat.le_of_ble_eq_true rfl, Nat.le_of_ble_eq_true rfl⟩, rfl, rfl⟩ (kd_lt (rfl : kd 168 = 6) (by decide)) (ce6 (rfl : kd 168 = 6)) rfl rfl rfl (Nat.le_of_ble_eq_true rfl) rfl (fun r12 μ11 hX => ?_)
            refine j_aload_n C0 0 dX6_count_72 rfl rfl rfl ?_
            refine j_get6 C0 (v := .ref (ad 169)) 0 (rfl : kd 168 = 6) fw_X6_count_6 hw_X6_count_0 (fun _ h9 => h9) (by decide) rfl dX6_count_73 rfl ?_
            refine j_iconst C0 0 dX6_count_76 (by decide) rfl ?_
            refine j_iald C0 (n := 166) (kd_lt (rfl : kd 169 = 18) (by decide)) (ce18 (rfl : kd 169 = 18)) (vp_lit (i := 0) (by decide)) dX6_count_77 rfl ?_
            refine j_val (μ11 169 0) rfl ?_
            refine j_icmp_le C0 (tgt := 90) dX6_count_78 (by decide) rfl (fun c13 => ?_) (fun c13 => ?_)
            · have hX := hX.1 c13
              refine j_aload_n C0 0 dX6_count_90 rfl rfl rfl ?_
              refine j_callVi C0 0 [] (c_X6_mixture   hX) dX6_count_91 gX6_count_X6_mixture rfl (by decide +kernel) ⟨⟨Nat.le_of_ble_eq_true rfl, Nat.le_of_ble_eq_true rfl⟩, rfl, rfl⟩ (kd_lt (rfl : kd 168 = 6) (by decide)) (ce6 (rfl : kd 168 = 6)) rfl rfl rfl (Nat.le_of_ble_eq_true rfl) rfl (fun r15 μ14 hX => ?_)
              exact j_iret C0 hlk hret dX6_count_94 hX
            · have hX := hX.2 c13
              refine j_aload_n C0 0 dX6_count_81 rfl rfl rfl ?_
              refine j_get6 C0 (v := .ref (ad 169)) 0 (rfl : kd 168 = 6) fw_X6_count_6 hw_X6_count_0 (fun _ h9 => h9) (by decide) rfl dX6_count_82 rfl ?_
              refine j_iconst C0 0 dX6_count_85 (by decide) rfl ?_
              refine j_iald C0 (n := 166) (kd_lt (rfl : kd 169 = 18) (by decide)) (ce18 (rfl : kd 169 = 18)) (vp_lit (i := 0) (by decide)) dX6_count_86 rfl ?_
              refine j_val (μ11 169 0) rfl ?_
              refine j_goto C0 (tgt := 94) dX6_count_87 (by decide) ?_
              exact j_iret C0 hlk hret dX6_count_94 hX
          · have hX := hX.2 c10
            by_cases c16 : a1 = 5
            · have hX := hX.1 c16
              refine j_tableIn C0 (off := 94) (tgt := 95) dX6_count_1 (by rw [c16]; decide) (by rw [c16]; decide) (by rw [c16]; decide) (by decide) ?_
              refine j_aload_n C0 0 dX6_count_95 rfl rfl rfl ?_
              refine j_get6 C0 (v := .ref (ad 169)) 0 (rfl : kd 168 = 6) fw_X6_count_6 hw_X6_count_0 (fun _ h9 => h9) (by decide) rfl dX6_count_96 rfl ?_
              refine j_iconst C0 3 dX6_count_99 (by decide) rfl ?_
              refine j_iald C0 (n := 166) (kd_lt (rfl : kd 169 = 18) (by decide)) (ce18 (rfl : kd 169 = 18)) (vp_lit (i := 3) (by decide)) dX6_count_100 rfl ?_
              refine j_val (μ 169 3) rfl ?_
              exact j_iret C0 hlk hret dX6_count_101 hX
            · have hX := hX.2 c16
              by_cases c17 : a1 = 6
              · have hX := hX.1 c17
                refine j_tableIn C0 (off := 101) (tgt := 102) dX6_count_1 (by rw [c17]; decide) (by rw [c17]; decide) (by rw [c17]; decide) (by decide) ?_
                refine j_aload_n C0 0 dX6_count_102 rfl rfl rfl ?_
                refine j_get6 C0 (v := .ref (ad 169)) 0 (rfl : kd 168 = 6) fw_X6_count_6 hw_X6_count_0 (fun _ h9 => h9) (by decide) rfl dX6_count_103 rfl ?_
                refine j_iconst C0 4 dX6_count_106 (by decide) rfl ?_
                refine j_iald C0 (n := 166) (kd_lt (rfl : kd 169 = 18) (by decide)) (ce18 (rfl : kd 169 = 18)) (vp_lit (i := 4) (by decide)) dX6_count_107 rfl ?_
                refine j_val (μ 169 4) rfl ?_
                exact j_iret C0 hlk hret dX6_count_108 hX
              · have hX := hX.2 c17
                by_cases c18 : a1 = 7
                · have hX := hX.1 c18
                  refine j_tableIn C0 (off := 108) (tgt := 109) dX6_count_1 (by rw [c18]; decide) (by rw [c18]; decide) (by rw [c18]; decide) (by decide) ?_
                  refine j_aload_n C0 0 dX6_count_109 rfl rfl rfl ?_
                  refine j_callVi C0 0 [] (c_X6_together   hX) dX6_count_110 gX6_count_X6_together rfl (by decide +kernel) ⟨⟨Nat.le_of_ble_eq_true rfl, Nat.le_of_ble_eq_true rfl⟩, rfl, rfl⟩ (kd_lt (rfl : kd 168 = 6) (by decide)) (ce6 (rfl : kd 168 = 6)) rfl rfl rfl (Nat.le_of_ble_eq_true rfl) rfl (fun r20 μ19 hX => ?_)
                  exact j_iret C0 hlk hret dX6_count_113 hX
                · have hX := hX.2 c18
                  by_cases c21 : a1 = 8
                  · have hX := hX.1 c21
                    refine j_tableIn C0 (off := 113) (tgt := 114) dX6_count_1 (by rw [c21]; decide) (by rw [c21]; decide) (by rw [c21]; decide) (by decide) ?_
                    refine j_aload_n C0 0 dX6_count_114 rfl rfl rfl ?_
                    refine j_get6 C0 (v := .int (μ 168 8)) 8 (rfl : kd 168 = 6) fw_X6_count_6 hw_X6_count_1 (fun _ h9 => h9) (by decide) rfl dX6_count_115 rfl ?_
                    exact j_iret C0 hlk hret dX6_count_118 hX
                  · have hX := hX.2 c21
                    by_cases c22 : a1 = 9
                    · have hX := hX.1 c22
                      refine j_tableIn C0 (off := 118) (tgt := 119) dX6_count_1 (by rw [c22]; decide) (by rw [c22]; decide) (by rw [c22]; decide) (by decide) ?_
                      refine j_aload_n C0 0 dX6_count_119 rfl rfl rfl ?_
                      refine j_get6 C0 (v := .int (μ 168 9)) 9 (rfl : kd 168 = 6) fw_X6_count_6 hw_X6_count_2 (fun _ h9 => h9) (by decide) rfl dX6_count_120 rfl ?_
                      exact j_iret C0 hlk hret dX6_count_123 hX
                    · have hX := hX.2 c22
                      have t_c1 : ¬ (a1).toInt = 0 := lv_neT c1 (by decide)
                      have t_c3 : ¬ (a1).toInt = 1 := lv_neT c3 (by decide)
                      have t_c5 : ¬ (a1).toInt = 2 := lv_neT c5 (by decide)
                      have t_c7 : ¬ (a1).toInt = 3 := lv_neT c7 (by decide)
                      have t_c10 : ¬ (a1).toInt = 4 := lv_neT c10 (by decide)
                      have t_c16 : ¬ (a1).toInt = 5 := lv_neT c16 (by decide)
                      have t_c17 : ¬ (a1).toInt = 6 := lv_neT c17 (by decide)
                      have t_c18 : ¬ (a1).toInt = 7 := lv_neT c18 (by decide)
                      have t_c21 : ¬ (a1).toInt = 8 := lv_neT c21 (by decide)
                      have t_c22 : ¬ (a1).toInt = 9 := lv_neT c22 (by decide)
                      refine j_tableOut C0 (tgt := 124) dX6_count_1 (by omega) (by decide) ?_
                      refine j_bipush C0 (-2) dX6_count_124 (by decide) rfl ?_
                      exact j_iret C0 hlk hret dX6_count_126 hX
theorem c_X6_count {l : Launch} {D : va_G} {Y : Nat → ClassId} {ad : Nat → Nat} (a1 : Int32) {μ : Mem} {K : Int32 → Mem → Prop}  (hX : x_X6_count a1 μ K) : ConI l yX6_count wsX6_count rm_X6_count [.ref (ad 168), .int a1] D Y ad μ K := conI_of (cc := cX6_count) (maxL := 2) (ret := (some .int)) (own := RX6) _ (by decide +kernel) rfl rfl (Nat.le_of_ble_eq_true rfl) (fun p e s m args below meth c C0 hlk hret => j_sub (l' := [(0, .ref (ad 168)), (1, .int a1)]) [0, 1] rfl (w_X6_count C0 hlk hret a1 μ K  hX))
/-! PhaseTonesModel.ifMade(II)I -/
abbrev rm_X6_ifMade : Room := rmf 4 87
theorem fw_X6_ifMade_6 : ∀ w ∈ wsX60, w ∈ wsX6_ifMade := by decide +kernel
theorem hw_X6_ifMade_0 : Cond.fieldLink RX6 7 RX6 (TX6 0).2.1 (TX6 0).2.2.1 ∈ wsX6_ifMade := by decide +kernel
theorem hw_X6_ifMade_1 : Cond.fieldLink RX6 16 RX6 (TX6 2).2.1 (TX6 2).2.2.1 ∈ wsX6_ifMade := by decide +kernel
def x_X6_ifMade_L79 (K : Int32 → Mem → Prop) (B : Int32 → Int32 → Int32 → Int32 → Int32 → Int32 → Mem → Prop) (a1 : Int32) (a2 : Int32) (a3 : Int32) (a5 : Int32) (a6 : Int32) (as0 : Int32) (μ : Mem) : Prop :=
  ∀ v18 : Int32, v18 = a6 + 1 → B a1 a2 a3 as0 a5 v18 μ
set_option maxRecDepth 20000 in
theorem w_X6_ifMade_L79 {p : Program} {l : Launch} {e : Env} {s : State} {m : MethodId} {args : Array Value} {below : List Frame} {meth : Method} {c : Code} {D : va_G} {Y : Nat → ClassId} {ad : Nat → Nat} (C0 : CX D Y ad (PA ad) rm_X6_ifMade 0 0 p s args m c cX6_ifMade 7 RX6 wsX6_ifMade) (hlk : meth.locks = false) (hret : meth.sig.returnType = (some .int)) (a1 : Int32) (a2 : Int32) (a3 : Int32) (a5 : Int32) (a6 : Int32) (as0 : Int32) (μ : Mem) (K : Int32 → Mem → Prop) (B : Int32 → Int32 → Int32 → Int32 → Int32 → Int32 → Mem → Prop) (hB : ∀ (a1 : Int32) (a2 : Int32) (a3 : Int32) (a4 : Int32) (a5 : Int32) (a6 : Int32) (μ : Mem), B a1 a2 a3 a4 a5 a6 μ → J p l e rm_X6_ifMade s m args below meth c D Y ad (PA ad) 0 0 7 (MQ below (va_Qi K (BB D Y ad) (PA ad)) args s 0 0 (PA ad)) 40 [(0, .ref (ad 168)), (1, .int a1), (2, .int a2), (3, .int a3), (4, .int a4), (5, .int a5), (6, .int a6)] [] μ)  (hX : x_X6_ifMade_L79 K B a1 a2 a3 a5 a6 as0 μ) : J p l e rm_X6_ifMade s m args below meth c D Y ad (PA ad) 0 0 7 (MQ below (va_Qi K (BB D Y ad) (PA ad)) args s 0 0 (PA ad)) 79 [(0, .ref (ad 168)), (1, .int a1), (2, .int a2), (3, .int a3), (5, .int a5), (6, .int a6)] [.int as0] μ := by
  refine j_istore C0 [(4, .int as0), (0, .ref (ad 168)), (1, .int a1), (2, .int a2), (3, .int a3), (5, .int a5), (6, .int a6)] dX6_ifMade_79 (by decide) rfl rfl ?_
  obtain ⟨v18, e_v18⟩ : ∃ z : Int32, z = a6 + 1 := ⟨_, rfl⟩
  have hX := hX v18 e_v18
  refine j_iinc C0 6 v18 [(6, .int v18), (4, .int as0), (0, .ref (ad 168)), (1, .int a1), (2, .int a2), (3, .int a3), (5, .int a5)] dX6_ifMade_81 rfl (by rw [e_v18]; rfl) (by decide) rfl rfl ?_
  refine j_goto C0 (tgt := 40) dX6_ifMade_84 (by decide) ?_
  exact j_sub (l' := [(0, .ref (ad 168)), (1, .int a1), (2, .int a2), (3, .int a3), (4, .int as0), (5, .int a5), (6, .int v18)]) [2, 3, 4, 5, 1, 6, 0] rfl (hB a1 a2 a3 as0 a5 v18 μ  hX)
def x_X6_ifMade_L64 (K : Int32 → Mem → Prop) (B : Int32 → Int32 → Int32 → Int32 → Int32 → Int32 → Mem → Prop) (a1 : Int32) (a2 : Int32) (a4 : Int32) (a5 : Int32) (a6 : Int32) (as0 : Int32) (μ : Mem) : Prop :=
  (a4 ≤ a5 → x_X6_ifMade_L79 K B a1 a2 as0 a5 a6 a4 μ) ∧ (¬ (a4 ≤ a5) → x_X6_ifMade_L79 K B a1 a2 as0 a5 a6 a5 μ)
set_option maxRecDepth 20000 in
theorem w_X6_ifMade_L64 {p : Program} {l : Launch} {e : Env} {s : State} {m : MethodId} {args : Array Value} {below : List Frame} {meth : Method} {c : Code} {D : va_G} {Y : Nat → ClassId} {ad : Nat → Nat} (C0 : CX D Y ad (PA ad) rm_X6_ifMade 0 0 p s args m c cX6_ifMade 7 RX6 wsX6_ifMade) (hlk : meth.locks = false) (hret : meth.sig.returnType = (some .int)) (a1 : Int32) (a2 : Int32) (a4 : Int32) (a5 : Int32) (a6 : Int32) (as0 : Int32) (μ : Mem) (K : Int32 → Mem → Prop) (B : Int32 → Int32 → Int32 → Int32 → Int32 → Int32 → Mem → Prop) (hB : ∀ (a1 : Int32) (a2 : Int32) (a3 : Int32) (a4 : Int32) (a5 : Int32) (a6 : Int32) (μ : Mem), B a1 a2 a3 a4 a5 a6 μ → J p l e rm_X6_ifMade s m args below meth c D Y ad (PA ad) 0 0 7 (MQ below (va_Qi K (BB D Y ad) (PA ad)) args s 0 0 (PA ad)) 40 [(0, .ref (ad 168)), (1, .int a1), (2, .int a2), (3, .int a3), (4, .int a4), (5, .int a5), (6, .int a6)] [] μ)  (hX : x_X6_ifMade_L64 K B a1 a2 a4 a5 a6 as0 μ) : J p l e rm_X6_ifMade s m args below meth c D Y ad (PA ad) 0 0 7 (MQ below (va_Qi K (BB D Y ad) (PA ad)) args s 0 0 (PA ad)) 64 [(0, .ref (ad 168)), (1, .int a1), (2, .int a2), (4, .int a4), (5, .int a5), (6, .int a6)] [.int as0] μ := by
  refine j_istore_n C0 [(3, .int as0), (0, .ref (ad 168)), (1, .int a1), (2, .int a2), (4, .int a4), (5, .int a5), (6, .int a6)] dX6_ifMade_64 rfl (by decide) rfl rfl ?_
  refine j_iload C0 5 dX6_ifMade_65 rfl rfl ?_
  refine j_iload C0 4 dX6_ifMade_67 rfl rfl ?_
  refine j_icmp_ge C0 (tgt := 77) dX6_ifMade_69 (by decide) rfl (fun c17 => ?_) (fun c17 => ?_)
  · have hX := hX.1 c17
    refine j_iload C0 4 dX6_ifMade_77 rfl rfl ?_
    exact j_sub (l' := [(0, .ref (ad 168)), (1, .int a1), (2, .int a2), (3, .int as0), (5, .int a5), (6, .int a6)]) [1, 2, 3, 0, 5, 6] rfl (w_X6_ifMade_L79 C0 hlk hret a1 a2 as0 a5 a6 a4 μ K B hB  hX)
  · have hX := hX.2 c17
    refine j_iload C0 5 dX6_ifMade_72 rfl rfl ?_
    refine j_goto C0 (tgt := 79) dX6_ifMade_74 (by decide) ?_
    exact j_sub (l' := [(0, .ref (ad 168)), (1, .int a1), (2, .int a2), (3, .int as0), (5, .int a5), (6, .int a6)]) [1, 2, 3, 0, 5, 6] rfl (w_X6_ifMade_L79 C0 hlk hret a1 a2 as0 a5 a6 a5 μ K B hB  hX)
def xb_X6_ifMade_L40 (K : Int32 → Mem → Prop) (B : Int32 → Int32 → Int32 → Int32 → Int32 → Int32 → Mem → Prop) (a1 : Int32) (a2 : Int32) (a3 : Int32) (a4 : Int32) (a5 : Int32) (a6 : Int32) (μ : Mem) : Prop :=
  (a1 ≤ a6 → ∀ v9 : Int32, v9 = ((μ 169 2) - (μ 171 2)) → x_X6_putBack  μ (fun μ10 => (a2 = 0 → K a3 μ10) ∧ (¬ (a2 = 0) → (a2 = 1 → K a4 μ10) ∧ (¬ (a2 = 1) → (a2 = 2 → K v9 μ10) ∧ (¬ (a2 = 2) → K a5 μ10))))) ∧ (¬ (a1 ≤ a6) → x_X6_makes  μ (fun r15 μ14 => (r15 ≤ a3 → x_X6_ifMade_L64 K B a1 a2 a4 r15 a6 a3 μ14) ∧ (¬ (r15 ≤ a3) → x_X6_ifMade_L64 K B a1 a2 a4 r15 a6 r15 μ14)))
def x_X6_ifMade_L40 (K : Int32 → Mem → Prop) : Nat → Int32 → Int32 → Int32 → Int32 → Int32 → Int32 → Mem → Prop
  | 0 => fun _ _ _ _ _ _ _ => False
  | n + 1 => fun a1 a2 a3 a4 a5 a6 μ => xb_X6_ifMade_L40 K (x_X6_ifMade_L40 K n) a1 a2 a3 a4 a5 a6 μ
set_option maxRecDepth 20000 in
theorem wb_X6_ifMade_L40 {p : Program} {l : Launch} {e : Env} {s : State} {m : MethodId} {args : Array Value} {below : List Frame} {meth : Method} {c : Code} {D : va_G} {Y : Nat → ClassId} {ad : Nat → Nat} (C0 : CX D Y ad (PA ad) rm_X6_ifMade 0 0 p s args m c cX6_ifMade 7 RX6 wsX6_ifMade) (hlk : meth.locks = false) (hret : meth.sig.returnType = (some .int)) (a1 : Int32) (a2 : Int32) (a3 : Int32) (a4 : Int32) (a5 : Int32) (a6 : Int32) (μ : Mem) (K : Int32 → Mem → Prop) (B : Int32 → Int32 → Int32 → Int32 → Int32 → Int32 → Mem → Prop) (hB : ∀ (a1 : Int32) (a2 : Int32) (a3 : Int32) (a4 : Int32) (a5 : Int32) (a6 : Int32) (μ : Mem), B a1 a2 a3 a4 a5 a6 μ → J p l e rm_X6_ifMade s m args below meth c D Y ad (PA ad) 0 0 7 (MQ below (va_Qi K (BB D Y ad) (PA ad)) args s 0 0 (PA ad)) 40 [(0, .ref (ad 168)), (1, .int a1), (2, .int a2), (3, .int a3), (4, .int a4), (5, .int a5), (6, .int a6)] [] μ)  (hX : xb_X6_ifMade_L40 K B a1 a2 a3 a4 a5 a6 μ) : J p l e rm_X6_ifMade s m args below meth c D Y ad (PA ad) 0 0 7 (MQ below (va_Qi K (BB D Y ad) (PA ad)) args s 0 0 (PA ad)) 40 [(0, .ref (ad 168)), (1, .int a1), (2, .int a2), (3, .int a3), (4, .int a4), (5, .int a5), (6, .int a6)] [] μ := by
  refine j_iload C0 6 dX6_ifMade_40 rfl rfl ?_
  refine j_iload_n C0 1 dX6_ifMade_42 rfl rfl rfl ?_
  refine j_icmp_ge C0 (tgt := 87) dX6_ifMade_43 (by decide) rfl (fun c8 => ?_) (fun c8 => ?_)
  · have hX := hX.1 c8
    refine j_aload_n C0 0 dX6_ifMade_87 rfl rfl rfl ?_
    refine j_get6 C0 (v := .ref (ad 169)) 0 (rfl : kd 168 = 6) fw_X6_ifMade_6 hw_X6_ifMade_0 (fun _ h9 => h9) (by decide) rfl dX6_ifMade_88 rfl ?_
    refine j_iconst C0 2 dX6_ifMade_91 (by decide) rfl ?_
    refine j_iald C0 (n := 166) (kd_lt (rfl : kd 169 = 18) (by decide)) (ce18 (rfl : kd 169 = 18)) (vp_lit (i := 2) (by decide)) dX6_ifMade_92 rfl ?_
    refine j_val (μ 169 2) rfl ?_
    refine j_aload_n C0 0 dX6_ifMade_93 rfl rfl rfl ?_
    refine j_get6 C0 (v := .ref (ad 171)) 2 (rfl : kd 168 = 6) fw_X6_ifMade_6 hw_X6_ifMade_1 (fun _ h9 => h9) (by decide) rfl dX6_ifMade_94 rfl ?_
    refine j_iconst C0 2 dX6_ifMade_97 (by decide) rfl ?_
    refine j_iald C0 (n := 166) (kd_lt (rfl : kd 171 = 18) (by decide)) (ce18 (rfl : kd 171 = 18)) (vp_lit (i := 2) (by decide)) dX6_ifMade_98 rfl ?_
    refine j_val (μ 171 2) rfl ?_
    refine j_isub C0 dX6_ifMade_99 rfl ?_
    refine j_topi (fun v9 e_v9 => ?_)
    have hX := hX v9 e_v9
    refine j_istore C0 [(6, .int v9), (0, .ref (ad 168)), (1, .int a1), (2, .int a2), (3, .int a3), (4, .int a4), (5, .int a5)] dX6_ifMade_100 (by decide) rfl rfl ?_
    refine j_aload_n C0 1 dX6_ifMade_102 rfl rfl rfl ?_
    refine j_callVv C0 0 [] (c_X6_putBack   hX) dX6_ifMade_103 gX6_ifMade_X6_putBack rfl (by decide +kernel) ⟨⟨Nat.le_of_ble_eq_true rfl, Nat.le_of_ble_eq_true rfl⟩, rfl, rfl⟩ (kd_lt (rfl : kd 168 = 6) (by decide)) (ce6 (rfl : kd 168 = 6)) rfl rfl rfl (Nat.le_of_ble_eq_true rfl) rfl (fun μ10 hX => ?_)
    refine j_iload_n C0 3 dX6_ifMade_106 rfl rfl rfl ?_
    refine j_if_ne C0 (tgt := 114) dX6_ifMade_107 (by decide) rfl (fun c11 => ?_) (fun c11 => ?_)
    · have hX := hX.1 c11
      refine j_iload_n C0 4 dX6_ifMade_110 rfl rfl rfl ?_
      refine j_goto C0 (tgt := 136) dX6_ifMade_111 (by decide) ?_
      exact j_iret C0 hlk hret dX6_ifMade_136 hX
    · have hX := hX.2 c11
      refine j_iload_n C0 3 dX6_ifMade_114 rfl rfl rfl ?_
      refine j_iconst C0 1 dX6_ifMade_115 (by decide) rfl ?_
      refine j_icmp_ne C0 (tgt := 124) dX6_ifMade_116 (by decide) rfl (fun c12 => ?_) (fun c12 => ?_)
      · have hX := hX.1 c12
        refine j_iload C0 5 dX6_ifMade_119 rfl rfl ?_
        refine j_goto C0 (tgt := 136) dX6_ifMade_121 (by decide) ?_
        exact j_iret C0 hlk hret dX6_ifMade_136 hX
      · have hX := hX.2 c12
        refine j_iload_n C0 3 dX6_ifMade_124 rfl rfl rfl ?_
        refine j_iconst C0 2 dX6_ifMade_125 (by decide) rfl ?_
        refine j_icmp_ne C0 (tgt := 134) dX6_ifMade_126 (by decide) rfl (fun c13 => ?_) (fun c13 => ?_)
        · have hX := hX.1 c13
          refine j_iload C0 0 dX6_ifMade_129 rfl rfl ?_
          refine j_goto C0 (tgt := 136) dX6_ifMade_131 (by decide) ?_
          exact j_iret C0 hlk hret dX6_ifMade_136 hX
        · have hX := hX.2 c13
          refine j_iload C0 6 dX6_ifMade_134 rfl rfl ?_
          exact j_iret C0 hlk hret dX6_ifMade_136 hX
  · have hX := hX.2 c8
    refine j_aload_n C0 0 dX6_ifMade_46 rfl rfl rfl ?_
    refine j_callVi C0 0 [] (c_X6_makes   hX) dX6_ifMade_47 gX6_ifMade_X6_makes rfl (by decide +kernel) ⟨⟨Nat.le_of_ble_eq_true rfl, Nat.le_of_ble_eq_true rfl⟩, rfl, rfl⟩ (kd_lt (rfl : kd 168 = 6) (by decide)) (ce6 (rfl : kd 168 = 6)) rfl rfl rfl (Nat.le_of_ble_eq_true rfl) rfl (fun r15 μ14 hX => ?_)
    refine j_istore C0 [(5, .int r15), (0, .ref (ad 168)), (1, .int a1), (2, .int a2), (3, .int a3), (4, .int a4), (6, .int a6)] dX6_ifMade_50 (by decide) rfl rfl ?_
    refine j_iload C0 0 dX6_ifMade_52 rfl rfl ?_
    refine j_iload_n C0 4 dX6_ifMade_54 rfl rfl rfl ?_
    refine j_icmp_le C0 (tgt := 63) dX6_ifMade_55 (by decide) rfl (fun c16 => ?_) (fun c16 => ?_)
    · have hX := hX.1 c16
      refine j_iload_n C0 4 dX6_ifMade_63 rfl rfl rfl ?_
      exact j_sub (l' := [(0, .ref (ad 168)), (1, .int a1), (2, .int a2), (4, .int a4), (5, .int r15), (6, .int a6)]) [1, 2, 3, 5, 0, 6] rfl (w_X6_ifMade_L64 C0 hlk hret a1 a2 a4 r15 a6 a3 μ14 K B hB  hX)
    · have hX := hX.2 c16
      refine j_iload C0 0 dX6_ifMade_58 rfl rfl ?_
      refine j_goto C0 (tgt := 64) dX6_ifMade_60 (by decide) ?_
      exact j_sub (l' := [(0, .ref (ad 168)), (1, .int a1), (2, .int a2), (4, .int a4), (5, .int r15), (6, .int a6)]) [1, 2, 3, 5, 0, 6] rfl (w_X6_ifMade_L64 C0 hlk hret a1 a2 a4 r15 a6 r15 μ14 K B hB  hX)
theorem w_X6_ifMade_L40 {p : Program} {l : Launch} {e : Env} {s : State} {m : MethodId} {args : Array Value} {below : List Frame} {meth : Method} {c : Code} {D : va_G} {Y : Nat → ClassId} {ad : Nat → Nat} (C0 : CX D Y ad (PA ad) rm_X6_ifMade 0 0 p s args m c cX6_ifMade 7 RX6 wsX6_ifMade) (hlk : meth.locks = false) (hret : meth.sig.returnType = (some .int)) (K : Int32 → Mem → Prop) : ∀ (n : Nat) (a1 : Int32) (a2 : Int32) (a3 : Int32) (a4 : Int32) (a5 : Int32) (a6 : Int32) (μ : Mem)  (hX : x_X6_ifMade_L40 K n a1 a2 a3 a4 a5 a6 μ), J p l e rm_X6_ifMade s m args below meth c D Y ad (PA ad) 0 0 7 (MQ below (va_Qi K (BB D Y ad) (PA ad)) args s 0 0 (PA ad)) 40 [(0, .ref (ad 168)), (1, .int a1), (2, .int a2), (3, .int a3), (4, .int a4), (5, .int a5), (6, .int a6)] [] μ
  | 0, a1, a2, a3, a4, a5, a6, μ, hX => hX.elim
  | n + 1, a1, a2, a3, a4, a5, a6, μ, hX => wb_X6_ifMade_L40 C0 hlk hret a1 a2 a3 a4 a5 a6 μ K (x_X6_ifMade_L40 K n) (fun a1 a2 a3 a4 a5 a6 μ  hx => w_X6_ifMade_L40 C0 hlk hret K n a1 a2 a3 a4 a5 a6 μ  hx)  hX
def x_X6_ifMade (a1 : Int32) (a2 : Int32) (μ : Mem) (K : Int32 → Mem → Prop) : Prop :=
  x_X6_in a1 1 2000 μ (fun r2 μ1 => (r2 = 0 → K (-2) μ1) ∧ (¬ (r2 = 0) → x_X6_in a2 0 3 μ1 (fun r5 μ4 => (r5 = 0 → K (-2) μ4) ∧ (¬ (r5 = 0) → x_X6_keepTrial  μ4 (fun μ7 => ∃ n : Nat, x_X6_ifMade_L40 K n a1 a2 0 1000 0 0 μ7)))))
set_option maxRecDepth 20000 in
theorem w_X6_ifMade {p : Program} {l : Launch} {e : Env} {s : State} {m : MethodId} {args : Array Value} {below : List Frame} {meth : Method} {c : Code} {D : va_G} {Y : Nat → ClassId} {ad : Nat → Nat} (C0 : CX D Y ad (PA ad) rm_X6_ifMade 0 0 p s args m c cX6_ifMade 7 RX6 wsX6_ifMade) (hlk : meth.locks = false) (hret : meth.sig.returnType = (some .int)) (a1 : Int32) (a2 : Int32) (μ : Mem) (K : Int32 → Mem → Prop)  (hX : x_X6_ifMade a1 a2 μ K) : J p l e rm_X6_ifMade s m args below meth c D Y ad (PA ad) 0 0 7 (MQ below (va_Qi K (BB D Y ad) (PA ad)) args s 0 0 (PA ad)) 0 [(0, .ref (ad 168)), (1, .int a1), (2, .int a2)] [] μ := by
  refine j_iload_n C0 1 dX6_ifMade_0 rfl rfl rfl ?_
  refine j_iconst C0 1 dX6_ifMade_1 (by decide) rfl ?_
  refine j_sipush C0 2000 dX6_ifMade_2 (by decide) rfl ?_
  refine j_callSi C0 3 [.int a1, .int 1, .int 2000] (c_X6_in a1 1 2000  hX) dX6_ifMade_5 gX6_ifMade_X6_in rfl (by decide +kernel) ⟨⟨Nat.le_of_ble_eq_true rfl, Nat.le_of_ble_eq_true rfl⟩, rfl, rfl⟩ rfl rfl (Nat.le_of_ble_eq_true rfl) rfl (fun r2 μ1 hX => ?_)
  refine j_if_eq C0 (tgt := 20) dX6_ifMade_8 (by decide) rfl (fun c3 => ?_) (fun c3 => ?_)
  · have hX := hX.1 c3
    refine j_bipush C0 (-2) dX6_ifMade_20 (by decide) rfl ?_
    exact j_iret C0 hlk hret dX6_ifMade_22 hX
  · have hX := hX.2 c3
    refine j_iload_n C0 2 dX6_ifMade_11 rfl rfl rfl ?_
    refine j_iconst C0 0 dX6_ifMade_12 (by decide) rfl ?_
    refine j_iconst C0 3 dX6_ifMade_13 (by decide) rfl ?_
    refine j_callSi C0 3 [.int a2, .int 0, .int 3] (c_X6_in a2 0 3  hX) dX6_ifMade_14 gX6_ifMade_X6_in rfl (by decide +kernel) ⟨⟨Nat.le_of_ble_eq_true rfl, Nat.le_of_ble_eq_true rfl⟩, rfl, rfl⟩ rfl rfl (Nat.le_of_ble_eq_true rfl) rfl (fun r5 μ4 hX => ?_)
    refine j_if_ne C0 (tgt := 23) dX6_ifMade_17 (by decide) rfl (fun c6 => ?_) (fun c6 => ?_)
    · have hX := hX.1 c6
      refine j_bipush C0 (-2) dX6_ifMade_20 (by decide) rfl ?_
      exact j_iret C0 hlk hret dX6_ifMade_22 hX
    · have hX := hX.2 c6
      refine j_aload_n C0 0 dX6_ifMade_23 rfl rfl rfl ?_
      refine j_callVv C0 0 [] (c_X6_keepTrial   hX) dX6_ifMade_24 gX6_ifMade_X6_keepTrial rfl (by decide +kernel) ⟨⟨Nat.le_of_ble_eq_true rfl, Nat.le_of_ble_eq_true rfl⟩, rfl, rfl⟩ (kd_lt (rfl : kd 168 = 6) (by decide)) (ce6 (rfl : kd 168 = 6)) rfl rfl rfl (Nat.le_of_ble_eq_true rfl) rfl (fun μ7 hX => ?_)
      refine j_iconst C0 0 dX6_ifMade_27 (by decide) rfl ?_
      refine j_istore_n C0 [(3, .int 0), (0, .ref (ad 168)), (1, .int a1), (2, .int a2)] dX6_ifMade_28 rfl (by decide) rfl rfl ?_
      refine j_sipush C0 1000 dX6_ifMade_29 (by decide) rfl ?_
      refine j_istore C0 [(4, .int 1000), (3, .int 0), (0, .ref (ad 168)), (1, .int a1), (2, .int a2)] dX6_ifMade_32 (by decide) rfl rfl ?_
      refine j_iconst C0 0 dX6_ifMade_34 (by decide) rfl ?_
      refine j_istore C0 [(5, .int 0), (4, .int 1000), (3, .int 0), (0, .ref (ad 168)), (1, .int a1), (2, .int a2)] dX6_ifMade_35 (by decide) rfl rfl ?_
      refine j_iconst C0 0 dX6_ifMade_37 (by decide) rfl ?_
      refine j_istore C0 [(6, .int 0), (5, .int 0), (4, .int 1000), (3, .int 0), (0, .ref (ad 168)), (1, .int a1), (2, .int a2)] dX6_ifMade_38 (by decide) rfl rfl ?_
      obtain ⟨n, hX⟩ := hX
      exact j_sub (l' := [(0, .ref (ad 168)), (1, .int a1), (2, .int a2), (3, .int 0), (4, .int 1000), (5, .int 0), (6, .int 0)]) [4, 5, 6, 3, 2, 1, 0] rfl (w_X6_ifMade_L40 C0 hlk hret K n a1 a2 0 1000 0 0 μ7  hX)
theorem c_X6_ifMade {l : Launch} {D : va_G} {Y : Nat → ClassId} {ad : Nat → Nat} (a1 : Int32) (a2 : Int32) {μ : Mem} {K : Int32 → Mem → Prop}  (hX : x_X6_ifMade a1 a2 μ K) : ConI l yX6_ifMade wsX6_ifMade rm_X6_ifMade [.ref (ad 168), .int a1, .int a2] D Y ad μ K := conI_of (cc := cX6_ifMade) (maxL := 7) (ret := (some .int)) (own := RX6) _ (by decide +kernel) rfl rfl (Nat.le_of_ble_eq_true rfl) (fun p e s m args below meth c C0 hlk hret => j_sub (l' := [(0, .ref (ad 168)), (1, .int a1), (2, .int a2)]) [0, 1, 2] rfl (w_X6_ifMade C0 hlk hret a1 a2 μ K  hX))
/-! PhaseTonesModel.untilClip()I -/
abbrev rm_X6_untilClip : Room := rmf 4 87
theorem fw_X6_untilClip_6 : ∀ w ∈ wsX60, w ∈ wsX6_untilClip := by decide +kernel
theorem hw_X6_untilClip_0 : Cond.fieldLink RX6 7 RX6 (TX6 0).2.1 (TX6 0).2.2.1 ∈ wsX6_untilClip := by decide +kernel
theorem hw_X6_untilClip_1 : Cond.fieldLink RX6 16 RX6 (TX6 2).2.1 (TX6 2).2.2.1 ∈ wsX6_untilClip := by decide +kernel
def x_X6_untilClip_L61 (K : Int32 → Mem → Prop) (a1 : Int32) (as0 : Int32) (μ : Mem) : Prop :=
  x_X6_putBack  μ (fun μ4 => (as0 = 0 → K (-6) μ4) ∧ (¬ (as0 = 0) → K a1 μ4))
set_option maxRecDepth 20000 in
theorem w_X6_untilClip_L61 {p : Program} {l : Launch} {e : Env} {s : State} {m : MethodId} {args : Array Value} {below : List Frame} {meth : Method} {c : Code} {D : va_G} {Y : Nat → ClassId} {ad : Nat → Nat} (C0 : CX D Y ad (PA ad) rm_X6_untilClip 0 0 p s args m c cX6_untilClip 4 RX6 wsX6_untilClip) (hlk : meth.locks = false) (hret : meth.sig.returnType = (some .int)) (a1 : Int32) (as0 : Int32) (μ : Mem) (K : Int32 → Mem → Prop)  (hX : x_X6_untilClip_L61 K a1 as0 μ) : J p l e rm_X6_untilClip s m args below meth c D Y ad (PA ad) 0 0 4 (MQ below (va_Qi K (BB D Y ad) (PA ad)) args s 0 0 (PA ad)) 61 [(0, .ref (ad 168)), (1, .int a1)] [.int as0] μ := by
  refine j_istore_n C0 [(3, .int as0), (0, .ref (ad 168)), (1, .int a1)] dX6_untilClip_61 rfl (by decide) rfl rfl ?_
  refine j_aload_n C0 1 dX6_untilClip_62 rfl rfl rfl ?_
  refine j_callVv C0 0 [] (c_X6_putBack   hX) dX6_untilClip_63 gX6_untilClip_X6_putBack rfl (by decide +kernel) ⟨⟨Nat.le_of_ble_eq_true rfl, Nat.le_of_ble_eq_true rfl⟩, rfl, rfl⟩ (kd_lt (rfl : kd 168 = 6) (by decide)) (ce6 (rfl : kd 168 = 6)) rfl rfl rfl (Nat.le_of_ble_eq_true rfl) rfl (fun μ4 hX => ?_)
  refine j_iload_n C0 0 dX6_untilClip_66 rfl rfl rfl ?_
  refine j_if_eq C0 (tgt := 74) dX6_untilClip_67 (by decide) rfl (fun c5 => ?_) (fun c5 => ?_)
  · have hX := hX.1 c5
    refine j_bipush C0 (-6) dX6_untilClip_74 (by decide) rfl ?_
    exact j_iret C0 hlk hret dX6_untilClip_76 hX
  · have hX := hX.2 c5
    refine j_iload_n C0 2 dX6_untilClip_70 rfl rfl rfl ?_
    refine j_goto C0 (tgt := 76) dX6_untilClip_71 (by decide) ?_
    exact j_iret C0 hlk hret dX6_untilClip_76 hX
def x_X6_untilClip_L41 (K : Int32 → Mem → Prop) (a1 : Int32) (μ : Mem) : Prop :=
  ((μ 169 2) ≤ (μ 171 2) → x_X6_untilClip_L61 K a1 0 μ) ∧ (¬ ((μ 169 2) ≤ (μ 171 2)) → x_X6_untilClip_L61 K a1 1 μ)
set_option maxRecDepth 20000 in
theorem w_X6_untilClip_L41 {p : Program} {l : Launch} {e : Env} {s : State} {m : MethodId} {args : Array Value} {below : List Frame} {meth : Method} {c : Code} {D : va_G} {Y : Nat → ClassId} {ad : Nat → Nat} (C0 : CX D Y ad (PA ad) rm_X6_untilClip 0 0 p s args m c cX6_untilClip 4 RX6 wsX6_untilClip) (hlk : meth.locks = false) (hret : meth.sig.returnType = (some .int)) (a1 : Int32) (μ : Mem) (K : Int32 → Mem → Prop)  (hX : x_X6_untilClip_L41 K a1 μ) : J p l e rm_X6_untilClip s m args below meth c D Y ad (PA ad) 0 0 4 (MQ below (va_Qi K (BB D Y ad) (PA ad)) args s 0 0 (PA ad)) 41 [(0, .ref (ad 168)), (1, .int a1)] [] μ := by
  refine j_aload_n C0 0 dX6_untilClip_41 rfl rfl rfl ?_
  refine j_get6 C0 (v := .ref (ad 169)) 0 (rfl : kd 168 = 6) fw_X6_untilClip_6 hw_X6_untilClip_0 (fun _ h9 => h9) (by decide) rfl dX6_untilClip_42 rfl ?_
  refine j_iconst C0 2 dX6_untilClip_45 (by decide) rfl ?_
  refine j_iald C0 (n := 166) (kd_lt (rfl : kd 169 = 18) (by decide)) (ce18 (rfl : kd 169 = 18)) (vp_lit (i := 2) (by decide)) dX6_untilClip_46 rfl ?_
  refine j_val (μ 169 2) rfl ?_
  refine j_aload_n C0 0 dX6_untilClip_47 rfl rfl rfl ?_
  refine j_get6 C0 (v := .ref (ad 171)) 2 (rfl : kd 168 = 6) fw_X6_untilClip_6 hw_X6_untilClip_1 (fun _ h9 => h9) (by decide) rfl dX6_untilClip_48 rfl ?_
  refine j_iconst C0 2 dX6_untilClip_51 (by decide) rfl ?_
  refine j_iald C0 (n := 166) (kd_lt (rfl : kd 171 = 18) (by decide)) (ce18 (rfl : kd 171 = 18)) (vp_lit (i := 2) (by decide)) dX6_untilClip_52 rfl ?_
  refine j_val (μ 171 2) rfl ?_
  refine j_icmp_le C0 (tgt := 60) dX6_untilClip_53 (by decide) rfl (fun c3 => ?_) (fun c3 => ?_)
  · have hX := hX.1 c3
    refine j_iconst C0 0 dX6_untilClip_60 (by decide) rfl ?_
    exact j_sub (l' := [(0, .ref (ad 168)), (1, .int a1)]) [0, 1] rfl (w_X6_untilClip_L61 C0 hlk hret a1 0 μ K  hX)
  · have hX := hX.2 c3
    refine j_iconst C0 1 dX6_untilClip_56 (by decide) rfl ?_
    refine j_goto C0 (tgt := 61) dX6_untilClip_57 (by decide) ?_
    exact j_sub (l' := [(0, .ref (ad 168)), (1, .int a1)]) [0, 1] rfl (w_X6_untilClip_L61 C0 hlk hret a1 1 μ K  hX)
def xb_X6_untilClip_L8 (K : Int32 → Mem → Prop) (B : Int32 → Mem → Prop) (a1 : Int32) (μ : Mem) : Prop :=
  (2000 ≤ a1 → x_X6_untilClip_L41 K a1 μ) ∧ (¬ (2000 ≤ a1) → ((μ 169 2) = (μ 171 2) → x_X6_makes  μ (fun r8 μ7 => ∀ v9 : Int32, v9 = a1 + 1 → B v9 μ7)) ∧ (¬ ((μ 169 2) = (μ 171 2)) → x_X6_untilClip_L41 K a1 μ))
def x_X6_untilClip_L8 (K : Int32 → Mem → Prop) : Nat → Int32 → Mem → Prop
  | 0 => fun _ _ => False
  | n + 1 => fun a1 μ => xb_X6_untilClip_L8 K (x_X6_untilClip_L8 K n) a1 μ
set_option maxRecDepth 20000 in
theorem wb_X6_untilClip_L8 {p : Program} {l : Launch} {e : Env} {s : State} {m : MethodId} {args : Array Value} {below : List Frame} {meth : Method} {c : Code} {D : va_G} {Y : Nat → ClassId} {ad : Nat → Nat} (C0 : CX D Y ad (PA ad) rm_X6_untilClip 0 0 p s args m c cX6_untilClip 4 RX6 wsX6_untilClip) (hlk : meth.locks = false) (hret : meth.sig.returnType = (some .int)) (a1 : Int32) (μ : Mem) (K : Int32 → Mem → Prop) (B : Int32 → Mem → Prop) (hB : ∀ (a1 : Int32) (μ : Mem), B a1 μ → J p l e rm_X6_untilClip s m args below meth c D Y ad (PA ad) 0 0 4 (MQ below (va_Qi K (BB D Y ad) (PA ad)) args s 0 0 (PA ad)) 8 [(0, .ref (ad 168)), (1, .int a1)] [] μ)  (hX : xb_X6_untilClip_L8 K B a1 μ) : J p l e rm_X6_untilClip s m args below meth c D Y ad (PA ad) 0 0 4 (MQ below (va_Qi K (BB D Y ad) (PA ad)) args s 0 0 (PA ad)) 8 [(0, .ref (ad 168)), (1, .int a1)] [] μ := by
  refine j_iload_n C0 1 dX6_untilClip_8 rfl rfl rfl ?_
  refine j_sipush C0 2000 dX6_untilClip_9 (by decide) rfl ?_
  refine j_icmp_ge C0 (tgt := 41) dX6_untilClip_12 (by decide) rfl (fun c2 => ?_) (fun c2 => ?_)
  · have hX := hX.1 c2
    exact j_sub (l' := [(0, .ref (ad 168)), (1, .int a1)]) [0, 1] rfl (w_X6_untilClip_L41 C0 hlk hret a1 μ K  hX)
  · have hX := hX.2 c2
    refine j_aload_n C0 0 dX6_untilClip_15 rfl rfl rfl ?_
    refine j_get6 C0 (v := .ref (ad 169)) 0 (rfl : kd 168 = 6) fw_X6_untilClip_6 hw_X6_untilClip_0 (fun _ h9 => h9) (by decide) rfl dX6_untilClip_16 rfl ?_
    refine j_iconst C0 2 dX6_untilClip_19 (by decide) rfl ?_
    refine j_iald C0 (n := 166) (kd_lt (rfl : kd 169 = 18) (by decide)) (ce18 (rfl : kd 169 = 18)) (vp_lit (i := 2) (by decide)) dX6_untilClip_20 rfl ?_
    refine j_val (μ 169 2) rfl ?_
    refine j_aload_n C0 0 dX6_untilClip_21 rfl rfl rfl ?_
    refine j_get6 C0 (v := .ref (ad 171)) 2 (rfl : kd 168 = 6) fw_X6_untilClip_6 hw_X6_untilClip_1 (fun _ h9 => h9) (by decide) rfl dX6_untilClip_22 rfl ?_
    refine j_iconst C0 2 dX6_untilClip_25 (by decide) rfl ?_
    refine j_iald C0 (n := 166) (kd_lt (rfl : kd 171 = 18) (by decide)) (ce18 (rfl : kd 171 = 18)) (vp_lit (i := 2) (by decide)) dX6_untilClip_26 rfl ?_
    refine j_val (μ 171 2) rfl ?_
    refine j_icmp_ne C0 (tgt := 41) dX6_untilClip_27 (by decide) rfl (fun c6 => ?_) (fun c6 => ?_)
    · have hX := hX.1 c6
      refine j_aload_n C0 0 dX6_untilClip_30 rfl rfl rfl ?_
      refine j_callVi C0 0 [] (c_X6_makes   hX) dX6_untilClip_31 gX6_untilClip_X6_makes rfl (by decide +kernel) ⟨⟨Nat.le_of_ble_eq_true rfl, Nat.le_of_ble_eq_true rfl⟩, rfl, rfl⟩ (kd_lt (rfl : kd 168 = 6) (by decide)) (ce6 (rfl : kd 168 = 6)) rfl rfl rfl (Nat.le_of_ble_eq_true rfl) rfl (fun r8 μ7 hX => ?_)
      refine j_istore_n C0 [(2, .int r8), (0, .ref (ad 168)), (1, .int a1)] dX6_untilClip_34 rfl (by decide) rfl rfl ?_
      obtain ⟨v9, e_v9⟩ : ∃ z : Int32, z = a1 + 1 := ⟨_, rfl⟩
      have hX := hX v9 e_v9
      refine j_iinc C0 2 v9 [(1, .int v9), (2, .int r8), (0, .ref (ad 168))] dX6_untilClip_35 rfl (by rw [e_v9]; rfl) (by decide) rfl rfl ?_
      refine j_goto C0 (tgt := 8) dX6_untilClip_38 (by decide) ?_
      exact j_sub (l' := [(0, .ref (ad 168)), (1, .int v9)]) [2, 0] rfl (hB v9 μ7  hX)
    · have hX := hX.2 c6
      exact j_sub (l' := [(0, .ref (ad 168)), (1, .int a1)]) [0, 1] rfl (w_X6_untilClip_L41 C0 hlk hret a1 μ K  hX)
theorem w_X6_untilClip_L8 {p : Program} {l : Launch} {e : Env} {s : State} {m : MethodId} {args : Array Value} {below : List Frame} {meth : Method} {c : Code} {D : va_G} {Y : Nat → ClassId} {ad : Nat → Nat} (C0 : CX D Y ad (PA ad) rm_X6_untilClip 0 0 p s args m c cX6_untilClip 4 RX6 wsX6_untilClip) (hlk : meth.locks = false) (hret : meth.sig.returnType = (some .int)) (K : Int32 → Mem → Prop) : ∀ (n : Nat) (a1 : Int32) (μ : Mem)  (hX : x_X6_untilClip_L8 K n a1 μ), J p l e rm_X6_untilClip s m args below meth c D Y ad (PA ad) 0 0 4 (MQ below (va_Qi K (BB D Y ad) (PA ad)) args s 0 0 (PA ad)) 8 [(0, .ref (ad 168)), (1, .int a1)] [] μ
  | 0, a1, μ, hX => hX.elim
  | n + 1, a1, μ, hX => wb_X6_untilClip_L8 C0 hlk hret a1 μ K (x_X6_untilClip_L8 K n) (fun a1 μ  hx => w_X6_untilClip_L8 C0 hlk hret K n a1 μ  hx)  hX
def x_X6_untilClip  (μ : Mem) (K : Int32 → Mem → Prop) : Prop :=
  x_X6_keepTrial  μ (fun μ1 => ∃ n : Nat, x_X6_untilClip_L8 K n 0 μ1)
set_option maxRecDepth 20000 in
theorem w_X6_untilClip {p : Program} {l : Launch} {e : Env} {s : State} {m : MethodId} {args : Array Value} {below : List Frame} {meth : Method} {c : Code} {D : va_G} {Y : Nat → ClassId} {ad : Nat → Nat} (C0 : CX D Y ad (PA ad) rm_X6_untilClip 0 0 p s args m c cX6_untilClip 4 RX6 wsX6_untilClip) (hlk : meth.locks = false) (hret : meth.sig.returnType = (some .int))  (μ : Mem) (K : Int32 → Mem → Prop)  (hX : x_X6_untilClip  μ K) : J p l e rm_X6_untilClip s m args below meth c D Y ad (PA ad) 0 0 4 (MQ below (va_Qi K (BB D Y ad) (PA ad)) args s 0 0 (PA ad)) 0 [(0, .ref (ad 168))] [] μ := by
  refine j_aload_n C0 0 dX6_untilClip_0 rfl rfl rfl ?_
  refine j_callVv C0 0 [] (c_X6_keepTrial   hX) dX6_untilClip_1 gX6_untilClip_X6_keepTrial rfl (by decide +kernel) ⟨⟨Nat.le_of_ble_eq_true rfl, Nat.le_of_ble_eq_true rfl⟩, rfl, rfl⟩ (kd_lt (rfl : kd 168 = 6) (by decide)) (ce6 (rfl : kd 168 = 6)) rfl rfl rfl (Nat.le_of_ble_eq_true rfl) rfl (fun μ1 hX => ?_)
  refine j_iconst C0 0 dX6_untilClip_4 (by decide) rfl ?_
  refine j_istore_n C0 [(1, .int 0), (0, .ref (ad 168))] dX6_untilClip_5 rfl (by decide) rfl rfl ?_
  refine j_iconst C0 0 dX6_untilClip_6 (by decide) rfl ?_
  refine j_istore_n C0 [(2, .int 0), (1, .int 0), (0, .ref (ad 168))] dX6_untilClip_7 rfl (by decide) rfl rfl ?_
  obtain ⟨n, hX⟩ := hX
  exact j_sub (l' := [(0, .ref (ad 168)), (1, .int 0)]) [2, 1] rfl (w_X6_untilClip_L8 C0 hlk hret K n 0 μ1  hX)
theorem c_X6_untilClip {l : Launch} {D : va_G} {Y : Nat → ClassId} {ad : Nat → Nat}  {μ : Mem} {K : Int32 → Mem → Prop}  (hX : x_X6_untilClip  μ K) : ConI l yX6_untilClip wsX6_untilClip rm_X6_untilClip [.ref (ad 168)] D Y ad μ K := conI_of (cc := cX6_untilClip) (maxL := 4) (ret := (some .int)) (own := RX6) _ (by decide +kernel) rfl rfl (Nat.le_of_ble_eq_true rfl) (fun p e s m args below meth c C0 hlk hret => j_sub (l' := [(0, .ref (ad 168))]) [0] rfl (w_X6_untilClip C0 hlk hret  μ K  hX))
/-! PhaseTonesModel.bestStep(II)I -/
abbrev rm_X6_bestStep : Room := rmf 1 22
theorem hw_X6_bestStep_0 : Cond.constant RX6 51 (65536) ∈ wsX6_bestStep := by decide +kernel
theorem hw_X6_bestStep_1 : Cond.constant RX6 154 (1000000) ∈ wsX6_bestStep := by decide +kernel
theorem hw_X6_bestStep_2 : Cond.constant RX6 135 (32768) ∈ wsX6_bestStep := by decide +kernel
def x_X6_bestStep_L90 (K : Int32 → Mem → Prop) (B : Int32 → Int32 → Int32 → Int32 → Int32 → Mem → Prop) (a1 : Int32) (a2 : Int32) (a3 : Int32) (a5 : Int32) (as0 : Int32) (μ : Mem) : Prop :=
  ∀ v15 : Int32, v15 = (a5 * 2) → B a1 a2 a3 as0 v15 μ
set_option maxRecDepth 20000 in
theorem w_X6_bestStep_L90 {p : Program} {l : Launch} {e : Env} {s : State} {m : MethodId} {args : Array Value} {below : List Frame} {meth : Method} {c : Code} {D : va_G} {Y : Nat → ClassId} {ad : Nat → Nat} (C0 : CX D Y ad (PA ad) rm_X6_bestStep 0 0 p s args m c cX6_bestStep 7 RX6 wsX6_bestStep) (hlk : meth.locks = false) (hret : meth.sig.returnType = (some .int)) (a1 : Int32) (a2 : Int32) (a3 : Int32) (a5 : Int32) (as0 : Int32) (μ : Mem) (K : Int32 → Mem → Prop) (B : Int32 → Int32 → Int32 → Int32 → Int32 → Mem → Prop) (hB : ∀ (a1 : Int32) (a2 : Int32) (a3 : Int32) (a4 : Int32) (a5 : Int32) (μ : Mem), B a1 a2 a3 a4 a5 μ → J p l e rm_X6_bestStep s m args below meth c D Y ad (PA ad) 0 0 7 (MQ below (va_Qi K (BB D Y ad) (PA ad)) args s 0 0 (PA ad)) 31 [(1, .int a1), (2, .int a2), (3, .int a3), (4, .int a4), (5, .int a5)] [] μ)  (hX : x_X6_bestStep_L90 K B a1 a2 a3 a5 as0 μ) : J p l e rm_X6_bestStep s m args below meth c D Y ad (PA ad) 0 0 7 (MQ below (va_Qi K (BB D Y ad) (PA ad)) args s 0 0 (PA ad)) 90 [(1, .int a1), (2, .int a2), (3, .int a3), (5, .int a5)] [.int as0] μ := by
  refine j_istore C0 [(4, .int as0), (1, .int a1), (2, .int a2), (3, .int a3), (5, .int a5)] dX6_bestStep_90 (by decide) rfl rfl ?_
  refine j_iload C0 4 dX6_bestStep_92 rfl rfl ?_
  refine j_iconst C0 2 dX6_bestStep_94 (by decide) rfl ?_
  refine j_imul C0 dX6_bestStep_95 rfl ?_
  refine j_topi (fun v15 e_v15 => ?_)
  have hX := hX v15 e_v15
  refine j_istore C0 [(5, .int v15), (4, .int as0), (1, .int a1), (2, .int a2), (3, .int a3)] dX6_bestStep_96 (by decide) rfl rfl ?_
  refine j_goto C0 (tgt := 31) dX6_bestStep_98 (by decide) ?_
  exact j_sub (l' := [(1, .int a1), (2, .int a2), (3, .int a3), (4, .int as0), (5, .int v15)]) [2, 3, 4, 1, 0] rfl (hB a1 a2 a3 as0 v15 μ  hX)
def x_X6_bestStep_L75 (K : Int32 → Mem → Prop) (B : Int32 → Int32 → Int32 → Int32 → Int32 → Mem → Prop) (a1 : Int32) (a2 : Int32) (a4 : Int32) (a5 : Int32) (a6 : Int32) (as0 : Int32) (μ : Mem) : Prop :=
  (a4 ≤ a6 → x_X6_bestStep_L90 K B a1 a2 as0 a5 a4 μ) ∧ (¬ (a4 ≤ a6) → x_X6_bestStep_L90 K B a1 a2 as0 a5 a6 μ)
set_option maxRecDepth 20000 in
theorem w_X6_bestStep_L75 {p : Program} {l : Launch} {e : Env} {s : State} {m : MethodId} {args : Array Value} {below : List Frame} {meth : Method} {c : Code} {D : va_G} {Y : Nat → ClassId} {ad : Nat → Nat} (C0 : CX D Y ad (PA ad) rm_X6_bestStep 0 0 p s args m c cX6_bestStep 7 RX6 wsX6_bestStep) (hlk : meth.locks = false) (hret : meth.sig.returnType = (some .int)) (a1 : Int32) (a2 : Int32) (a4 : Int32) (a5 : Int32) (a6 : Int32) (as0 : Int32) (μ : Mem) (K : Int32 → Mem → Prop) (B : Int32 → Int32 → Int32 → Int32 → Int32 → Mem → Prop) (hB : ∀ (a1 : Int32) (a2 : Int32) (a3 : Int32) (a4 : Int32) (a5 : Int32) (μ : Mem), B a1 a2 a3 a4 a5 μ → J p l e rm_X6_bestStep s m args below meth c D Y ad (PA ad) 0 0 7 (MQ below (va_Qi K (BB D Y ad) (PA ad)) args s 0 0 (PA ad)) 31 [(1, .int a1), (2, .int a2), (3, .int a3), (4, .int a4), (5, .int a5)] [] μ)  (hX : x_X6_bestStep_L75 K B a1 a2 a4 a5 a6 as0 μ) : J p l e rm_X6_bestStep s m args below meth c D Y ad (PA ad) 0 0 7 (MQ below (va_Qi K (BB D Y ad) (PA ad)) args s 0 0 (PA ad)) 75 [(1, .int a1), (2, .int a2), (4, .int a4), (5, .int a5), (6, .int a6)] [.int as0] μ := by
  refine j_istore_n C0 [(3, .int as0), (1, .int a1), (2, .int a2), (4, .int a4), (5, .int a5), (6, .int a6)] dX6_bestStep_75 rfl (by decide) rfl rfl ?_
  refine j_iload C0 5 dX6_bestStep_76 rfl rfl ?_
  refine j_iload C0 3 dX6_bestStep_78 rfl rfl ?_
  refine j_icmp_ge C0 (tgt := 88) dX6_bestStep_80 (by decide) rfl (fun c14 => ?_) (fun c14 => ?_)
  · have hX := hX.1 c14
    refine j_iload C0 3 dX6_bestStep_88 rfl rfl ?_
    exact j_sub (l' := [(1, .int a1), (2, .int a2), (3, .int as0), (5, .int a5)]) [1, 2, 0, 4] rfl (w_X6_bestStep_L90 C0 hlk hret a1 a2 as0 a5 a4 μ K B hB  hX)
  · have hX := hX.2 c14
    refine j_iload C0 5 dX6_bestStep_83 rfl rfl ?_
    refine j_goto C0 (tgt := 90) dX6_bestStep_85 (by decide) ?_
    exact j_sub (l' := [(1, .int a1), (2, .int a2), (3, .int as0), (5, .int a5)]) [1, 2, 0, 4] rfl (w_X6_bestStep_L90 C0 hlk hret a1 a2 as0 a5 a6 μ K B hB  hX)
def x_X6_bestStep_L60 (K : Int32 → Mem → Prop) (B : Int32 → Int32 → Int32 → Int32 → Int32 → Mem → Prop) (a1 : Int32) (a2 : Int32) (a3 : Int32) (a4 : Int32) (a5 : Int32) (as0 : Int32) (μ : Mem) : Prop :=
  (a4 ≤ as0 → x_X6_bestStep_L75 K B a1 a2 a4 a5 as0 a3 μ) ∧ (¬ (a4 ≤ as0) → x_X6_bestStep_L75 K B a1 a2 a4 a5 as0 a5 μ)
set_option maxRecDepth 20000 in
theorem w_X6_bestStep_L60 {p : Program} {l : Launch} {e : Env} {s : State} {m : MethodId} {args : Array Value} {below : List Frame} {meth : Method} {c : Code} {D : va_G} {Y : Nat → ClassId} {ad : Nat → Nat} (C0 : CX D Y ad (PA ad) rm_X6_bestStep 0 0 p s args m c cX6_bestStep 7 RX6 wsX6_bestStep) (hlk : meth.locks = false) (hret : meth.sig.returnType = (some .int)) (a1 : Int32) (a2 : Int32) (a3 : Int32) (a4 : Int32) (a5 : Int32) (as0 : Int32) (μ : Mem) (K : Int32 → Mem → Prop) (B : Int32 → Int32 → Int32 → Int32 → Int32 → Mem → Prop) (hB : ∀ (a1 : Int32) (a2 : Int32) (a3 : Int32) (a4 : Int32) (a5 : Int32) (μ : Mem), B a1 a2 a3 a4 a5 μ → J p l e rm_X6_bestStep s m args below meth c D Y ad (PA ad) 0 0 7 (MQ below (va_Qi K (BB D Y ad) (PA ad)) args s 0 0 (PA ad)) 31 [(1, .int a1), (2, .int a2), (3, .int a3), (4, .int a4), (5, .int a5)] [] μ)  (hX : x_X6_bestStep_L60 K B a1 a2 a3 a4 a5 as0 μ) : J p l e rm_X6_bestStep s m args below meth c D Y ad (PA ad) 0 0 7 (MQ below (va_Qi K (BB D Y ad) (PA ad)) args s 0 0 (PA ad)) 60 [(1, .int a1), (2, .int a2), (3, .int a3), (4, .int a4), (5, .int a5)] [.int as0] μ := by
  refine j_istore C0 [(6, .int as0), (1, .int a1), (2, .int a2), (3, .int a3), (4, .int a4), (5, .int a5)] dX6_bestStep_60 (by decide) rfl rfl ?_
  refine j_iload C0 0 dX6_bestStep_62 rfl rfl ?_
  refine j_iload C0 4 dX6_bestStep_64 rfl rfl ?_
  refine j_icmp_ge C0 (tgt := 74) dX6_bestStep_66 (by decide) rfl (fun c13 => ?_) (fun c13 => ?_)
  · have hX := hX.1 c13
    refine j_iload_n C0 3 dX6_bestStep_74 rfl rfl rfl ?_
    exact j_sub (l' := [(1, .int a1), (2, .int a2), (4, .int a4), (5, .int a5), (6, .int as0)]) [1, 2, 4, 5, 0] rfl (w_X6_bestStep_L75 C0 hlk hret a1 a2 a4 a5 as0 a3 μ K B hB  hX)
  · have hX := hX.2 c13
    refine j_iload C0 5 dX6_bestStep_69 rfl rfl ?_
    refine j_goto C0 (tgt := 75) dX6_bestStep_71 (by decide) ?_
    exact j_sub (l' := [(1, .int a1), (2, .int a2), (4, .int a4), (5, .int a5), (6, .int as0)]) [1, 2, 4, 5, 0] rfl (w_X6_bestStep_L75 C0 hlk hret a1 a2 a4 a5 as0 a5 μ K B hB  hX)
def xb_X6_bestStep_L31 (K : Int32 → Mem → Prop) (B : Int32 → Int32 → Int32 → Int32 → Int32 → Mem → Prop) (a1 : Int32) (a2 : Int32) (a3 : Int32) (a4 : Int32) (a5 : Int32) (μ : Mem) : Prop :=
  (32768 < a5 → (a2 = 0 → K a3 μ) ∧ (¬ (a2 = 0) → ¬ a3 = 0 ∧ K ((65536 : Int32) / a3) μ)) ∧ (¬ (32768 < a5) → ¬ a5 = 0 ∧ ∀ v11 : Int32, v11 = (((65536 : Int32) / a5) - a1) → (0 ≤ v11 → x_X6_bestStep_L60 K B a1 a2 a3 a4 a5 v11 μ) ∧ (¬ (0 ≤ v11) → x_X6_bestStep_L60 K B a1 a2 a3 a4 a5 (-v11) μ))
def x_X6_bestStep_L31 (K : Int32 → Mem → Prop) : Nat → Int32 → Int32 → Int32 → Int32 → Int32 → Mem → Prop
  | 0 => fun _ _ _ _ _ _ => False
  | n + 1 => fun a1 a2 a3 a4 a5 μ => xb_X6_bestStep_L31 K (x_X6_bestStep_L31 K n) a1 a2 a3 a4 a5 μ
set_option maxRecDepth 20000 in
theorem wb_X6_bestStep_L31 {p : Program} {l : Launch} {e : Env} {s : State} {m : MethodId} {args : Array Value} {below : List Frame} {meth : Method} {c : Code} {D : va_G} {Y : Nat → ClassId} {ad : Nat → Nat} (C0 : CX D Y ad (PA ad) rm_X6_bestStep 0 0 p s args m c cX6_bestStep 7 RX6 wsX6_bestStep) (hlk : meth.locks = false) (hret : meth.sig.returnType = (some .int)) (a1 : Int32) (a2 : Int32) (a3 : Int32) (a4 : Int32) (a5 : Int32) (μ : Mem) (K : Int32 → Mem → Prop) (B : Int32 → Int32 → Int32 → Int32 → Int32 → Mem → Prop) (hB : ∀ (a1 : Int32) (a2 : Int32) (a3 : Int32) (a4 : Int32) (a5 : Int32) (μ : Mem), B a1 a2 a3 a4 a5 μ → J p l e rm_X6_bestStep s m args below meth c D Y ad (PA ad) 0 0 7 (MQ below (va_Qi K (BB D Y ad) (PA ad)) args s 0 0 (PA ad)) 31 [(1, .int a1), (2, .int a2), (3, .int a3), (4, .int a4), (5, .int a5)] [] μ)  (hX : xb_X6_bestStep_L31 K B a1 a2 a3 a4 a5 μ) : J p l e rm_X6_bestStep s m args below meth c D Y ad (PA ad) 0 0 7 (MQ below (va_Qi K (BB D Y ad) (PA ad)) args s 0 0 (PA ad)) 31 [(1, .int a1), (2, .int a2), (3, .int a3), (4, .int a4), (5, .int a5)] [] μ := by
  refine j_iload C0 4 dX6_bestStep_31 rfl rfl ?_
  refine j_ldc C0 32768 dX6_bestStep_33 hw_X6_bestStep_2 rfl ?_
  refine j_icmp_gt C0 (tgt := 101) dX6_bestStep_35 (by decide) rfl (fun c7 => ?_) (fun c7 => ?_)
  · have hX := hX.1 c7
    refine j_iload_n C0 1 dX6_bestStep_101 rfl rfl rfl ?_
    refine j_if_ne C0 (tgt := 109) dX6_bestStep_102 (by decide) rfl (fun c8 => ?_) (fun c8 => ?_)
    · have hX := hX.1 c8
      refine j_iload_n C0 2 dX6_bestStep_105 rfl rfl rfl ?_
      refine j_goto C0 (tgt := 113) dX6_bestStep_106 (by decide) ?_
      exact j_iret C0 hlk hret dX6_bestStep_113 hX
    · have hX := hX.2 c8
      refine j_ldc C0 65536 dX6_bestStep_109 hw_X6_bestStep_0 rfl ?_
      refine j_iload_n C0 2 dX6_bestStep_111 rfl rfl rfl ?_
      obtain ⟨h9, hX⟩ := hX
      refine j_idiv C0 dX6_bestStep_112 h9 rfl ?_
      exact j_iret C0 hlk hret dX6_bestStep_113 hX
  · have hX := hX.2 c7
    refine j_ldc C0 65536 dX6_bestStep_38 hw_X6_bestStep_0 rfl ?_
    refine j_iload C0 4 dX6_bestStep_40 rfl rfl ?_
    obtain ⟨h10, hX⟩ := hX
    refine j_idiv C0 dX6_bestStep_42 h10 rfl ?_
    refine j_iload_n C0 0 dX6_bestStep_43 rfl rfl rfl ?_
    refine j_isub C0 dX6_bestStep_44 rfl ?_
    refine j_topi (fun v11 e_v11 => ?_)
    have hX := hX v11 e_v11
    refine j_istore C0 [(6, .int v11), (1, .int a1), (2, .int a2), (3, .int a3), (4, .int a4), (5, .int a5)] dX6_bestStep_45 (by decide) rfl rfl ?_
    refine j_iload C0 0 dX6_bestStep_47 rfl rfl ?_
    refine j_if_ge C0 (tgt := 58) dX6_bestStep_49 (by decide) rfl (fun c12 => ?_) (fun c12 => ?_)
    · have hX := hX.1 c12
      refine j_iload C0 0 dX6_bestStep_58 rfl rfl ?_
      exact j_sub (l' := [(1, .int a1), (2, .int a2), (3, .int a3), (4, .int a4), (5, .int a5)]) [1, 2, 3, 4, 5] rfl (w_X6_bestStep_L60 C0 hlk hret a1 a2 a3 a4 a5 v11 μ K B hB  hX)
    · have hX := hX.2 c12
      refine j_iload C0 0 dX6_bestStep_52 rfl rfl ?_
      refine j_ineg C0 dX6_bestStep_54 rfl ?_
      refine j_goto C0 (tgt := 60) dX6_bestStep_55 (by decide) ?_
      exact j_sub (l' := [(1, .int a1), (2, .int a2), (3, .int a3), (4, .int a4), (5, .int a5)]) [1, 2, 3, 4, 5] rfl (w_X6_bestStep_L60 C0 hlk hret a1 a2 a3 a4 a5 (-v11) μ K B hB  hX)
theorem w_X6_bestStep_L31 {p : Program} {l : Launch} {e : Env} {s : State} {m : MethodId} {args : Array Value} {below : List Frame} {meth : Method} {c : Code} {D : va_G} {Y : Nat → ClassId} {ad : Nat → Nat} (C0 : CX D Y ad (PA ad) rm_X6_bestStep 0 0 p s args m c cX6_bestStep 7 RX6 wsX6_bestStep) (hlk : meth.locks = false) (hret : meth.sig.returnType = (some .int)) (K : Int32 → Mem → Prop) : ∀ (n : Nat) (a1 : Int32) (a2 : Int32) (a3 : Int32) (a4 : Int32) (a5 : Int32) (μ : Mem)  (hX : x_X6_bestStep_L31 K n a1 a2 a3 a4 a5 μ), J p l e rm_X6_bestStep s m args below meth c D Y ad (PA ad) 0 0 7 (MQ below (va_Qi K (BB D Y ad) (PA ad)) args s 0 0 (PA ad)) 31 [(1, .int a1), (2, .int a2), (3, .int a3), (4, .int a4), (5, .int a5)] [] μ
  | 0, a1, a2, a3, a4, a5, μ, hX => hX.elim
  | n + 1, a1, a2, a3, a4, a5, μ, hX => wb_X6_bestStep_L31 C0 hlk hret a1 a2 a3 a4 a5 μ K (x_X6_bestStep_L31 K n) (fun a1 a2 a3 a4 a5 μ  hx => w_X6_bestStep_L31 C0 hlk hret K n a1 a2 a3 a4 a5 μ  hx)  hX
def x_X6_bestStep (a1 : Int32) (a2 : Int32) (μ : Mem) (K : Int32 → Mem → Prop) : Prop :=
  x_X6_in a1 2 65536 μ (fun r2 μ1 => (r2 = 0 → K (-2) μ1) ∧ (¬ (r2 = 0) → x_X6_in a2 0 1 μ1 (fun r5 μ4 => (r5 = 0 → K (-2) μ4) ∧ (¬ (r5 = 0) → ∃ n : Nat, x_X6_bestStep_L31 K n a1 a2 1 1000000 1 μ4))))
set_option maxRecDepth 20000 in
theorem w_X6_bestStep {p : Program} {l : Launch} {e : Env} {s : State} {m : MethodId} {args : Array Value} {below : List Frame} {meth : Method} {c : Code} {D : va_G} {Y : Nat → ClassId} {ad : Nat → Nat} (C0 : CX D Y ad (PA ad) rm_X6_bestStep 0 0 p s args m c cX6_bestStep 7 RX6 wsX6_bestStep) (hlk : meth.locks = false) (hret : meth.sig.returnType = (some .int)) (a1 : Int32) (a2 : Int32) (μ : Mem) (K : Int32 → Mem → Prop)  (hX : x_X6_bestStep a1 a2 μ K) : J p l e rm_X6_bestStep s m args below meth c D Y ad (PA ad) 0 0 7 (MQ below (va_Qi K (BB D Y ad) (PA ad)) args s 0 0 (PA ad)) 0 [(0, .ref (ad 168)), (1, .int a1), (2, .int a2)] [] μ := by
  refine j_iload_n C0 1 dX6_bestStep_0 rfl rfl rfl ?_
  refine j_iconst C0 2 dX6_bestStep_1 (by decide) rfl ?_
  refine j_ldc C0 65536 dX6_bestStep_2 hw_X6_bestStep_0 rfl ?_
  refine j_callSi C0 3 [.int a1, .int 2, .int 65536] (c_X6_in a1 2 65536  hX) dX6_bestStep_4 gX6_bestStep_X6_in rfl (by decide +kernel) ⟨⟨Nat.le_of_ble_eq_true rfl, Nat.le_of_ble_eq_true rfl⟩, rfl, rfl⟩ rfl rfl (Nat.le_of_ble_eq_true rfl) rfl (fun r2 μ1 hX => ?_)
  refine j_if_eq C0 (tgt := 19) dX6_bestStep_7 (by decide) rfl (fun c3 => ?_) (fun c3 => ?_)
  · have hX := hX.1 c3
    refine j_bipush C0 (-2) dX6_bestStep_19 (by decide) rfl ?_
    exact j_iret C0 hlk hret dX6_bestStep_21 hX
  · have hX := hX.2 c3
    refine j_iload_n C0 2 dX6_bestStep_10 rfl rfl rfl ?_
    refine j_iconst C0 0 dX6_bestStep_11 (by decide) rfl ?_
    refine j_iconst C0 1 dX6_bestStep_12 (by decide) rfl ?_
    refine j_callSi C0 3 [.int a2, .int 0, .int 1] (c_X6_in a2 0 1  hX) dX6_bestStep_13 gX6_bestStep_X6_in rfl (by decide +kernel) ⟨⟨Nat.le_of_ble_eq_true rfl, Nat.le_of_ble_eq_true rfl⟩, rfl, rfl⟩ rfl rfl (Nat.le_of_ble_eq_true rfl) rfl (fun r5 μ4 hX => ?_)
    refine j_if_ne C0 (tgt := 22) dX6_bestStep_16 (by decide) rfl (fun c6 => ?_) (fun c6 => ?_)
    · have hX := hX.1 c6
      refine j_bipush C0 (-2) dX6_bestStep_19 (by decide) rfl ?_
      exact j_iret C0 hlk hret dX6_bestStep_21 hX
    · have hX := hX.2 c6
      refine j_iconst C0 1 dX6_bestStep_22 (by decide) rfl ?_
      refine j_istore_n C0 [(3, .int 1), (0, .ref (ad 168)), (1, .int a1), (2, .int a2)] dX6_bestStep_23 rfl (by decide) rfl rfl ?_
      refine j_ldc C0 1000000 dX6_bestStep_24 hw_X6_bestStep_1 rfl ?_
      refine j_istore C0 [(4, .int 1000000), (3, .int 1), (0, .ref (ad 168)), (1, .int a1), (2, .int a2)] dX6_bestStep_26 (by decide) rfl rfl ?_
      refine j_iconst C0 1 dX6_bestStep_28 (by decide) rfl ?_
      refine j_istore C0 [(5, .int 1), (4, .int 1000000), (3, .int 1), (0, .ref (ad 168)), (1, .int a1), (2, .int a2)] dX6_bestStep_29 (by decide) rfl rfl ?_
      obtain ⟨n, hX⟩ := hX
      exact j_sub (l' := [(1, .int a1), (2, .int a2), (3, .int 1), (4, .int 1000000), (5, .int 1)]) [4, 5, 2, 1, 0] rfl (w_X6_bestStep_L31 C0 hlk hret K n a1 a2 1 1000000 1 μ4  hX)
theorem c_X6_bestStep {l : Launch} {D : va_G} {Y : Nat → ClassId} {ad : Nat → Nat} (a1 : Int32) (a2 : Int32) {μ : Mem} {K : Int32 → Mem → Prop}  (hX : x_X6_bestStep a1 a2 μ K) : ConI l yX6_bestStep wsX6_bestStep rm_X6_bestStep [.ref (ad 168), .int a1, .int a2] D Y ad μ K := conI_of (cc := cX6_bestStep) (maxL := 7) (ret := (some .int)) (own := RX6) _ (by decide +kernel) rfl rfl (Nat.le_of_ble_eq_true rfl) (fun p e s m args below meth c C0 hlk hret => j_sub (l' := [(0, .ref (ad 168)), (1, .int a1), (2, .int a2)]) [0, 1, 2] rfl (w_X6_bestStep C0 hlk hret a1 a2 μ K  hX))
/-! PhaseTonesModel.untilRound(I)I -/
abbrev rm_X6_untilRound : Room := rmf 2 43
theorem fw_X6_untilRound_6 : ∀ w ∈ wsX60, w ∈ wsX6_untilRound := by decide +kernel
theorem hw_X6_untilRound_0 : Cond.constant RX6 155 (70000) ∈ wsX6_untilRound := by decide +kernel
theorem hw_X6_untilRound_1 : Cond.fieldLink RX6 7 RX6 (TX6 0).2.1 (TX6 0).2.2.1 ∈ wsX6_untilRound := by decide +kernel
def x_X6_untilRound_L73 (K : Int32 → Mem → Prop) (a2 : Int32) (a3 : Int32) (μ : Mem) : Prop :=
  x_X6_putBack  μ (fun μ6 => (a3 = 0 → K (-6) μ6) ∧ (¬ (a3 = 0) → K a2 μ6))
set_option maxRecDepth 20000 in
theorem w_X6_untilRound_L73 {p : Program} {l : Launch} {e : Env} {s : State} {m : MethodId} {args : Array Value} {below : List Frame} {meth : Method} {c : Code} {D : va_G} {Y : Nat → ClassId} {ad : Nat → Nat} (C0 : CX D Y ad (PA ad) rm_X6_untilRound 0 0 p s args m c cX6_untilRound 5 RX6 wsX6_untilRound) (hlk : meth.locks = false) (hret : meth.sig.returnType = (some .int)) (a2 : Int32) (a3 : Int32) (μ : Mem) (K : Int32 → Mem → Prop)  (hX : x_X6_untilRound_L73 K a2 a3 μ) : J p l e rm_X6_untilRound s m args below meth c D Y ad (PA ad) 0 0 5 (MQ below (va_Qi K (BB D Y ad) (PA ad)) args s 0 0 (PA ad)) 73 [(0, .ref (ad 168)), (2, .int a2), (3, .int a3)] [] μ := by
  refine j_aload_n C0 0 dX6_untilRound_73 rfl rfl rfl ?_
  refine j_callVv C0 0 [] (c_X6_putBack   hX) dX6_untilRound_74 gX6_untilRound_X6_putBack rfl (by decide +kernel) ⟨⟨Nat.le_of_ble_eq_true rfl, Nat.le_of_ble_eq_true rfl⟩, rfl, rfl⟩ (kd_lt (rfl : kd 168 = 6) (by decide)) (ce6 (rfl : kd 168 = 6)) rfl rfl rfl (Nat.le_of_ble_eq_true rfl) rfl (fun μ6 hX => ?_)
  refine j_iload_n C0 2 dX6_untilRound_77 rfl rfl rfl ?_
  refine j_if_eq C0 (tgt := 85) dX6_untilRound_78 (by decide) rfl (fun c7 => ?_) (fun c7 => ?_)
  · have hX := hX.1 c7
    refine j_bipush C0 (-6) dX6_untilRound_85 (by decide) rfl ?_
    exact j_iret C0 hlk hret dX6_untilRound_87 hX
  · have hX := hX.2 c7
    refine j_iload_n C0 1 dX6_untilRound_81 rfl rfl rfl ?_
    refine j_goto C0 (tgt := 87) dX6_untilRound_82 (by decide) ?_
    exact j_iret C0 hlk hret dX6_untilRound_87 hX
def x_X6_untilRound_L69 (K : Int32 → Mem → Prop) (B : Int32 → Int32 → Int32 → Mem → Prop) (a1 : Int32) (a2 : Int32) (as0 : Int32) (μ : Mem) : Prop :=
  B a1 a2 as0 μ
set_option maxRecDepth 20000 in
theorem w_X6_untilRound_L69 {p : Program} {l : Launch} {e : Env} {s : State} {m : MethodId} {args : Array Value} {below : List Frame} {meth : Method} {c : Code} {D : va_G} {Y : Nat → ClassId} {ad : Nat → Nat} (C0 : CX D Y ad (PA ad) rm_X6_untilRound 0 0 p s args m c cX6_untilRound 5 RX6 wsX6_untilRound) (hlk : meth.locks = false) (hret : meth.sig.returnType = (some .int)) (a1 : Int32) (a2 : Int32) (as0 : Int32) (μ : Mem) (K : Int32 → Mem → Prop) (B : Int32 → Int32 → Int32 → Mem → Prop) (hB : ∀ (a1 : Int32) (a2 : Int32) (a3 : Int32) (μ : Mem), B a1 a2 a3 μ → J p l e rm_X6_untilRound s m args below meth c D Y ad (PA ad) 0 0 5 (MQ below (va_Qi K (BB D Y ad) (PA ad)) args s 0 0 (PA ad)) 17 [(0, .ref (ad 168)), (1, .int a1), (2, .int a2), (3, .int a3)] [] μ)  (hX : x_X6_untilRound_L69 K B a1 a2 as0 μ) : J p l e rm_X6_untilRound s m args below meth c D Y ad (PA ad) 0 0 5 (MQ below (va_Qi K (BB D Y ad) (PA ad)) args s 0 0 (PA ad)) 69 [(0, .ref (ad 168)), (1, .int a1), (2, .int a2)] [.int as0] μ := by
  refine j_istore_n C0 [(3, .int as0), (0, .ref (ad 168)), (1, .int a1), (2, .int a2)] dX6_untilRound_69 rfl (by decide) rfl rfl ?_
  refine j_goto C0 (tgt := 17) dX6_untilRound_70 (by decide) ?_
  exact j_sub (l' := [(0, .ref (ad 168)), (1, .int a1), (2, .int a2), (3, .int as0)]) [1, 2, 3, 0] rfl (hB a1 a2 as0 μ  hX)
def xb_X6_untilRound_L17 (K : Int32 → Mem → Prop) (B : Int32 → Int32 → Int32 → Mem → Prop) (a1 : Int32) (a2 : Int32) (a3 : Int32) (μ : Mem) : Prop :=
  (70000 ≤ a2 → x_X6_untilRound_L73 K a2 a3 μ) ∧ (¬ (70000 ≤ a2) → (a3 = 0 → x_X6_w a1 μ (fun r10 μ9 => vp_in (r10 + 0) 166 ∧ ∀ v12 : Int32, v12 = (μ9 169 (r10 + 0).toNatClampNeg) → x_X6_goesOn a1 μ9 (fun μ13 => ∀ v14 : Int32, v14 = a2 + 1 → x_X6_w a1 μ13 (fun r16 μ15 => vp_in (r16 + 0) 166 ∧ (v12 ≤ (μ15 169 (r16 + 0).toNatClampNeg) → x_X6_untilRound_L69 K B a1 v14 0 μ15) ∧ (¬ (v12 ≤ (μ15 169 (r16 + 0).toNatClampNeg)) → x_X6_untilRound_L69 K B a1 v14 1 μ15))))) ∧ (¬ (a3 = 0) → x_X6_untilRound_L73 K a2 a3 μ))
def x_X6_untilRound_L17 (K : Int32 → Mem → Prop) : Nat → Int32 → Int32 → Int32 → Mem → Prop
  | 0 => fun _ _ _ _ => False
  | n + 1 => fun a1 a2 a3 μ => xb_X6_untilRound_L17 K (x_X6_untilRound_L17 K n) a1 a2 a3 μ
set_option maxRecDepth 20000 in
theorem wb_X6_untilRound_L17 {p : Program} {l : Launch} {e : Env} {s : State} {m : MethodId} {args : Array Value} {below : List Frame} {meth : Method} {c : Code} {D : va_G} {Y : Nat → ClassId} {ad : Nat → Nat} (C0 : CX D Y ad (PA ad) rm_X6_untilRound 0 0 p s args m c cX6_untilRound 5 RX6 wsX6_untilRound) (hlk : meth.locks = false) (hret : meth.sig.returnType = (some .int)) (a1 : Int32) (a2 : Int32) (a3 : Int32) (μ : Mem) (K : Int32 → Mem → Prop) (B : Int32 → Int32 → Int32 → Mem → Prop) (hB : ∀ (a1 : Int32) (a2 : Int32) (a3 : Int32) (μ : Mem), B a1 a2 a3 μ → J p l e rm_X6_untilRound s m args below meth c D Y ad (PA ad) 0 0 5 (MQ below (va_Qi K (BB D Y ad) (PA ad)) args s 0 0 (PA ad)) 17 [(0, .ref (ad 168)), (1, .int a1), (2, .int a2), (3, .int a3)] [] μ)  (hX : xb_X6_untilRound_L17 K B a1 a2 a3 μ) : J p l e rm_X6_untilRound s m args below meth c D Y ad (PA ad) 0 0 5 (MQ below (va_Qi K (BB D Y ad) (PA ad)) args s 0 0 (PA ad)) 17 [(0, .ref (ad 168)), (1, .int a1), (2, .int a2), (3, .int a3)] [] μ := by
  refine j_iload_n C0 2 dX6_untilRound_17 rfl rfl rfl ?_
  refine j_ldc C0 70000 dX6_untilRound_18 hw_X6_untilRound_0 rfl ?_
  refine j_icmp_ge C0 (tgt := 73) dX6_untilRound_20 (by decide) rfl (fun c5 => ?_) (fun c5 => ?_)
  · have hX := hX.1 c5
    exact j_sub (l' := [(0, .ref (ad 168)), (2, .int a2), (3, .int a3)]) [0, 2, 3] rfl (w_X6_untilRound_L73 C0 hlk hret a2 a3 μ K  hX)
  · have hX := hX.2 c5
    refine j_iload_n C0 3 dX6_untilRound_23 rfl rfl rfl ?_
    refine j_if_ne C0 (tgt := 73) dX6_untilRound_24 (by decide) rfl (fun c8 => ?_) (fun c8 => ?_)
    · have hX := hX.1 c8
      refine j_aload_n C0 0 dX6_untilRound_27 rfl rfl rfl ?_
      refine j_get6 C0 (v := .ref (ad 169)) 0 (rfl : kd 168 = 6) fw_X6_untilRound_6 hw_X6_untilRound_1 (fun _ h9 => h9) (by decide) rfl dX6_untilRound_28 rfl ?_
      refine j_iload_n C0 1 dX6_untilRound_31 rfl rfl rfl ?_
      refine j_callSi C0 1 [.int a1] (c_X6_w a1  hX) dX6_untilRound_32 gX6_untilRound_X6_w rfl (by decide +kernel) ⟨⟨Nat.le_of_ble_eq_true rfl, Nat.le_of_ble_eq_true rfl⟩, rfl, rfl⟩ rfl rfl (Nat.le_of_ble_eq_true rfl) rfl (fun r10 μ9 hX => ?_)
      refine j_iconst C0 0 dX6_untilRound_35 (by decide) rfl ?_
      refine j_iadd C0 dX6_untilRound_36 rfl ?_
      obtain ⟨h11, hX⟩ := hX
      refine j_iald C0 (n := 166) (kd_lt (rfl : kd 169 = 18) (by decide)) (ce18 (rfl : kd 169 = 18)) h11 dX6_untilRound_37 rfl ?_
      refine j_topi (fun v12 e_v12 => ?_)
      have hX := hX v12 e_v12
      refine j_istore C0 [(4, .int v12), (0, .ref (ad 168)), (1, .int a1), (2, .int a2), (3, .int a3)] dX6_untilRound_38 (by decide) rfl rfl ?_
      refine j_aload_n C0 1 dX6_untilRound_40 rfl rfl rfl ?_
      refine j_iload_n C0 2 dX6_untilRound_41 rfl rfl rfl ?_
      refine j_callVv C0 1 [.int a1] (c_X6_goesOn a1  hX) dX6_untilRound_42 gX6_untilRound_X6_goesOn rfl (by decide +kernel) ⟨⟨Nat.le_of_ble_eq_true rfl, Nat.le_of_ble_eq_true rfl⟩, rfl, rfl⟩ (kd_lt (rfl : kd 168 = 6) (by decide)) (ce6 (rfl : kd 168 = 6)) rfl rfl rfl (Nat.le_of_ble_eq_true rfl) rfl (fun μ13 hX => ?_)
      obtain ⟨v14, e_v14⟩ : ∃ z : Int32, z = a2 + 1 := ⟨_, rfl⟩
      have hX := hX v14 e_v14
      refine j_iinc C0 3 v14 [(2, .int v14), (4, .int v12), (0, .ref (ad 168)), (1, .int a1), (3, .int a3)] dX6_untilRound_45 rfl (by rw [e_v14]; rfl) (by decide) rfl rfl ?_
      refine j_aload_n C0 2 dX6_untilRound_48 rfl rfl rfl ?_
      refine j_get6 C0 (v := .ref (ad 169)) 0 (rfl : kd 168 = 6) fw_X6_untilRound_6 hw_X6_untilRound_1 (fun _ h9 => h9) (by decide) rfl dX6_untilRound_49 rfl ?_
      refine j_iload_n C0 3 dX6_untilRound_52 rfl rfl rfl ?_
      refine j_callSi C0 1 [.int a1] (c_X6_w a1  hX) dX6_untilRound_53 gX6_untilRound_X6_w rfl (by decide +kernel) ⟨⟨Nat.le_of_ble_eq_true rfl, Nat.le_of_ble_eq_true rfl⟩, rfl, rfl⟩ rfl rfl (Nat.le_of_ble_eq_true rfl) rfl (fun r16 μ15 hX => ?_)
      refine j_iconst C0 0 dX6_untilRound_56 (by decide) rfl ?_
      refine j_iadd C0 dX6_untilRound_57 rfl ?_
      obtain ⟨h17, hX⟩ := hX
      refine j_iald C0 (n := 166) (kd_lt (rfl : kd 169 = 18) (by decide)) (ce18 (rfl : kd 169 = 18)) h17 dX6_untilRound_58 rfl ?_
      refine j_iload C0 1 dX6_untilRound_59 rfl rfl ?_
      refine j_icmp_ge C0 (tgt := 68) dX6_untilRound_61 (by decide) rfl (fun c18 => ?_) (fun c18 => ?_)
      · have hX := hX.1 c18
        refine j_iconst C0 0 dX6_untilRound_68 (by decide) rfl ?_
        exact j_sub (l' := [(0, .ref (ad 168)), (1, .int a1), (2, .int v14)]) [2, 3, 0] rfl (w_X6_untilRound_L69 C0 hlk hret a1 v14 0 μ15 K B hB  hX)
      · have hX := hX.2 c18
        refine j_iconst C0 1 dX6_untilRound_64 (by decide) rfl ?_
        refine j_goto C0 (tgt := 69) dX6_untilRound_65 (by decide) ?_
        exact j_sub (l' := [(0, .ref (ad 168)), (1, .int a1), (2, .int v14)]) [2, 3, 0] rfl (w_X6_untilRound_L69 C0 hlk hret a1 v14 1 μ15 K B hB  hX)
    · have hX := hX.2 c8
      exact j_sub (l' := [(0, .ref (ad 168)), (2, .int a2), (3, .int a3)]) [0, 2, 3] rfl (w_X6_untilRound_L73 C0 hlk hret a2 a3 μ K  hX)
theorem w_X6_untilRound_L17 {p : Program} {l : Launch} {e : Env} {s : State} {m : MethodId} {args : Array Value} {below : List Frame} {meth : Method} {c : Code} {D : va_G} {Y : Nat → ClassId} {ad : Nat → Nat} (C0 : CX D Y ad (PA ad) rm_X6_untilRound 0 0 p s args m c cX6_untilRound 5 RX6 wsX6_untilRound) (hlk : meth.locks = false) (hret : meth.sig.returnType = (some .int)) (K : Int32 → Mem → Prop) : ∀ (n : Nat) (a1 : Int32) (a2 : Int32) (a3 : Int32) (μ : Mem)  (hX : x_X6_untilRound_L17 K n a1 a2 a3 μ), J p l e rm_X6_untilRound s m args below meth c D Y ad (PA ad) 0 0 5 (MQ below (va_Qi K (BB D Y ad) (PA ad)) args s 0 0 (PA ad)) 17 [(0, .ref (ad 168)), (1, .int a1), (2, .int a2), (3, .int a3)] [] μ
  | 0, a1, a2, a3, μ, hX => hX.elim
  | n + 1, a1, a2, a3, μ, hX => wb_X6_untilRound_L17 C0 hlk hret a1 a2 a3 μ K (x_X6_untilRound_L17 K n) (fun a1 a2 a3 μ  hx => w_X6_untilRound_L17 C0 hlk hret K n a1 a2 a3 μ  hx)  hX
def x_X6_untilRound (a1 : Int32) (μ : Mem) (K : Int32 → Mem → Prop) : Prop :=
  x_X6_isOne a1 μ (fun r2 μ1 => (r2 = 0 → K (-1) μ1) ∧ (¬ (r2 = 0) → x_X6_keepTrial  μ1 (fun μ4 => ∃ n : Nat, x_X6_untilRound_L17 K n a1 0 0 μ4)))
set_option maxRecDepth 20000 in
theorem w_X6_untilRound {p : Program} {l : Launch} {e : Env} {s : State} {m : MethodId} {args : Array Value} {below : List Frame} {meth : Method} {c : Code} {D : va_G} {Y : Nat → ClassId} {ad : Nat → Nat} (C0 : CX D Y ad (PA ad) rm_X6_untilRound 0 0 p s args m c cX6_untilRound 5 RX6 wsX6_untilRound) (hlk : meth.locks = false) (hret : meth.sig.returnType = (some .int)) (a1 : Int32) (μ : Mem) (K : Int32 → Mem → Prop)  (hX : x_X6_untilRound a1 μ K) : J p l e rm_X6_untilRound s m args below meth c D Y ad (PA ad) 0 0 5 (MQ below (va_Qi K (BB D Y ad) (PA ad)) args s 0 0 (PA ad)) 0 [(0, .ref (ad 168)), (1, .int a1)] [] μ := by
  refine j_iload_n C0 1 dX6_untilRound_0 rfl rfl rfl ?_
  refine j_callSi C0 1 [.int a1] (c_X6_isOne a1  hX) dX6_untilRound_1 gX6_untilRound_X6_isOne rfl (by decide +kernel) ⟨⟨Nat.le_of_ble_eq_true rfl, Nat.le_of_ble_eq_true rfl⟩, rfl, rfl⟩ rfl rfl (Nat.le_of_ble_eq_true rfl) rfl (fun r2 μ1 hX => ?_)
  refine j_if_ne C0 (tgt := 9) dX6_untilRound_4 (by decide) rfl (fun c3 => ?_) (fun c3 => ?_)
  · have hX := hX.1 c3
    refine j_iconst C0 (-1) dX6_untilRound_7 (by decide) rfl ?_
    exact j_iret C0 hlk hret dX6_untilRound_8 hX
  · have hX := hX.2 c3
    refine j_aload_n C0 0 dX6_untilRound_9 rfl rfl rfl ?_
    refine j_callVv C0 0 [] (c_X6_keepTrial   hX) dX6_untilRound_10 gX6_untilRound_X6_keepTrial rfl (by decide +kernel) ⟨⟨Nat.le_of_ble_eq_true rfl, Nat.le_of_ble_eq_true rfl⟩, rfl, rfl⟩ (kd_lt (rfl : kd 168 = 6) (by decide)) (ce6 (rfl : kd 168 = 6)) rfl rfl rfl (Nat.le_of_ble_eq_true rfl) rfl (fun μ4 hX => ?_)
    refine j_iconst C0 0 dX6_untilRound_13 (by decide) rfl ?_
    refine j_istore_n C0 [(2, .int 0), (0, .ref (ad 168)), (1, .int a1)] dX6_untilRound_14 rfl (by decide) rfl rfl ?_
    refine j_iconst C0 0 dX6_untilRound_15 (by decide) rfl ?_
    refine j_istore_n C0 [(3, .int 0), (2, .int 0), (0, .ref (ad 168)), (1, .int a1)] dX6_untilRound_16 rfl (by decide) rfl rfl ?_
    obtain ⟨n, hX⟩ := hX
    exact j_sub (l' := [(0, .ref (ad 168)), (1, .int a1), (2, .int 0), (3, .int 0)]) [2, 3, 1, 0] rfl (w_X6_untilRound_L17 C0 hlk hret K n a1 0 0 μ4  hX)
theorem c_X6_untilRound {l : Launch} {D : va_G} {Y : Nat → ClassId} {ad : Nat → Nat} (a1 : Int32) {μ : Mem} {K : Int32 → Mem → Prop}  (hX : x_X6_untilRound a1 μ K) : ConI l yX6_untilRound wsX6_untilRound rm_X6_untilRound [.ref (ad 168), .int a1] D Y ad μ K := conI_of (cc := cX6_untilRound) (maxL := 5) (ret := (some .int)) (own := RX6) _ (by decide +kernel) rfl rfl (Nat.le_of_ble_eq_true rfl) (fun p e s m args below meth c C0 hlk hret => j_sub (l' := [(0, .ref (ad 168)), (1, .int a1)]) [0, 1] rfl (w_X6_untilRound C0 hlk hret a1 μ K  hX))
/-! PhaseTonesModel.put(J)I -/
abbrev rm_X6_put : Room := rmf 0 0
theorem fw_X6_put_6 : ∀ w ∈ wsX60, w ∈ wsX6_put := by decide +kernel
theorem hw_X6_put_0 : Cond.fieldLink RX6 102 RX6 (TX6 8).2.1 (TX6 8).2.2.1 ∈ wsX6_put := by decide +kernel
theorem hw_X6_put_1 : Cond.fieldLink RX6 32 RX6 (TX6 7).2.1 (TX6 7).2.2.1 ∈ wsX6_put := by decide +kernel
theorem hw_X6_put_2 : Cond.constantLong RX6 156 (255) ∈ wsX6_put := by decide +kernel
theorem hw_X6_put_3 : Cond.constantLong RX6 158 (33) ∈ wsX6_put := by decide +kernel
theorem hw_X6_put_4 : Cond.constantLong RX6 160 (126) ∈ wsX6_put := by decide +kernel
def xb_X6_put_L86 (K : Int32 → Mem → Prop) (B : Int64 → Int32 → Mem → Prop) (b1 : Int64) (a6 : Int32) (μ : Mem) : Prop :=
  (a6 < 0 → K (μ 168 8) μ) ∧ (¬ (a6 < 0) → vp_in (μ 168 8) 60 ∧ ∀ μ7 : Mem, μ7 = um μ 176 (upd (μ 176) (μ 168 8).toNatClampNeg (vp_nar .char ((((((((b1).toUInt64 >>> ((((8 : Int32) * a6)).toInt64.toUInt64 &&& Int64.toUInt64 63)).toInt64) &&& 255)).toInt32).toUInt32 % 65536).toInt32))) → ∀ μ8 : Mem, μ8 = um μ7 168 (upd (μ7 168) 8 ((μ7 168 8) + 1)) → ∀ v9 : Int32, v9 = a6 + (-1) → B b1 v9 μ8)
def x_X6_put_L86 (K : Int32 → Mem → Prop) : Nat → Int64 → Int32 → Mem → Prop
  | 0 => fun _ _ _ => False
  | n + 1 => fun b1 a6 μ => xb_X6_put_L86 K (x_X6_put_L86 K n) b1 a6 μ
set_option maxRecDepth 20000 in
theorem wb_X6_put_L86 {p : Program} {l : Launch} {e : Env} {s : State} {m : MethodId} {args : Array Value} {below : List Frame} {meth : Method} {c : Code} {D : va_G} {Y : Nat → ClassId} {ad : Nat → Nat} (C0 : CX D Y ad (PA ad) rm_X6_put 0 0 p s args m c cX6_put 8 RX6 wsX6_put) (hlk : meth.locks = false) (hret : meth.sig.returnType = (some .int)) (b1 : Int64) (a6 : Int32) (μ : Mem) (K : Int32 → Mem → Prop) (B : Int64 → Int32 → Mem → Prop) (hB : ∀ (b1 : Int64) (a6 : Int32) (μ : Mem), B b1 a6 μ → J p l e rm_X6_put s m args below meth c D Y ad (PA ad) 0 0 8 (MQ below (va_Qi K (BB D Y ad) (PA ad)) args s 0 0 (PA ad)) 86 [(0, .ref (ad 168)), (1, .long b1), (6, .int a6)] [] μ)  (hX : xb_X6_put_L86 K B b1 a6 μ) : J p l e rm_X6_put s m args below meth c D Y ad (PA ad) 0 0 8 (MQ below (va_Qi K (BB D Y ad) (PA ad)) args s 0 0 (PA ad)) 86 [(0, .ref (ad 168)), (1, .long b1), (6, .int a6)] [] μ := by
  refine j_iload C0 2 dX6_put_86 rfl rfl ?_
  refine j_if_lt C0 (tgt := 129) dX6_put_88 (by decide) rfl (fun c5 => ?_) (fun c5 => ?_)
  · have hX := hX.1 c5
    refine j_aload_n C0 0 dX6_put_129 rfl rfl rfl ?_
    refine j_get6 C0 (v := .int (μ 168 8)) 8 (rfl : kd 168 = 6) fw_X6_put_6 hw_X6_put_0 (fun _ h9 => h9) (by decide) rfl dX6_put_130 rfl ?_
    exact j_iret C0 hlk hret dX6_put_133 hX
  · have hX := hX.2 c5
    refine j_aload_n C0 0 dX6_put_91 rfl rfl rfl ?_
    refine j_get6 C0 (v := .ref (ad 176)) 7 (rfl : kd 168 = 6) fw_X6_put_6 hw_X6_put_1 (fun _ h9 => h9) (by decide) rfl dX6_put_92 rfl ?_
    refine j_aload_n C0 0 dX6_put_95 rfl rfl rfl ?_
    refine j_get6 C0 (v := .int (μ 168 8)) 8 (rfl : kd 168 = 6) fw_X6_put_6 hw_X6_put_0 (fun _ h9 => h9) (by decide) rfl dX6_put_96 rfl ?_
    refine j_lload_n C0 1 dX6_put_99 rfl rfl rfl ?_
    refine j_bipush C0 8 dX6_put_100 (by decide) rfl ?_
    refine j_iload C0 2 dX6_put_102 rfl rfl ?_
    refine j_imul C0 dX6_put_104 rfl ?_
    refine j_lushr C0 dX6_put_105 rfl ?_
    refine j_ldc2 C0 255 dX6_put_106 hw_X6_put_2 rfl ?_
    refine j_land C0 dX6_put_109 rfl ?_
    refine j_l2i C0 dX6_put_110 rfl ?_
    refine j_i2c C0 dX6_put_111 rfl ?_
    obtain ⟨h6, hX⟩ := hX
    refine j_cast C0 (n := 60) (kd_lt (rfl : kd 176 = 17) (by decide)) (ce17 (rfl : kd 176 = 17)) h6 dX6_put_112 rfl ?_
    refine j_nm (fun μ7 e_μ7 => ?_)
    have hX := hX μ7 e_μ7
    refine j_aload_n C0 0 dX6_put_113 rfl rfl rfl ?_
    refine j_dup C0 dX6_put_114 rfl rfl ?_
    refine j_get6 C0 (v := .int (μ7 168 8)) 8 (rfl : kd 168 = 6) fw_X6_put_6 hw_X6_put_0 (fun _ h9 => h9) (by decide) rfl dX6_put_115 rfl ?_
    refine j_iconst C0 1 dX6_put_118 (by decide) rfl ?_
    refine j_iadd C0 dX6_put_119 rfl ?_
    refine j_put6_8 C0 (rfl : kd 168 = 6) fw_X6_put_6 hw_X6_put_0 dX6_put_120 rfl ?_
    refine j_nm (fun μ8 e_μ8 => ?_)
    have hX := hX μ8 e_μ8
    obtain ⟨v9, e_v9⟩ : ∃ z : Int32, z = a6 + (-1) := ⟨_, rfl⟩
    have hX := hX v9 e_v9
    refine j_iinc C0 2 v9 [(6, .int v9), (0, .ref (ad 168)), (1, .long b1)] dX6_put_123 rfl (by rw [e_v9]; rfl) (by decide) rfl rfl ?_
    refine j_goto C0 (tgt := 86) dX6_put_126 (by decide) ?_
    exact j_sub (l' := [(0, .ref (ad 168)), (1, .long b1), (6, .int v9)]) [1, 2, 0] rfl (hB b1 v9 μ8  hX)
theorem w_X6_put_L86 {p : Program} {l : Launch} {e : Env} {s : State} {m : MethodId} {args : Array Value} {below : List Frame} {meth : Method} {c : Code} {D : va_G} {Y : Nat → ClassId} {ad : Nat → Nat} (C0 : CX D Y ad (PA ad) rm_X6_put 0 0 p s args m c cX6_put 8 RX6 wsX6_put) (hlk : meth.locks = false) (hret : meth.sig.returnType = (some .int)) (K : Int32 → Mem → Prop) : ∀ (n : Nat) (b1 : Int64) (a6 : Int32) (μ : Mem)  (hX : x_X6_put_L86 K n b1 a6 μ), J p l e rm_X6_put s m args below meth c D Y ad (PA ad) 0 0 8 (MQ below (va_Qi K (BB D Y ad) (PA ad)) args s 0 0 (PA ad)) 86 [(0, .ref (ad 168)), (1, .long b1), (6, .int a6)] [] μ
  | 0, b1, a6, μ, hX => hX.elim
  | n + 1, b1, a6, μ, hX => wb_X6_put_L86 C0 hlk hret b1 a6 μ K (x_X6_put_L86 K n) (fun b1 a6 μ  hx => w_X6_put_L86 C0 hlk hret K n b1 a6 μ  hx)  hX
def x_X6_put_L60 (K : Int32 → Mem → Prop) (b1 : Int64) (a3 : Int32) (μ : Mem) : Prop :=
  (a3 = 0 → K (-2) μ) ∧ (¬ (a3 = 0) → (((μ 168 8) + a3) ≤ 60 → ∀ v4 : Int32, v4 = (a3 - 1) → ∃ n : Nat, x_X6_put_L86 K n b1 v4 μ) ∧ (¬ (((μ 168 8) + a3) ≤ 60) → K (-4) μ))
set_option maxRecDepth 20000 in
theorem w_X6_put_L60 {p : Program} {l : Launch} {e : Env} {s : State} {m : MethodId} {args : Array Value} {below : List Frame} {meth : Method} {c : Code} {D : va_G} {Y : Nat → ClassId} {ad : Nat → Nat} (C0 : CX D Y ad (PA ad) rm_X6_put 0 0 p s args m c cX6_put 8 RX6 wsX6_put) (hlk : meth.locks = false) (hret : meth.sig.returnType = (some .int)) (b1 : Int64) (a3 : Int32) (μ : Mem) (K : Int32 → Mem → Prop)  (hX : x_X6_put_L60 K b1 a3 μ) : J p l e rm_X6_put s m args below meth c D Y ad (PA ad) 0 0 8 (MQ below (va_Qi K (BB D Y ad) (PA ad)) args s 0 0 (PA ad)) 60 [(0, .ref (ad 168)), (1, .long b1), (3, .int a3)] [] μ := by
  refine j_iload_n C0 2 dX6_put_60 rfl rfl rfl ?_
  refine j_if_ne C0 (tgt := 67) dX6_put_61 (by decide) rfl (fun c2 => ?_) (fun c2 => ?_)
  · have hX := hX.1 c2
    refine j_bipush C0 (-2) dX6_put_64 (by decide) rfl ?_
    exact j_iret C0 hlk hret dX6_put_66 hX
  · have hX := hX.2 c2
    refine j_aload_n C0 0 dX6_put_67 rfl rfl rfl ?_
    refine j_get6 C0 (v := .int (μ 168 8)) 8 (rfl : kd 168 = 6) fw_X6_put_6 hw_X6_put_0 (fun _ h9 => h9) (by decide) rfl dX6_put_68 rfl ?_
    refine j_iload_n C0 2 dX6_put_71 rfl rfl rfl ?_
    refine j_iadd C0 dX6_put_72 rfl ?_
    refine j_bipush C0 60 dX6_put_73 (by decide) rfl ?_
    refine j_icmp_le C0 (tgt := 81) dX6_put_75 (by decide) rfl (fun c3 => ?_) (fun c3 => ?_)
    · have hX := hX.1 c3
      refine j_iload_n C0 2 dX6_put_81 rfl rfl rfl ?_
      refine j_iconst C0 1 dX6_put_82 (by decide) rfl ?_
      refine j_isub C0 dX6_put_83 rfl ?_
      refine j_topi (fun v4 e_v4 => ?_)
      have hX := hX v4 e_v4
      refine j_istore C0 [(6, .int v4), (0, .ref (ad 168)), (1, .long b1), (3, .int a3)] dX6_put_84 (by decide) rfl rfl ?_
      obtain ⟨n, hX⟩ := hX
      exact j_sub (l' := [(0, .ref (ad 168)), (1, .long b1), (6, .int v4)]) [1, 2, 0] rfl (w_X6_put_L86 C0 hlk hret K n b1 v4 μ  hX)
    · have hX := hX.2 c3
      refine j_bipush C0 (-4) dX6_put_78 (by decide) rfl ?_
      exact j_iret C0 hlk hret dX6_put_80 hX
def xb_X6_put_L5 (K : Int32 → Mem → Prop) (B : Int64 → Int32 → Int64 → Mem → Prop) (b1 : Int64) (a3 : Int32) (b4 : Int64) (μ : Mem) : Prop :=
  (8 ≤ a3 → x_X6_put_L60 K b1 a3 μ) ∧ (¬ (8 ≤ a3) → ((lg_cmp b4 (0 : Int64)) = 0 → x_X6_put_L60 K b1 a3 μ) ∧ (¬ ((lg_cmp b4 (0 : Int64)) = 0) → ∀ v11 : Int64, v11 = (b4 &&& 255) → ((lg_cmp v11 (33 : Int64)) < 0 → K (-2) μ) ∧ (¬ ((lg_cmp v11 (33 : Int64)) < 0) → ((lg_cmp v11 (126 : Int64)) ≤ 0 → ∀ v14 : Int64, v14 = (((b4).toUInt64 >>> (((8 : Int32)).toInt64.toUInt64 &&& Int64.toUInt64 63)).toInt64) → ∀ v15 : Int32, v15 = a3 + 1 → B b1 v15 v14 μ) ∧ (¬ ((lg_cmp v11 (126 : Int64)) ≤ 0) → K (-2) μ))))
def x_X6_put_L5 (K : Int32 → Mem → Prop) : Nat → Int64 → Int32 → Int64 → Mem → Prop
  | 0 => fun _ _ _ _ => False
  | n + 1 => fun b1 a3 b4 μ => xb_X6_put_L5 K (x_X6_put_L5 K n) b1 a3 b4 μ
set_option maxRecDepth 20000 in
theorem wb_X6_put_L5 {p : Program} {l : Launch} {e : Env} {s : State} {m : MethodId} {args : Array Value} {below : List Frame} {meth : Method} {c : Code} {D : va_G} {Y : Nat → ClassId} {ad : Nat → Nat} (C0 : CX D Y ad (PA ad) rm_X6_put 0 0 p s args m c cX6_put 8 RX6 wsX6_put) (hlk : meth.locks = false) (hret : meth.sig.returnType = (some .int)) (b1 : Int64) (a3 : Int32) (b4 : Int64) (μ : Mem) (K : Int32 → Mem → Prop) (B : Int64 → Int32 → Int64 → Mem → Prop) (hB : ∀ (b1 : Int64) (a3 : Int32) (b4 : Int64) (μ : Mem), B b1 a3 b4 μ → J p l e rm_X6_put s m args below meth c D Y ad (PA ad) 0 0 8 (MQ below (va_Qi K (BB D Y ad) (PA ad)) args s 0 0 (PA ad)) 5 [(0, .ref (ad 168)), (1, .long b1), (3, .int a3), (4, .long b4)] [] μ)  (hX : xb_X6_put_L5 K B b1 a3 b4 μ) : J p l e rm_X6_put s m args below meth c D Y ad (PA ad) 0 0 8 (MQ below (va_Qi K (BB D Y ad) (PA ad)) args s 0 0 (PA ad)) 5 [(0, .ref (ad 168)), (1, .long b1), (3, .int a3), (4, .long b4)] [] μ := by
  refine j_iload_n C0 2 dX6_put_5 rfl rfl rfl ?_
  refine j_bipush C0 8 dX6_put_6 (by decide) rfl ?_
  refine j_icmp_ge C0 (tgt := 60) dX6_put_8 (by decide) rfl (fun c1 => ?_) (fun c1 => ?_)
  · have hX := hX.1 c1
    exact j_sub (l' := [(0, .ref (ad 168)), (1, .long b1), (3, .int a3)]) [0, 1, 2] rfl (w_X6_put_L60 C0 hlk hret b1 a3 μ K  hX)
  · have hX := hX.2 c1
    refine j_lload C0 3 dX6_put_11 rfl rfl ?_
    refine j_lconst C0 0 dX6_put_13 (by decide) rfl ?_
    refine j_lcmp C0 dX6_put_14 rfl ?_
    refine j_if_eq C0 (tgt := 60) dX6_put_15 (by decide) rfl (fun c10 => ?_) (fun c10 => ?_)
    · have hX := hX.1 c10
      exact j_sub (l' := [(0, .ref (ad 168)), (1, .long b1), (3, .int a3)]) [0, 1, 2] rfl (w_X6_put_L60 C0 hlk hret b1 a3 μ K  hX)
    · have hX := hX.2 c10
      refine j_lload C0 3 dX6_put_18 rfl rfl ?_
      refine j_ldc2 C0 255 dX6_put_20 hw_X6_put_2 rfl ?_
      refine j_land C0 dX6_put_23 rfl ?_
      refine j_topl (fun v11 e_v11 => ?_)
      have hX := hX v11 e_v11
      refine j_lstore C0 [(6, .long v11), (0, .ref (ad 168)), (1, .long b1), (3, .int a3), (4, .long b4)] dX6_put_24 (by decide) rfl rfl ?_
      refine j_lload C0 0 dX6_put_26 rfl rfl ?_
      refine j_ldc2 C0 33 dX6_put_28 hw_X6_put_3 rfl ?_
      refine j_lcmp C0 dX6_put_31 rfl ?_
      refine j_if_lt C0 (tgt := 44) dX6_put_32 (by decide) rfl (fun c12 => ?_) (fun c12 => ?_)
      · have hX := hX.1 c12
        refine j_bipush C0 (-2) dX6_put_44 (by decide) rfl ?_
        exact j_iret C0 hlk hret dX6_put_46 hX
      · have hX := hX.2 c12
        refine j_lload C0 0 dX6_put_35 rfl rfl ?_
        refine j_ldc2 C0 126 dX6_put_37 hw_X6_put_4 rfl ?_
        refine j_lcmp C0 dX6_put_40 rfl ?_
        refine j_if_le C0 (tgt := 47) dX6_put_41 (by decide) rfl (fun c13 => ?_) (fun c13 => ?_)
        · have hX := hX.1 c13
          refine j_lload C0 4 dX6_put_47 rfl rfl ?_
          refine j_bipush C0 8 dX6_put_49 (by decide) rfl ?_
          refine j_lushr C0 dX6_put_51 rfl ?_
          refine j_topl (fun v14 e_v14 => ?_)
          have hX := hX v14 e_v14
          refine j_lstore C0 [(4, .long v14), (6, .long v11), (0, .ref (ad 168)), (1, .long b1), (3, .int a3)] dX6_put_52 (by decide) rfl rfl ?_
          obtain ⟨v15, e_v15⟩ : ∃ z : Int32, z = a3 + 1 := ⟨_, rfl⟩
          have hX := hX v15 e_v15
          refine j_iinc C0 4 v15 [(3, .int v15), (4, .long v14), (6, .long v11), (0, .ref (ad 168)), (1, .long b1)] dX6_put_54 rfl (by rw [e_v15]; rfl) (by decide) rfl rfl ?_
          refine j_goto C0 (tgt := 5) dX6_put_57 (by decide) ?_
          exact j_sub (l' := [(0, .ref (ad 168)), (1, .long b1), (3, .int v15), (4, .long v14)]) [3, 4, 0, 1] rfl (hB b1 v15 v14 μ  hX)
        · have hX := hX.2 c13
          refine j_bipush C0 (-2) dX6_put_44 (by decide) rfl ?_
          exact j_iret C0 hlk hret dX6_put_46 hX
theorem w_X6_put_L5 {p : Program} {l : Launch} {e : Env} {s : State} {m : MethodId} {args : Array Value} {below : List Frame} {meth : Method} {c : Code} {D : va_G} {Y : Nat → ClassId} {ad : Nat → Nat} (C0 : CX D Y ad (PA ad) rm_X6_put 0 0 p s args m c cX6_put 8 RX6 wsX6_put) (hlk : meth.locks = false) (hret : meth.sig.returnType = (some .int)) (K : Int32 → Mem → Prop) : ∀ (n : Nat) (b1 : Int64) (a3 : Int32) (b4 : Int64) (μ : Mem)  (hX : x_X6_put_L5 K n b1 a3 b4 μ), J p l e rm_X6_put s m args below meth c D Y ad (PA ad) 0 0 8 (MQ below (va_Qi K (BB D Y ad) (PA ad)) args s 0 0 (PA ad)) 5 [(0, .ref (ad 168)), (1, .long b1), (3, .int a3), (4, .long b4)] [] μ
  | 0, b1, a3, b4, μ, hX => hX.elim
  | n + 1, b1, a3, b4, μ, hX => wb_X6_put_L5 C0 hlk hret b1 a3 b4 μ K (x_X6_put_L5 K n) (fun b1 a3 b4 μ  hx => w_X6_put_L5 C0 hlk hret K n b1 a3 b4 μ  hx)  hX
def x_X6_put (b1 : Int64) (μ : Mem) (K : Int32 → Mem → Prop) : Prop :=
  ∃ n : Nat, x_X6_put_L5 K n b1 0 b1 μ
set_option maxRecDepth 20000 in
theorem w_X6_put {p : Program} {l : Launch} {e : Env} {s : State} {m : MethodId} {args : Array Value} {below : List Frame} {meth : Method} {c : Code} {D : va_G} {Y : Nat → ClassId} {ad : Nat → Nat} (C0 : CX D Y ad (PA ad) rm_X6_put 0 0 p s args m c cX6_put 8 RX6 wsX6_put) (hlk : meth.locks = false) (hret : meth.sig.returnType = (some .int)) (b1 : Int64) (μ : Mem) (K : Int32 → Mem → Prop)  (hX : x_X6_put b1 μ K) : J p l e rm_X6_put s m args below meth c D Y ad (PA ad) 0 0 8 (MQ below (va_Qi K (BB D Y ad) (PA ad)) args s 0 0 (PA ad)) 0 [(0, .ref (ad 168)), (1, .long b1)] [] μ := by
  refine j_iconst C0 0 dX6_put_0 (by decide) rfl ?_
  refine j_istore_n C0 [(3, .int 0), (0, .ref (ad 168)), (1, .long b1)] dX6_put_1 rfl (by decide) rfl rfl ?_
  refine j_lload_n C0 2 dX6_put_2 rfl rfl rfl ?_
  refine j_lstore C0 [(4, .long b1), (3, .int 0), (0, .ref (ad 168)), (1, .long b1)] dX6_put_3 (by decide) rfl rfl ?_
  obtain ⟨n, hX⟩ := hX
  exact j_sub (l' := [(0, .ref (ad 168)), (1, .long b1), (3, .int 0), (4, .long b1)]) [2, 3, 1, 0] rfl (w_X6_put_L5 C0 hlk hret K n b1 0 b1 μ  hX)
theorem c_X6_put {l : Launch} {D : va_G} {Y : Nat → ClassId} {ad : Nat → Nat} (b1 : Int64) {μ : Mem} {K : Int32 → Mem → Prop}  (hX : x_X6_put b1 μ K) : ConI l yX6_put wsX6_put rm_X6_put [.ref (ad 168), .long b1] D Y ad μ K := conI_of (cc := cX6_put) (maxL := 8) (ret := (some .int)) (own := RX6) _ (by decide +kernel) rfl rfl (Nat.le_of_ble_eq_true rfl) (fun p e s m args below meth c C0 hlk hret => j_sub (l' := [(0, .ref (ad 168)), (1, .long b1)]) [0, 1] rfl (w_X6_put C0 hlk hret b1 μ K  hX))
/-! PhaseTonesModel.wipe()I -/
abbrev rm_X6_wipe : Room := rmf 0 0
theorem fw_X6_wipe_6 : ∀ w ∈ wsX60, w ∈ wsX6_wipe := by decide +kernel
theorem hw_X6_wipe_0 : Cond.fieldLink RX6 102 RX6 (TX6 8).2.1 (TX6 8).2.2.1 ∈ wsX6_wipe := by decide +kernel
def x_X6_wipe  (μ : Mem) (K : Int32 → Mem → Prop) : Prop :=
  ∀ v1 : Int32, v1 = (μ 168 8) → ∀ μ2 : Mem, μ2 = um μ 168 (upd (μ 168) 8 0) → K v1 μ2
set_option maxRecDepth 20000 in
theorem w_X6_wipe {p : Program} {l : Launch} {e : Env} {s : State} {m : MethodId} {args : Array Value} {below : List Frame} {meth : Method} {c : Code} {D : va_G} {Y : Nat → ClassId} {ad : Nat → Nat} (C0 : CX D Y ad (PA ad) rm_X6_wipe 0 0 p s args m c cX6_wipe 2 RX6 wsX6_wipe) (hlk : meth.locks = false) (hret : meth.sig.returnType = (some .int))  (μ : Mem) (K : Int32 → Mem → Prop)  (hX : x_X6_wipe  μ K) : J p l e rm_X6_wipe s m args below meth c D Y ad (PA ad) 0 0 2 (MQ below (va_Qi K (BB D Y ad) (PA ad)) args s 0 0 (PA ad)) 0 [(0, .ref (ad 168))] [] μ := by
  refine j_aload_n C0 0 dX6_wipe_0 rfl rfl rfl ?_
  refine j_get6 C0 (v := .int (μ 168 8)) 8 (rfl : kd 168 = 6) fw_X6_wipe_6 hw_X6_wipe_0 (fun _ h9 => h9) (by decide) rfl dX6_wipe_1 rfl ?_
  refine j_topi (fun v1 e_v1 => ?_)
  have hX := hX v1 e_v1
  refine j_istore_n C0 [(1, .int v1), (0, .ref (ad 168))] dX6_wipe_4 rfl (by decide) rfl rfl ?_
  refine j_aload_n C0 1 dX6_wipe_5 rfl rfl rfl ?_
  refine j_iconst C0 0 dX6_wipe_6 (by decide) rfl ?_
  refine j_put6_8 C0 (rfl : kd 168 = 6) fw_X6_wipe_6 hw_X6_wipe_0 dX6_wipe_7 rfl ?_
  refine j_nm (fun μ2 e_μ2 => ?_)
  have hX := hX μ2 e_μ2
  refine j_iload_n C0 0 dX6_wipe_10 rfl rfl rfl ?_
  exact j_iret C0 hlk hret dX6_wipe_11 hX
theorem c_X6_wipe {l : Launch} {D : va_G} {Y : Nat → ClassId} {ad : Nat → Nat}  {μ : Mem} {K : Int32 → Mem → Prop}  (hX : x_X6_wipe  μ K) : ConI l yX6_wipe wsX6_wipe rm_X6_wipe [.ref (ad 168)] D Y ad μ K := conI_of (cc := cX6_wipe) (maxL := 2) (ret := (some .int)) (own := RX6) _ (by decide +kernel) rfl rfl (Nat.le_of_ble_eq_true rfl) (fun p e s m args below meth c C0 hlk hret => j_sub (l' := [(0, .ref (ad 168))]) [0] rfl (w_X6_wipe C0 hlk hret  μ K  hX))
/-! PhaseTonesModel.fault()I -/
abbrev rm_X6_fault : Room := rmf 5 108
def x_X6_fault  (μ : Mem) (K : Int32 → Mem → Prop) : Prop :=
  x_X6_faultOf  μ (fun r2 μ1 => (0 ≤ r2 → K r2 μ1) ∧ (¬ (0 ≤ r2) → K (-6) μ1))
set_option maxRecDepth 20000 in
theorem w_X6_fault {p : Program} {l : Launch} {e : Env} {s : State} {m : MethodId} {args : Array Value} {below : List Frame} {meth : Method} {c : Code} {D : va_G} {Y : Nat → ClassId} {ad : Nat → Nat} (C0 : CX D Y ad (PA ad) rm_X6_fault 0 0 p s args m c cX6_fault 2 RX6 wsX6_fault) (hlk : meth.locks = false) (hret : meth.sig.returnType = (some .int))  (μ : Mem) (K : Int32 → Mem → Prop)  (hX : x_X6_fault  μ K) : J p l e rm_X6_fault s m args below meth c D Y ad (PA ad) 0 0 2 (MQ below (va_Qi K (BB D Y ad) (PA ad)) args s 0 0 (PA ad)) 0 [(0, .ref (ad 168))] [] μ := by
  refine j_aload_n C0 0 dX6_fault_0 rfl rfl rfl ?_
  refine j_callVi C0 0 [] (c_X6_faultOf   hX) dX6_fault_1 gX6_fault_X6_faultOf rfl (by decide +kernel) ⟨⟨Nat.le_of_ble_eq_true rfl, Nat.le_of_ble_eq_true rfl⟩, rfl, rfl⟩ (kd_lt (rfl : kd 168 = 6) (by decide)) (ce6 (rfl : kd 168 = 6)) rfl rfl rfl (Nat.le_of_ble_eq_true rfl) rfl (fun r2 μ1 hX => ?_)
  refine j_istore_n C0 [(1, .int r2), (0, .ref (ad 168))] dX6_fault_4 rfl (by decide) rfl rfl ?_
  refine j_iload_n C0 0 dX6_fault_5 rfl rfl rfl ?_
  refine j_if_ge C0 (tgt := 14) dX6_fault_6 (by decide) rfl (fun c3 => ?_) (fun c3 => ?_)
  · have hX := hX.1 c3
    refine j_iload_n C0 0 dX6_fault_14 rfl rfl rfl ?_
    exact j_iret C0 hlk hret dX6_fault_15 hX
  · have hX := hX.2 c3
    refine j_bipush C0 (-6) dX6_fault_9 (by decide) rfl ?_
    refine j_goto C0 (tgt := 15) dX6_fault_11 (by decide) ?_
    exact j_iret C0 hlk hret dX6_fault_15 hX
theorem c_X6_fault {l : Launch} {D : va_G} {Y : Nat → ClassId} {ad : Nat → Nat}  {μ : Mem} {K : Int32 → Mem → Prop}  (hX : x_X6_fault  μ K) : ConI l yX6_fault wsX6_fault rm_X6_fault [.ref (ad 168)] D Y ad μ K := conI_of (cc := cX6_fault) (maxL := 2) (ret := (some .int)) (own := RX6) _ (by decide +kernel) rfl rfl (Nat.le_of_ble_eq_true rfl) (fun p e s m args below meth c C0 hlk hret => j_sub (l' := [(0, .ref (ad 168))]) [0] rfl (w_X6_fault C0 hlk hret  μ K  hX))
/-! PhaseTonesModel.undo()I -/
abbrev rm_X6_undo : Room := rmf 0 0
theorem fw_X6_undo_6 : ∀ w ∈ wsX60, w ∈ wsX6_undo := by decide +kernel
theorem hw_X6_undo_0 : Cond.fieldLink RX6 44 RX6 (TX6 9).2.1 (TX6 9).2.2.1 ∈ wsX6_undo := by decide +kernel
theorem hw_X6_undo_1 : Cond.fieldLink RX6 7 RX6 (TX6 0).2.1 (TX6 0).2.2.1 ∈ wsX6_undo := by decide +kernel
theorem hw_X6_undo_2 : Cond.fieldLink RX6 19 RX6 (TX6 3).2.1 (TX6 3).2.2.1 ∈ wsX6_undo := by decide +kernel
def xb_X6_undo_L22 (K : Int32 → Mem → Prop) (B : Int32 → Mem → Prop) (a1 : Int32) (μ : Mem) : Prop :=
  (166 ≤ a1 → K (μ 168 9) μ) ∧ (¬ (166 ≤ a1) → vp_in (((166 : Int32) * (μ 168 9)) + a1) 996 ∧ vp_in a1 166 ∧ ∀ μ6 : Mem, μ6 = um μ 169 (upd (μ 169) a1.toNatClampNeg (μ 172 (((166 : Int32) * (μ 168 9)) + a1).toNatClampNeg)) → ∀ v7 : Int32, v7 = a1 + 1 → B v7 μ6)
def x_X6_undo_L22 (K : Int32 → Mem → Prop) : Nat → Int32 → Mem → Prop
  | 0 => fun _ _ => False
  | n + 1 => fun a1 μ => xb_X6_undo_L22 K (x_X6_undo_L22 K n) a1 μ
set_option maxRecDepth 20000 in
theorem wb_X6_undo_L22 {p : Program} {l : Launch} {e : Env} {s : State} {m : MethodId} {args : Array Value} {below : List Frame} {meth : Method} {c : Code} {D : va_G} {Y : Nat → ClassId} {ad : Nat → Nat} (C0 : CX D Y ad (PA ad) rm_X6_undo 0 0 p s args m c cX6_undo 2 RX6 wsX6_undo) (hlk : meth.locks = false) (hret : meth.sig.returnType = (some .int)) (a1 : Int32) (μ : Mem) (K : Int32 → Mem → Prop) (B : Int32 → Mem → Prop) (hB : ∀ (a1 : Int32) (μ : Mem), B a1 μ → J p l e rm_X6_undo s m args below meth c D Y ad (PA ad) 0 0 2 (MQ below (va_Qi K (BB D Y ad) (PA ad)) args s 0 0 (PA ad)) 22 [(0, .ref (ad 168)), (1, .int a1)] [] μ)  (hX : xb_X6_undo_L22 K B a1 μ) : J p l e rm_X6_undo s m args below meth c D Y ad (PA ad) 0 0 2 (MQ below (va_Qi K (BB D Y ad) (PA ad)) args s 0 0 (PA ad)) 22 [(0, .ref (ad 168)), (1, .int a1)] [] μ := by
  refine j_iload_n C0 1 dX6_undo_22 rfl rfl rfl ?_
  refine j_sipush C0 166 dX6_undo_23 (by decide) rfl ?_
  refine j_icmp_ge C0 (tgt := 56) dX6_undo_26 (by decide) rfl (fun c3 => ?_) (fun c3 => ?_)
  · have hX := hX.1 c3
    refine j_aload_n C0 0 dX6_undo_56 rfl rfl rfl ?_
    refine j_get6 C0 (v := .int (μ 168 9)) 9 (rfl : kd 168 = 6) fw_X6_undo_6 hw_X6_undo_0 (fun _ h9 => h9) (by decide) rfl dX6_undo_57 rfl ?_
    exact j_iret C0 hlk hret dX6_undo_60 hX
  · have hX := hX.2 c3
    refine j_aload_n C0 0 dX6_undo_29 rfl rfl rfl ?_
    refine j_get6 C0 (v := .ref (ad 169)) 0 (rfl : kd 168 = 6) fw_X6_undo_6 hw_X6_undo_1 (fun _ h9 => h9) (by decide) rfl dX6_undo_30 rfl ?_
    refine j_iload_n C0 1 dX6_undo_33 rfl rfl rfl ?_
    refine j_aload_n C0 0 dX6_undo_34 rfl rfl rfl ?_
    refine j_get6 C0 (v := .ref (ad 172)) 3 (rfl : kd 168 = 6) fw_X6_undo_6 hw_X6_undo_2 (fun _ h9 => h9) (by decide) rfl dX6_undo_35 rfl ?_
    refine j_sipush C0 166 dX6_undo_38 (by decide) rfl ?_
    refine j_aload_n C0 0 dX6_undo_41 rfl rfl rfl ?_
    refine j_get6 C0 (v := .int (μ 168 9)) 9 (rfl : kd 168 = 6) fw_X6_undo_6 hw_X6_undo_0 (fun _ h9 => h9) (by decide) rfl dX6_undo_42 rfl ?_
    refine j_imul C0 dX6_undo_45 rfl ?_
    refine j_iload_n C0 1 dX6_undo_46 rfl rfl rfl ?_
    refine j_iadd C0 dX6_undo_47 rfl ?_
    obtain ⟨h4, hX⟩ := hX
    refine j_iald C0 (n := 996) (kd_lt (rfl : kd 172 = 19) (by decide)) (ce19 (rfl : kd 172 = 19)) h4 dX6_undo_48 rfl ?_
    obtain ⟨h5, hX⟩ := hX
    refine j_iast C0 (n := 166) (kd_lt (rfl : kd 169 = 18) (by decide)) (ce18 (rfl : kd 169 = 18)) h5 dX6_undo_49 rfl ?_
    refine j_nm (fun μ6 e_μ6 => ?_)
    have hX := hX μ6 e_μ6
    obtain ⟨v7, e_v7⟩ : ∃ z : Int32, z = a1 + 1 := ⟨_, rfl⟩
    have hX := hX v7 e_v7
    refine j_iinc C0 1 v7 [(1, .int v7), (0, .ref (ad 168))] dX6_undo_50 rfl (by rw [e_v7]; rfl) (by decide) rfl rfl ?_
    refine j_goto C0 (tgt := 22) dX6_undo_53 (by decide) ?_
    exact j_sub (l' := [(0, .ref (ad 168)), (1, .int v7)]) [1, 0] rfl (hB v7 μ6  hX)
theorem w_X6_undo_L22 {p : Program} {l : Launch} {e : Env} {s : State} {m : MethodId} {args : Array Value} {below : List Frame} {meth : Method} {c : Code} {D : va_G} {Y : Nat → ClassId} {ad : Nat → Nat} (C0 : CX D Y ad (PA ad) rm_X6_undo 0 0 p s args m c cX6_undo 2 RX6 wsX6_undo) (hlk : meth.locks = false) (hret : meth.sig.returnType = (some .int)) (K : Int32 → Mem → Prop) : ∀ (n : Nat) (a1 : Int32) (μ : Mem)  (hX : x_X6_undo_L22 K n a1 μ), J p l e rm_X6_undo s m args below meth c D Y ad (PA ad) 0 0 2 (MQ below (va_Qi K (BB D Y ad) (PA ad)) args s 0 0 (PA ad)) 22 [(0, .ref (ad 168)), (1, .int a1)] [] μ
  | 0, a1, μ, hX => hX.elim
  | n + 1, a1, μ, hX => wb_X6_undo_L22 C0 hlk hret a1 μ K (x_X6_undo_L22 K n) (fun a1 μ  hx => w_X6_undo_L22 C0 hlk hret K n a1 μ  hx)  hX
def x_X6_undo  (μ : Mem) (K : Int32 → Mem → Prop) : Prop :=
  ((μ 168 9) = 0 → K (-5) μ) ∧ (¬ ((μ 168 9) = 0) → ∀ μ2 : Mem, μ2 = um μ 168 (upd (μ 168) 9 ((μ 168 9) - 1)) → ∃ n : Nat, x_X6_undo_L22 K n 0 μ2)
set_option maxRecDepth 20000 in
theorem w_X6_undo {p : Program} {l : Launch} {e : Env} {s : State} {m : MethodId} {args : Array Value} {below : List Frame} {meth : Method} {c : Code} {D : va_G} {Y : Nat → ClassId} {ad : Nat → Nat} (C0 : CX D Y ad (PA ad) rm_X6_undo 0 0 p s args m c cX6_undo 2 RX6 wsX6_undo) (hlk : meth.locks = false) (hret : meth.sig.returnType = (some .int))  (μ : Mem) (K : Int32 → Mem → Prop)  (hX : x_X6_undo  μ K) : J p l e rm_X6_undo s m args below meth c D Y ad (PA ad) 0 0 2 (MQ below (va_Qi K (BB D Y ad) (PA ad)) args s 0 0 (PA ad)) 0 [(0, .ref (ad 168))] [] μ := by
  refine j_aload_n C0 0 dX6_undo_0 rfl rfl rfl ?_
  refine j_get6 C0 (v := .int (μ 168 9)) 9 (rfl : kd 168 = 6) fw_X6_undo_6 hw_X6_undo_0 (fun _ h9 => h9) (by decide) rfl dX6_undo_1 rfl ?_
  refine j_if_ne C0 (tgt := 10) dX6_undo_4 (by decide) rfl (fun c1 => ?_) (fun c1 => ?_)
  · have hX := hX.1 c1
    refine j_bipush C0 (-5) dX6_undo_7 (by decide) rfl ?_
    exact j_iret C0 hlk hret dX6_undo_9 hX
  · have hX := hX.2 c1
    refine j_aload_n C0 0 dX6_undo_10 rfl rfl rfl ?_
    refine j_dup C0 dX6_undo_11 rfl rfl ?_
    refine j_get6 C0 (v := .int (μ 168 9)) 9 (rfl : kd 168 = 6) fw_X6_undo_6 hw_X6_undo_0 (fun _ h9 => h9) (by decide) rfl dX6_undo_12 rfl ?_
    refine j_iconst C0 1 dX6_undo_15 (by decide) rfl ?_
    refine j_isub C0 dX6_undo_16 rfl ?_
    refine j_put6_9 C0 (rfl : kd 168 = 6) fw_X6_undo_6 hw_X6_undo_0 dX6_undo_17 rfl ?_
    refine j_nm (fun μ2 e_μ2 => ?_)
    have hX := hX μ2 e_μ2
    refine j_iconst C0 0 dX6_undo_20 (by decide) rfl ?_
    refine j_istore_n C0 [(1, .int 0), (0, .ref (ad 168))] dX6_undo_21 rfl (by decide) rfl rfl ?_
    obtain ⟨n, hX⟩ := hX
    exact j_sub (l' := [(0, .ref (ad 168)), (1, .int 0)]) [1, 0] rfl (w_X6_undo_L22 C0 hlk hret K n 0 μ2  hX)
theorem c_X6_undo {l : Launch} {D : va_G} {Y : Nat → ClassId} {ad : Nat → Nat}  {μ : Mem} {K : Int32 → Mem → Prop}  (hX : x_X6_undo  μ K) : ConI l yX6_undo wsX6_undo rm_X6_undo [.ref (ad 168)] D Y ad μ K := conI_of (cc := cX6_undo) (maxL := 2) (ret := (some .int)) (own := RX6) _ (by decide +kernel) rfl rfl (Nat.le_of_ble_eq_true rfl) (fun p e s m args below meth c C0 hlk hret => j_sub (l' := [(0, .ref (ad 168))]) [0] rfl (w_X6_undo C0 hlk hret  μ K  hX))
/-! PhaseTonesModel.save(I)I -/
abbrev rm_X6_save : Room := rmf 1 22
theorem fw_X6_save_6 : ∀ w ∈ wsX60, w ∈ wsX6_save := by decide +kernel
theorem hw_X6_save_0 : Cond.fieldLink RX6 25 RX6 (TX6 5).2.1 (TX6 5).2.2.1 ∈ wsX6_save := by decide +kernel
theorem hw_X6_save_1 : Cond.fieldLink RX6 7 RX6 (TX6 0).2.1 (TX6 0).2.2.1 ∈ wsX6_save := by decide +kernel
theorem hw_X6_save_2 : Cond.fieldLink RX6 22 RX6 (TX6 4).2.1 (TX6 4).2.2.1 ∈ wsX6_save := by decide +kernel
def xb_X6_save_L14 (K : Int32 → Mem → Prop) (B : Int32 → Int32 → Mem → Prop) (a1 : Int32) (a2 : Int32) (μ : Mem) : Prop :=
  (166 ≤ a2 → vp_in a1 2 ∧ ∀ μ6 : Mem, μ6 = um μ 174 (upd (μ 174) a1.toNatClampNeg (vp_nar .boolean 1)) → K (μ6 169 1) μ6) ∧ (¬ (166 ≤ a2) → vp_in a2 166 ∧ vp_in (((166 : Int32) * a1) + a2) 332 ∧ ∀ μ9 : Mem, μ9 = um μ 173 (upd (μ 173) (((166 : Int32) * a1) + a2).toNatClampNeg (μ 169 a2.toNatClampNeg)) → ∀ v10 : Int32, v10 = a2 + 1 → B a1 v10 μ9)
def x_X6_save_L14 (K : Int32 → Mem → Prop) : Nat → Int32 → Int32 → Mem → Prop
  | 0 => fun _ _ _ => False
  | n + 1 => fun a1 a2 μ => xb_X6_save_L14 K (x_X6_save_L14 K n) a1 a2 μ
set_option maxRecDepth 20000 in
theorem wb_X6_save_L14 {p : Program} {l : Launch} {e : Env} {s : State} {m : MethodId} {args : Array Value} {below : List Frame} {meth : Method} {c : Code} {D : va_G} {Y : Nat → ClassId} {ad : Nat → Nat} (C0 : CX D Y ad (PA ad) rm_X6_save 0 0 p s args m c cX6_save 3 RX6 wsX6_save) (hlk : meth.locks = false) (hret : meth.sig.returnType = (some .int)) (a1 : Int32) (a2 : Int32) (μ : Mem) (K : Int32 → Mem → Prop) (B : Int32 → Int32 → Mem → Prop) (hB : ∀ (a1 : Int32) (a2 : Int32) (μ : Mem), B a1 a2 μ → J p l e rm_X6_save s m args below meth c D Y ad (PA ad) 0 0 3 (MQ below (va_Qi K (BB D Y ad) (PA ad)) args s 0 0 (PA ad)) 14 [(0, .ref (ad 168)), (1, .int a1), (2, .int a2)] [] μ)  (hX : xb_X6_save_L14 K B a1 a2 μ) : J p l e rm_X6_save s m args below meth c D Y ad (PA ad) 0 0 3 (MQ below (va_Qi K (BB D Y ad) (PA ad)) args s 0 0 (PA ad)) 14 [(0, .ref (ad 168)), (1, .int a1), (2, .int a2)] [] μ := by
  refine j_iload_n C0 2 dX6_save_14 rfl rfl rfl ?_
  refine j_sipush C0 166 dX6_save_15 (by decide) rfl ?_
  refine j_icmp_ge C0 (tgt := 45) dX6_save_18 (by decide) rfl (fun c4 => ?_) (fun c4 => ?_)
  · have hX := hX.1 c4
    refine j_aload_n C0 0 dX6_save_45 rfl rfl rfl ?_
    refine j_get6 C0 (v := .ref (ad 174)) 5 (rfl : kd 168 = 6) fw_X6_save_6 hw_X6_save_0 (fun _ h9 => h9) (by decide) rfl dX6_save_46 rfl ?_
    refine j_iload_n C0 1 dX6_save_49 rfl rfl rfl ?_
    refine j_iconst C0 1 dX6_save_50 (by decide) rfl ?_
    obtain ⟨h5, hX⟩ := hX
    refine j_zast C0 (n := 2) (kd_lt (rfl : kd 174 = 16) (by decide)) (ce16 (rfl : kd 174 = 16)) h5 dX6_save_51 rfl ?_
    refine j_nm (fun μ6 e_μ6 => ?_)
    have hX := hX μ6 e_μ6
    refine j_aload_n C0 0 dX6_save_52 rfl rfl rfl ?_
    refine j_get6 C0 (v := .ref (ad 169)) 0 (rfl : kd 168 = 6) fw_X6_save_6 hw_X6_save_1 (fun _ h9 => h9) (by decide) rfl dX6_save_53 rfl ?_
    refine j_iconst C0 1 dX6_save_56 (by decide) rfl ?_
    refine j_iald C0 (n := 166) (kd_lt (rfl : kd 169 = 18) (by decide)) (ce18 (rfl : kd 169 = 18)) (vp_lit (i := 1) (by decide)) dX6_save_57 rfl ?_
    refine j_val (μ6 169 1) rfl ?_
    exact j_iret C0 hlk hret dX6_save_58 hX
  · have hX := hX.2 c4
    refine j_aload_n C0 0 dX6_save_21 rfl rfl rfl ?_
    refine j_get6 C0 (v := .ref (ad 173)) 4 (rfl : kd 168 = 6) fw_X6_save_6 hw_X6_save_2 (fun _ h9 => h9) (by decide) rfl dX6_save_22 rfl ?_
    refine j_sipush C0 166 dX6_save_25 (by decide) rfl ?_
    refine j_iload_n C0 1 dX6_save_28 rfl rfl rfl ?_
    refine j_imul C0 dX6_save_29 rfl ?_
    refine j_iload_n C0 2 dX6_save_30 rfl rfl rfl ?_
    refine j_iadd C0 dX6_save_31 rfl ?_
    refine j_aload_n C0 0 dX6_save_32 rfl rfl rfl ?_
    refine j_get6 C0 (v := .ref (ad 169)) 0 (rfl : kd 168 = 6) fw_X6_save_6 hw_X6_save_1 (fun _ h9 => h9) (by decide) rfl dX6_save_33 rfl ?_
    refine j_iload_n C0 2 dX6_save_36 rfl rfl rfl ?_
    obtain ⟨h7, hX⟩ := hX
    refine j_iald C0 (n := 166) (kd_lt (rfl : kd 169 = 18) (by decide)) (ce18 (rfl : kd 169 = 18)) h7 dX6_save_37 rfl ?_
    obtain ⟨h8, hX⟩ := hX
    refine j_iast C0 (n := 332) (kd_lt (rfl : kd 173 = 20) (by decide)) (ce20 (rfl : kd 173 = 20)) h8 dX6_save_38 rfl ?_
    refine j_nm (fun μ9 e_μ9 => ?_)
    have hX := hX μ9 e_μ9
    obtain ⟨v10, e_v10⟩ : ∃ z : Int32, z = a2 + 1 := ⟨_, rfl⟩
    have hX := hX v10 e_v10
    refine j_iinc C0 2 v10 [(2, .int v10), (0, .ref (ad 168)), (1, .int a1)] dX6_save_39 rfl (by rw [e_v10]; rfl) (by decide) rfl rfl ?_
    refine j_goto C0 (tgt := 14) dX6_save_42 (by decide) ?_
    exact j_sub (l' := [(0, .ref (ad 168)), (1, .int a1), (2, .int v10)]) [1, 2, 0] rfl (hB a1 v10 μ9  hX)
theorem w_X6_save_L14 {p : Program} {l : Launch} {e : Env} {s : State} {m : MethodId} {args : Array Value} {below : List Frame} {meth : Method} {c : Code} {D : va_G} {Y : Nat → ClassId} {ad : Nat → Nat} (C0 : CX D Y ad (PA ad) rm_X6_save 0 0 p s args m c cX6_save 3 RX6 wsX6_save) (hlk : meth.locks = false) (hret : meth.sig.returnType = (some .int)) (K : Int32 → Mem → Prop) : ∀ (n : Nat) (a1 : Int32) (a2 : Int32) (μ : Mem)  (hX : x_X6_save_L14 K n a1 a2 μ), J p l e rm_X6_save s m args below meth c D Y ad (PA ad) 0 0 3 (MQ below (va_Qi K (BB D Y ad) (PA ad)) args s 0 0 (PA ad)) 14 [(0, .ref (ad 168)), (1, .int a1), (2, .int a2)] [] μ
  | 0, a1, a2, μ, hX => hX.elim
  | n + 1, a1, a2, μ, hX => wb_X6_save_L14 C0 hlk hret a1 a2 μ K (x_X6_save_L14 K n) (fun a1 a2 μ  hx => w_X6_save_L14 C0 hlk hret K n a1 a2 μ  hx)  hX
def x_X6_save (a1 : Int32) (μ : Mem) (K : Int32 → Mem → Prop) : Prop :=
  x_X6_in a1 0 1 μ (fun r2 μ1 => (r2 = 0 → K (-2) μ1) ∧ (¬ (r2 = 0) → ∃ n : Nat, x_X6_save_L14 K n a1 0 μ1))
set_option maxRecDepth 20000 in
theorem w_X6_save {p : Program} {l : Launch} {e : Env} {s : State} {m : MethodId} {args : Array Value} {below : List Frame} {meth : Method} {c : Code} {D : va_G} {Y : Nat → ClassId} {ad : Nat → Nat} (C0 : CX D Y ad (PA ad) rm_X6_save 0 0 p s args m c cX6_save 3 RX6 wsX6_save) (hlk : meth.locks = false) (hret : meth.sig.returnType = (some .int)) (a1 : Int32) (μ : Mem) (K : Int32 → Mem → Prop)  (hX : x_X6_save a1 μ K) : J p l e rm_X6_save s m args below meth c D Y ad (PA ad) 0 0 3 (MQ below (va_Qi K (BB D Y ad) (PA ad)) args s 0 0 (PA ad)) 0 [(0, .ref (ad 168)), (1, .int a1)] [] μ := by
  refine j_iload_n C0 1 dX6_save_0 rfl rfl rfl ?_
  refine j_iconst C0 0 dX6_save_1 (by decide) rfl ?_
  refine j_iconst C0 1 dX6_save_2 (by decide) rfl ?_
  refine j_callSi C0 3 [.int a1, .int 0, .int 1] (c_X6_in a1 0 1  hX) dX6_save_3 gX6_save_X6_in rfl (by decide +kernel) ⟨⟨Nat.le_of_ble_eq_true rfl, Nat.le_of_ble_eq_true rfl⟩, rfl, rfl⟩ rfl rfl (Nat.le_of_ble_eq_true rfl) rfl (fun r2 μ1 hX => ?_)
  refine j_if_ne C0 (tgt := 12) dX6_save_6 (by decide) rfl (fun c3 => ?_) (fun c3 => ?_)
  · have hX := hX.1 c3
    refine j_bipush C0 (-2) dX6_save_9 (by decide) rfl ?_
    exact j_iret C0 hlk hret dX6_save_11 hX
  · have hX := hX.2 c3
    refine j_iconst C0 0 dX6_save_12 (by decide) rfl ?_
    refine j_istore_n C0 [(2, .int 0), (0, .ref (ad 168)), (1, .int a1)] dX6_save_13 rfl (by decide) rfl rfl ?_
    obtain ⟨n, hX⟩ := hX
    exact j_sub (l' := [(0, .ref (ad 168)), (1, .int a1), (2, .int 0)]) [1, 2, 0] rfl (w_X6_save_L14 C0 hlk hret K n a1 0 μ1  hX)
theorem c_X6_save {l : Launch} {D : va_G} {Y : Nat → ClassId} {ad : Nat → Nat} (a1 : Int32) {μ : Mem} {K : Int32 → Mem → Prop}  (hX : x_X6_save a1 μ K) : ConI l yX6_save wsX6_save rm_X6_save [.ref (ad 168), .int a1] D Y ad μ K := conI_of (cc := cX6_save) (maxL := 3) (ret := (some .int)) (own := RX6) _ (by decide +kernel) rfl rfl (Nat.le_of_ble_eq_true rfl) (fun p e s m args below meth c C0 hlk hret => j_sub (l' := [(0, .ref (ad 168)), (1, .int a1)]) [0, 1] rfl (w_X6_save C0 hlk hret a1 μ K  hX))
/-! PhaseTonesModel.restore(I)I -/
abbrev rm_X6_restore : Room := rmf 1 22
theorem fw_X6_restore_6 : ∀ w ∈ wsX60, w ∈ wsX6_restore := by decide +kernel
theorem hw_X6_restore_0 : Cond.fieldLink RX6 25 RX6 (TX6 5).2.1 (TX6 5).2.2.1 ∈ wsX6_restore := by decide +kernel
theorem hw_X6_restore_1 : Cond.fieldLink RX6 7 RX6 (TX6 0).2.1 (TX6 0).2.2.1 ∈ wsX6_restore := by decide +kernel
theorem hw_X6_restore_2 : Cond.fieldLink RX6 22 RX6 (TX6 4).2.1 (TX6 4).2.2.1 ∈ wsX6_restore := by decide +kernel
def xb_X6_restore_L30 (K : Int32 → Mem → Prop) (B : Int32 → Int32 → Mem → Prop) (a1 : Int32) (a2 : Int32) (μ : Mem) : Prop :=
  (166 ≤ a2 → x_X6_recorded (μ 169 1) μ (fun r9 μ8 => K r9 μ8)) ∧ (¬ (166 ≤ a2) → vp_in (((166 : Int32) * a1) + a2) 332 ∧ vp_in a2 166 ∧ ∀ μ12 : Mem, μ12 = um μ 169 (upd (μ 169) a2.toNatClampNeg (μ 173 (((166 : Int32) * a1) + a2).toNatClampNeg)) → ∀ v13 : Int32, v13 = a2 + 1 → B a1 v13 μ12)
def x_X6_restore_L30 (K : Int32 → Mem → Prop) : Nat → Int32 → Int32 → Mem → Prop
  | 0 => fun _ _ _ => False
  | n + 1 => fun a1 a2 μ => xb_X6_restore_L30 K (x_X6_restore_L30 K n) a1 a2 μ
set_option maxRecDepth 20000 in
theorem wb_X6_restore_L30 {p : Program} {l : Launch} {e : Env} {s : State} {m : MethodId} {args : Array Value} {below : List Frame} {meth : Method} {c : Code} {D : va_G} {Y : Nat → ClassId} {ad : Nat → Nat} (C0 : CX D Y ad (PA ad) rm_X6_restore 0 0 p s args m c cX6_restore 3 RX6 wsX6_restore) (hlk : meth.locks = false) (hret : meth.sig.returnType = (some .int)) (a1 : Int32) (a2 : Int32) (μ : Mem) (K : Int32 → Mem → Prop) (B : Int32 → Int32 → Mem → Prop) (hB : ∀ (a1 : Int32) (a2 : Int32) (μ : Mem), B a1 a2 μ → J p l e rm_X6_restore s m args below meth c D Y ad (PA ad) 0 0 3 (MQ below (va_Qi K (BB D Y ad) (PA ad)) args s 0 0 (PA ad)) 30 [(0, .ref (ad 168)), (1, .int a1), (2, .int a2)] [] μ)  (hX : xb_X6_restore_L30 K B a1 a2 μ) : J p l e rm_X6_restore s m args below meth c D Y ad (PA ad) 0 0 3 (MQ below (va_Qi K (BB D Y ad) (PA ad)) args s 0 0 (PA ad)) 30 [(0, .ref (ad 168)), (1, .int a1), (2, .int a2)] [] μ := by
  refine j_iload_n C0 2 dX6_restore_30 rfl rfl rfl ?_
  refine j_sipush C0 166 dX6_restore_31 (by decide) rfl ?_
  refine j_icmp_ge C0 (tgt := 61) dX6_restore_34 (by decide) rfl (fun c7 => ?_) (fun c7 => ?_)
  · have hX := hX.1 c7
    refine j_aload_n C0 0 dX6_restore_61 rfl rfl rfl ?_
    refine j_aload_n C0 0 dX6_restore_62 rfl rfl rfl ?_
    refine j_get6 C0 (v := .ref (ad 169)) 0 (rfl : kd 168 = 6) fw_X6_restore_6 hw_X6_restore_1 (fun _ h9 => h9) (by decide) rfl dX6_restore_63 rfl ?_
    refine j_iconst C0 1 dX6_restore_66 (by decide) rfl ?_
    refine j_iald C0 (n := 166) (kd_lt (rfl : kd 169 = 18) (by decide)) (ce18 (rfl : kd 169 = 18)) (vp_lit (i := 1) (by decide)) dX6_restore_67 rfl ?_
    refine j_val (μ 169 1) rfl ?_
    refine j_callVi C0 1 [.int (μ 169 1)] (c_X6_recorded (μ 169 1)  hX) dX6_restore_68 gX6_restore_X6_recorded rfl (by decide +kernel) ⟨⟨Nat.le_of_ble_eq_true rfl, Nat.le_of_ble_eq_true rfl⟩, rfl, rfl⟩ (kd_lt (rfl : kd 168 = 6) (by decide)) (ce6 (rfl : kd 168 = 6)) rfl rfl rfl (Nat.le_of_ble_eq_true rfl) rfl (fun r9 μ8 hX => ?_)
    exact j_iret C0 hlk hret dX6_restore_71 hX
  · have hX := hX.2 c7
    refine j_aload_n C0 0 dX6_restore_37 rfl rfl rfl ?_
    refine j_get6 C0 (v := .ref (ad 169)) 0 (rfl : kd 168 = 6) fw_X6_restore_6 hw_X6_restore_1 (fun _ h9 => h9) (by decide) rfl dX6_restore_38 rfl ?_
    refine j_iload_n C0 2 dX6_restore_41 rfl rfl rfl ?_
    refine j_aload_n C0 0 dX6_restore_42 rfl rfl rfl ?_
    refine j_get6 C0 (v := .ref (ad 173)) 4 (rfl : kd 168 = 6) fw_X6_restore_6 hw_X6_restore_2 (fun _ h9 => h9) (by decide) rfl dX6_restore_43 rfl ?_
    refine j_sipush C0 166 dX6_restore_46 (by decide) rfl ?_
    refine j_iload_n C0 1 dX6_restore_49 rfl rfl rfl ?_
    refine j_imul C0 dX6_restore_50 rfl ?_
    refine j_iload_n C0 2 dX6_restore_51 rfl rfl rfl ?_
    refine j_iadd C0 dX6_restore_52 rfl ?_
    obtain ⟨h10, hX⟩ := hX
    refine j_iald C0 (n := 332) (kd_lt (rfl : kd 173 = 20) (by decide)) (ce20 (rfl : kd 173 = 20)) h10 dX6_restore_53 rfl ?_
    obtain ⟨h11, hX⟩ := hX
    refine j_iast C0 (n := 166) (kd_lt (rfl : kd 169 = 18) (by decide)) (ce18 (rfl : kd 169 = 18)) h11 dX6_restore_54 rfl ?_
    refine j_nm (fun μ12 e_μ12 => ?_)
    have hX := hX μ12 e_μ12
    obtain ⟨v13, e_v13⟩ : ∃ z : Int32, z = a2 + 1 := ⟨_, rfl⟩
    have hX := hX v13 e_v13
    refine j_iinc C0 2 v13 [(2, .int v13), (0, .ref (ad 168)), (1, .int a1)] dX6_restore_55 rfl (by rw [e_v13]; rfl) (by decide) rfl rfl ?_
    refine j_goto C0 (tgt := 30) dX6_restore_58 (by decide) ?_
    exact j_sub (l' := [(0, .ref (ad 168)), (1, .int a1), (2, .int v13)]) [1, 2, 0] rfl (hB a1 v13 μ12  hX)
theorem w_X6_restore_L30 {p : Program} {l : Launch} {e : Env} {s : State} {m : MethodId} {args : Array Value} {below : List Frame} {meth : Method} {c : Code} {D : va_G} {Y : Nat → ClassId} {ad : Nat → Nat} (C0 : CX D Y ad (PA ad) rm_X6_restore 0 0 p s args m c cX6_restore 3 RX6 wsX6_restore) (hlk : meth.locks = false) (hret : meth.sig.returnType = (some .int)) (K : Int32 → Mem → Prop) : ∀ (n : Nat) (a1 : Int32) (a2 : Int32) (μ : Mem)  (hX : x_X6_restore_L30 K n a1 a2 μ), J p l e rm_X6_restore s m args below meth c D Y ad (PA ad) 0 0 3 (MQ below (va_Qi K (BB D Y ad) (PA ad)) args s 0 0 (PA ad)) 30 [(0, .ref (ad 168)), (1, .int a1), (2, .int a2)] [] μ
  | 0, a1, a2, μ, hX => hX.elim
  | n + 1, a1, a2, μ, hX => wb_X6_restore_L30 C0 hlk hret a1 a2 μ K (x_X6_restore_L30 K n) (fun a1 a2 μ  hx => w_X6_restore_L30 C0 hlk hret K n a1 a2 μ  hx)  hX
def x_X6_restore (a1 : Int32) (μ : Mem) (K : Int32 → Mem → Prop) : Prop :=
  x_X6_in a1 0 1 μ (fun r2 μ1 => (r2 = 0 → K (-2) μ1) ∧ (¬ (r2 = 0) → vp_in a1 2 ∧ ((μ1 174 a1.toNatClampNeg) = 0 → K (-5) μ1) ∧ (¬ ((μ1 174 a1.toNatClampNeg) = 0) → x_X6_hold  μ1 (fun μ6 => ∃ n : Nat, x_X6_restore_L30 K n a1 0 μ6))))
set_option maxRecDepth 20000 in
theorem w_X6_restore {p : Program} {l : Launch} {e : Env} {s : State} {m : MethodId} {args : Array Value} {below : List Frame} {meth : Method} {c : Code} {D : va_G} {Y : Nat → ClassId} {ad : Nat → Nat} (C0 : CX D Y ad (PA ad) rm_X6_restore 0 0 p s args m c cX6_restore 3 RX6 wsX6_restore) (hlk : meth.locks = false) (hret : meth.sig.returnType = (some .int)) (a1 : Int32) (μ : Mem) (K : Int32 → Mem → Prop)  (hX : x_X6_restore a1 μ K) : J p l e rm_X6_restore s m args below meth c D Y ad (PA ad) 0 0 3 (MQ below (va_Qi K (BB D Y ad) (PA ad)) args s 0 0 (PA ad)) 0 [(0, .ref (ad 168)), (1, .int a1)] [] μ := by
  refine j_iload_n C0 1 dX6_restore_0 rfl rfl rfl ?_
  refine j_iconst C0 0 dX6_restore_1 (by decide) rfl ?_
  refine j_iconst C0 1 dX6_restore_2 (by decide) rfl ?_
  refine j_callSi C0 3 [.int a1, .int 0, .int 1] (c_X6_in a1 0 1  hX) dX6_restore_3 gX6_restore_X6_in rfl (by decide +kernel) ⟨⟨Nat.le_of_ble_eq_true rfl, Nat.le_of_ble_eq_true rfl⟩, rfl, rfl⟩ rfl rfl (Nat.le_of_ble_eq_true rfl) rfl (fun r2 μ1 hX => ?_)
  refine j_if_ne C0 (tgt := 12) dX6_restore_6 (by decide) rfl (fun c3 => ?_) (fun c3 => ?_)
  · have hX := hX.1 c3
    refine j_bipush C0 (-2) dX6_restore_9 (by decide) rfl ?_
    exact j_iret C0 hlk hret dX6_restore_11 hX
  · have hX := hX.2 c3
    refine j_aload_n C0 0 dX6_restore_12 rfl rfl rfl ?_
    refine j_get6 C0 (v := .ref (ad 174)) 5 (rfl : kd 168 = 6) fw_X6_restore_6 hw_X6_restore_0 (fun _ h9 => h9) (by decide) rfl dX6_restore_13 rfl ?_
    refine j_iload_n C0 1 dX6_restore_16 rfl rfl rfl ?_
    obtain ⟨h4, hX⟩ := hX
    refine j_zald C0 (n := 2) (kd_lt (rfl : kd 174 = 16) (by decide)) (ce16 (rfl : kd 174 = 16)) h4 dX6_restore_17 rfl ?_
    refine j_if_ne C0 (tgt := 24) dX6_restore_18 (by decide) rfl (fun c5 => ?_) (fun c5 => ?_)
    · have hX := hX.1 c5
      refine j_bipush C0 (-5) dX6_restore_21 (by decide) rfl ?_
      exact j_iret C0 hlk hret dX6_restore_23 hX
    · have hX := hX.2 c5
      refine j_aload_n C0 0 dX6_restore_24 rfl rfl rfl ?_
      refine j_callVv C0 0 [] (c_X6_hold   hX) dX6_restore_25 gX6_restore_X6_hold rfl (by decide +kernel) ⟨⟨Nat.le_of_ble_eq_true rfl, Nat.le_of_ble_eq_true rfl⟩, rfl, rfl⟩ (kd_lt (rfl : kd 168 = 6) (by decide)) (ce6 (rfl : kd 168 = 6)) rfl rfl rfl (Nat.le_of_ble_eq_true rfl) rfl (fun μ6 hX => ?_)
      refine j_iconst C0 0 dX6_restore_28 (by decide) rfl ?_
      refine j_istore_n C0 [(2, .int 0), (0, .ref (ad 168)), (1, .int a1)] dX6_restore_29 rfl (by decide) rfl rfl ?_
      obtain ⟨n, hX⟩ := hX
      exact j_sub (l' := [(0, .ref (ad 168)), (1, .int a1), (2, .int 0)]) [1, 2, 0] rfl (w_X6_restore_L30 C0 hlk hret K n a1 0 μ6  hX)
theorem c_X6_restore {l : Launch} {D : va_G} {Y : Nat → ClassId} {ad : Nat → Nat} (a1 : Int32) {μ : Mem} {K : Int32 → Mem → Prop}  (hX : x_X6_restore a1 μ K) : ConI l yX6_restore wsX6_restore rm_X6_restore [.ref (ad 168), .int a1] D Y ad μ K := conI_of (cc := cX6_restore) (maxL := 3) (ret := (some .int)) (own := RX6) _ (by decide +kernel) rfl rfl (Nat.le_of_ble_eq_true rfl) (fun p e s m args below meth c C0 hlk hret => j_sub (l' := [(0, .ref (ad 168)), (1, .int a1)]) [0, 1] rfl (w_X6_restore C0 hlk hret a1 μ K  hX))
