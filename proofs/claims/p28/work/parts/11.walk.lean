/-! PhaseTones.clip(I)I -/
abbrev rm_X5_clip : Room := rmf 4 84
theorem fw_X5_clip_3 : ∀ w ∈ wsX30, w ∈ wsX5_clip := by decide +kernel
theorem fw_X5_clip_5 : ∀ w ∈ wsX50, w ∈ wsX5_clip := by decide +kernel
theorem hw_X5_clip_0 : Cond.fieldLink RX5 22 RX5 (TX5 2).2.1 (TX5 2).2.2.1 ∈ wsX5_clip := by decide +kernel
theorem hw_X5_clip_1 : Cond.fieldLink RX5 10 RX5 (TX5 0).2.1 (TX5 0).2.2.1 ∈ wsX5_clip := by decide +kernel
theorem hw_X5_clip_2 : Cond.fieldLink RX5 48 RX3 (TX3 0).2.1 (TX3 0).2.2.1 ∈ wsX5_clip := by decide +kernel
def x_X5_clip (a1 : Int32) (μ : Mem) (K : Int32 → Mem → Prop) : Prop :=
  x_X5_isOutside a1 1 960 μ (fun r2 μ1 => (r2 = 0 → x_X0_keep 1 μ1 (fun μ4 => ∀ v5 : Int32, v5 = (μ4 1 0) → ∀ μ6 : Mem, μ6 = um μ4 1 (upd (μ4 1) 0 a1) → K v5 μ6)) ∧ (¬ (r2 = 0) → K (-2) μ1))
set_option maxRecDepth 20000 in
theorem w_X5_clip {p : Program} {l : Launch} {e : Env} {s : State} {m : MethodId} {args : Array Value} {below : List Frame} {meth : Method} {c : Code} {D : va_G} {Y : Nat → ClassId} {ad : Nat → Nat} (C0 : CX D Y ad (PA ad) rm_X5_clip 0 0 p s args m c cX5_clip 3 RX5 wsX5_clip) (hlk : meth.locks = false) (hret : meth.sig.returnType = (some .int)) (a1 : Int32) (μ : Mem) (K : Int32 → Mem → Prop)  (hX : x_X5_clip a1 μ K) : J p l e rm_X5_clip s m args below meth c D Y ad (PA ad) 0 0 3 (MQ below (va_Qi K (BB D Y ad) (PA ad)) args s 0 0 (PA ad)) 0 [(0, .ref (ad 0)), (1, .int a1)] [] μ := by
  refine j_iload_n C0 1 dX5_clip_0 rfl rfl rfl ?_
  refine j_iconst C0 1 dX5_clip_1 (by decide) rfl ?_
  refine j_sipush C0 960 dX5_clip_2 (by decide) rfl ?_
  refine j_callSi C0 3 [.int a1, .int 1, .int 960] (c_X5_isOutside a1 1 960  hX) dX5_clip_5 gX5_clip_X5_isOutside rfl (by decide +kernel) ⟨⟨Nat.le_of_ble_eq_true rfl, Nat.le_of_ble_eq_true rfl⟩, rfl, rfl⟩ rfl rfl (Nat.le_of_ble_eq_true rfl) rfl (fun r2 μ1 hX => ?_)
  refine j_if_eq C0 (tgt := 14) dX5_clip_8 (by decide) rfl (fun c3 => ?_) (fun c3 => ?_)
  · have hX := hX.1 c3
    refine j_aload_n C0 0 dX5_clip_14 rfl rfl rfl ?_
    refine j_get5 C0 (v := .ref (ad 33)) 2 (rfl : kd 0 = 5) fw_X5_clip_5 hw_X5_clip_0 (fun _ h9 => h9) (by decide) rfl dX5_clip_15 rfl ?_
    refine j_aload_n C0 0 dX5_clip_18 rfl rfl rfl ?_
    refine j_get5 C0 (v := .ref (ad 1)) 0 (rfl : kd 0 = 5) fw_X5_clip_5 hw_X5_clip_1 (fun _ h9 => h9) (by decide) rfl dX5_clip_19 rfl ?_
    refine j_callVv C0 1 [.ref (ad 1)] (c_X0_keep 1 (rfl : kd 1 = 3) hX) dX5_clip_22 gX5_clip_X0_keep rfl (by decide +kernel) ⟨⟨Nat.le_of_ble_eq_true rfl, Nat.le_of_ble_eq_true rfl⟩, rfl, rfl⟩ (kd_lt (rfl : kd 33 = 0) (by decide)) (ce0 (rfl : kd 33 = 0)) rfl rfl rfl (Nat.le_of_ble_eq_true rfl) rfl (fun μ4 hX => ?_)
    refine j_aload_n C0 0 dX5_clip_25 rfl rfl rfl ?_
    refine j_get5 C0 (v := .ref (ad 1)) 0 (rfl : kd 0 = 5) fw_X5_clip_5 hw_X5_clip_1 (fun _ h9 => h9) (by decide) rfl dX5_clip_26 rfl ?_
    refine j_get3 C0 (v := .int (μ4 1 0)) 0 (rfl : kd 1 = 3) fw_X5_clip_3 hw_X5_clip_2 (fun _ h9 => h9) (by decide) rfl dX5_clip_29 rfl ?_
    refine j_topi (fun v5 e_v5 => ?_)
    have hX := hX v5 e_v5
    refine j_istore_n C0 [(2, .int v5), (0, .ref (ad 0)), (1, .int a1)] dX5_clip_32 rfl (by decide) rfl rfl ?_
    refine j_aload_n C0 1 dX5_clip_33 rfl rfl rfl ?_
    refine j_get5 C0 (v := .ref (ad 1)) 0 (rfl : kd 0 = 5) fw_X5_clip_5 hw_X5_clip_1 (fun _ h9 => h9) (by decide) rfl dX5_clip_34 rfl ?_
    refine j_iload_n C0 2 dX5_clip_37 rfl rfl rfl ?_
    refine j_put3_0 C0 (rfl : kd 1 = 3) fw_X5_clip_3 hw_X5_clip_2 dX5_clip_38 rfl ?_
    refine j_nm (fun μ6 e_μ6 => ?_)
    have hX := hX μ6 e_μ6
    refine j_iload_n C0 0 dX5_clip_41 rfl rfl rfl ?_
    exact j_iret C0 hlk hret dX5_clip_42 hX
  · have hX := hX.2 c3
    refine j_bipush C0 (-2) dX5_clip_11 (by decide) rfl ?_
    exact j_iret C0 hlk hret dX5_clip_13 hX
theorem c_X5_clip {l : Launch} {D : va_G} {Y : Nat → ClassId} {ad : Nat → Nat} (a1 : Int32) {μ : Mem} {K : Int32 → Mem → Prop}  (hX : x_X5_clip a1 μ K) : ConI l yX5_clip wsX5_clip rm_X5_clip [.ref (ad 0), .int a1] D Y ad μ K := conI_of (cc := cX5_clip) (maxL := 3) (ret := (some .int)) (own := RX5) _ (by decide +kernel) rfl rfl (Nat.le_of_ble_eq_true rfl) (fun p e s m args below meth c C0 hlk hret => j_sub (l' := [(0, .ref (ad 0)), (1, .int a1)]) [0, 1] rfl (w_X5_clip C0 hlk hret a1 μ K  hX))
/-! PhaseTones.isNoTable(I)Z -/
abbrev rm_X5_isNoTable : Room := rmf 1 22
def x_X5_isNoTable (a0 : Int32) (μ : Mem) (K : Int32 → Mem → Prop) : Prop :=
  x_X5_isOutside a0 0 3 μ (fun r2 μ1 => zb r2 ∧ K r2 μ1)
set_option maxRecDepth 20000 in
theorem w_X5_isNoTable {p : Program} {l : Launch} {e : Env} {s : State} {m : MethodId} {args : Array Value} {below : List Frame} {meth : Method} {c : Code} {D : va_G} {Y : Nat → ClassId} {ad : Nat → Nat} (C0 : CX D Y ad (PA ad) rm_X5_isNoTable 0 0 p s args m c cX5_isNoTable 1 RX5 wsX5_isNoTable) (hlk : meth.locks = false) (hret : meth.sig.returnType = (some .boolean)) (a0 : Int32) (μ : Mem) (K : Int32 → Mem → Prop)  (hX : x_X5_isNoTable a0 μ K) : J p l e rm_X5_isNoTable s m args below meth c D Y ad (PA ad) 0 0 1 (MQ below (va_Qi K (BB D Y ad) (PA ad)) args s 0 0 (PA ad)) 0 [(0, .int a0)] [] μ := by
  refine j_iload_n C0 0 dX5_isNoTable_0 rfl rfl rfl ?_
  refine j_iconst C0 0 dX5_isNoTable_1 (by decide) rfl ?_
  refine j_iconst C0 3 dX5_isNoTable_2 (by decide) rfl ?_
  refine j_callSi C0 3 [.int a0, .int 0, .int 3] (c_X5_isOutside a0 0 3  hX) dX5_isNoTable_3 gX5_isNoTable_X5_isOutside rfl (by decide +kernel) ⟨⟨Nat.le_of_ble_eq_true rfl, Nat.le_of_ble_eq_true rfl⟩, rfl, rfl⟩ rfl rfl (Nat.le_of_ble_eq_true rfl) rfl (fun r2 μ1 hX => ?_)
  exact j_zret C0 hlk hret dX5_isNoTable_6 hX.1 hX.2
theorem c_X5_isNoTable {l : Launch} {D : va_G} {Y : Nat → ClassId} {ad : Nat → Nat} (a0 : Int32) {μ : Mem} {K : Int32 → Mem → Prop}  (hX : x_X5_isNoTable a0 μ K) : ConI l yX5_isNoTable wsX5_isNoTable rm_X5_isNoTable [.int a0] D Y ad μ K := conI_of (cc := cX5_isNoTable) (maxL := 1) (ret := (some .boolean)) (own := RX5) _ (by decide +kernel) rfl rfl (Nat.le_of_ble_eq_true rfl) (fun p e s m args below meth c C0 hlk hret => j_sub (l' := [(0, .int a0)]) [0] rfl (w_X5_isNoTable C0 hlk hret a0 μ K  hX))
/-! PhaseTones.isNoPlace(I)Z -/
abbrev rm_X5_isNoPlace : Room := rmf 1 22
def x_X5_isNoPlace (a0 : Int32) (μ : Mem) (K : Int32 → Mem → Prop) : Prop :=
  x_X5_isOutside a0 0 15 μ (fun r2 μ1 => zb r2 ∧ K r2 μ1)
set_option maxRecDepth 20000 in
theorem w_X5_isNoPlace {p : Program} {l : Launch} {e : Env} {s : State} {m : MethodId} {args : Array Value} {below : List Frame} {meth : Method} {c : Code} {D : va_G} {Y : Nat → ClassId} {ad : Nat → Nat} (C0 : CX D Y ad (PA ad) rm_X5_isNoPlace 0 0 p s args m c cX5_isNoPlace 1 RX5 wsX5_isNoPlace) (hlk : meth.locks = false) (hret : meth.sig.returnType = (some .boolean)) (a0 : Int32) (μ : Mem) (K : Int32 → Mem → Prop)  (hX : x_X5_isNoPlace a0 μ K) : J p l e rm_X5_isNoPlace s m args below meth c D Y ad (PA ad) 0 0 1 (MQ below (va_Qi K (BB D Y ad) (PA ad)) args s 0 0 (PA ad)) 0 [(0, .int a0)] [] μ := by
  refine j_iload_n C0 0 dX5_isNoPlace_0 rfl rfl rfl ?_
  refine j_iconst C0 0 dX5_isNoPlace_1 (by decide) rfl ?_
  refine j_bipush C0 15 dX5_isNoPlace_2 (by decide) rfl ?_
  refine j_callSi C0 3 [.int a0, .int 0, .int 15] (c_X5_isOutside a0 0 15  hX) dX5_isNoPlace_4 gX5_isNoPlace_X5_isOutside rfl (by decide +kernel) ⟨⟨Nat.le_of_ble_eq_true rfl, Nat.le_of_ble_eq_true rfl⟩, rfl, rfl⟩ rfl rfl (Nat.le_of_ble_eq_true rfl) rfl (fun r2 μ1 hX => ?_)
  exact j_zret C0 hlk hret dX5_isNoPlace_7 hX.1 hX.2
theorem c_X5_isNoPlace {l : Launch} {D : va_G} {Y : Nat → ClassId} {ad : Nat → Nat} (a0 : Int32) {μ : Mem} {K : Int32 → Mem → Prop}  (hX : x_X5_isNoPlace a0 μ K) : ConI l yX5_isNoPlace wsX5_isNoPlace rm_X5_isNoPlace [.int a0] D Y ad μ K := conI_of (cc := cX5_isNoPlace) (maxL := 1) (ret := (some .boolean)) (own := RX5) _ (by decide +kernel) rfl rfl (Nat.le_of_ble_eq_true rfl) (fun p e s m args below meth c C0 hlk hret => j_sub (l' := [(0, .int a0)]) [0] rfl (w_X5_isNoPlace C0 hlk hret a0 μ K  hX))
/-! PhaseTones.fill(III)I -/
abbrev rm_X5_fill : Room := rmf 4 84
theorem fw_X5_fill_3 : ∀ w ∈ wsX30, w ∈ wsX5_fill := by decide +kernel
theorem fw_X5_fill_5 : ∀ w ∈ wsX50, w ∈ wsX5_fill := by decide +kernel
theorem hw_X5_fill_0 : Cond.fieldLink RX5 22 RX5 (TX5 2).2.1 (TX5 2).2.2.1 ∈ wsX5_fill := by decide +kernel
theorem hw_X5_fill_1 : Cond.fieldLink RX5 10 RX5 (TX5 0).2.1 (TX5 0).2.2.1 ∈ wsX5_fill := by decide +kernel
theorem hw_X5_fill_2 : Cond.fieldLink RX5 59 RX3 (TX3 1).2.1 (TX3 1).2.2.1 ∈ wsX5_fill := by decide +kernel
def x_X5_fill (a1 : Int32) (a2 : Int32) (a3 : Int32) (μ : Mem) (K : Int32 → Mem → Prop) : Prop :=
  x_X5_isNoTable a1 μ (fun r2 μ1 => (r2 = 0 → x_X5_isNoPlace a2 μ1 (fun r5 μ4 => (r5 = 0 → x_X5_isOutside a3 0 15 μ4 (fun r8 μ7 => (r8 = 0 → x_X0_keep 1 μ7 (fun μ10 => ∀ v11 : Int32, v11 = ((a1 * 16) + a2) → vp_in v11 64 ∧ ∀ v13 : Int32, v13 = (μ10 2 v11.toNatClampNeg) → vp_in v11 64 ∧ ∀ μ15 : Mem, μ15 = um μ10 2 (upd (μ10 2) v11.toNatClampNeg a3) → K v13 μ15)) ∧ (¬ (r8 = 0) → K (-2) μ7))) ∧ (¬ (r5 = 0) → K (-1) μ4))) ∧ (¬ (r2 = 0) → K (-1) μ1))
set_option maxRecDepth 20000 in
theorem w_X5_fill {p : Program} {l : Launch} {e : Env} {s : State} {m : MethodId} {args : Array Value} {below : List Frame} {meth : Method} {c : Code} {D : va_G} {Y : Nat → ClassId} {ad : Nat → Nat} (C0 : CX D Y ad (PA ad) rm_X5_fill 0 0 p s args m c cX5_fill 6 RX5 wsX5_fill) (hlk : meth.locks = false) (hret : meth.sig.returnType = (some .int)) (a1 : Int32) (a2 : Int32) (a3 : Int32) (μ : Mem) (K : Int32 → Mem → Prop)  (hX : x_X5_fill a1 a2 a3 μ K) : J p l e rm_X5_fill s m args below meth c D Y ad (PA ad) 0 0 6 (MQ below (va_Qi K (BB D Y ad) (PA ad)) args s 0 0 (PA ad)) 0 [(0, .ref (ad 0)), (1, .int a1), (2, .int a2), (3, .int a3)] [] μ := by
  refine j_iload_n C0 1 dX5_fill_0 rfl rfl rfl ?_
  refine j_callSi C0 1 [.int a1] (c_X5_isNoTable a1  hX) dX5_fill_1 gX5_fill_X5_isNoTable rfl (by decide +kernel) ⟨⟨Nat.le_of_ble_eq_true rfl, Nat.le_of_ble_eq_true rfl⟩, rfl, rfl⟩ rfl rfl (Nat.le_of_ble_eq_true rfl) rfl (fun r2 μ1 hX => ?_)
  refine j_if_ne C0 (tgt := 14) dX5_fill_4 (by decide) rfl (fun c3 => ?_) (fun c3 => ?_)
  · have hX := hX.1 c3
    refine j_iload_n C0 2 dX5_fill_7 rfl rfl rfl ?_
    refine j_callSi C0 1 [.int a2] (c_X5_isNoPlace a2  hX) dX5_fill_8 gX5_fill_X5_isNoPlace rfl (by decide +kernel) ⟨⟨Nat.le_of_ble_eq_true rfl, Nat.le_of_ble_eq_true rfl⟩, rfl, rfl⟩ rfl rfl (Nat.le_of_ble_eq_true rfl) rfl (fun r5 μ4 hX => ?_)
    refine j_if_eq C0 (tgt := 16) dX5_fill_11 (by decide) rfl (fun c6 => ?_) (fun c6 => ?_)
    · have hX := hX.1 c6
      refine j_iload_n C0 3 dX5_fill_16 rfl rfl rfl ?_
      refine j_iconst C0 0 dX5_fill_17 (by decide) rfl ?_
      refine j_bipush C0 15 dX5_fill_18 (by decide) rfl ?_
      refine j_callSi C0 3 [.int a3, .int 0, .int 15] (c_X5_isOutside a3 0 15  hX) dX5_fill_20 gX5_fill_X5_isOutside rfl (by decide +kernel) ⟨⟨Nat.le_of_ble_eq_true rfl, Nat.le_of_ble_eq_true rfl⟩, rfl, rfl⟩ rfl rfl (Nat.le_of_ble_eq_true rfl) rfl (fun r8 μ7 hX => ?_)
      refine j_if_eq C0 (tgt := 29) dX5_fill_23 (by decide) rfl (fun c9 => ?_) (fun c9 => ?_)
      · have hX := hX.1 c9
        refine j_aload_n C0 0 dX5_fill_29 rfl rfl rfl ?_
        refine j_get5 C0 (v := .ref (ad 33)) 2 (rfl : kd 0 = 5) fw_X5_fill_5 hw_X5_fill_0 (fun _ h9 => h9) (by decide) rfl dX5_fill_30 rfl ?_
        refine j_aload_n C0 0 dX5_fill_33 rfl rfl rfl ?_
        refine j_get5 C0 (v := .ref (ad 1)) 0 (rfl : kd 0 = 5) fw_X5_fill_5 hw_X5_fill_1 (fun _ h9 => h9) (by decide) rfl dX5_fill_34 rfl ?_
        refine j_callVv C0 1 [.ref (ad 1)] (c_X0_keep 1 (rfl : kd 1 = 3) hX) dX5_fill_37 gX5_fill_X0_keep rfl (by decide +kernel) ⟨⟨Nat.le_of_ble_eq_true rfl, Nat.le_of_ble_eq_true rfl⟩, rfl, rfl⟩ (kd_lt (rfl : kd 33 = 0) (by decide)) (ce0 (rfl : kd 33 = 0)) rfl rfl rfl (Nat.le_of_ble_eq_true rfl) rfl (fun μ10 hX => ?_)
        refine j_iload_n C0 1 dX5_fill_40 rfl rfl rfl ?_
        refine j_bipush C0 16 dX5_fill_41 (by decide) rfl ?_
        refine j_imul C0 dX5_fill_43 rfl ?_
        refine j_iload_n C0 2 dX5_fill_44 rfl rfl rfl ?_
        refine j_iadd C0 dX5_fill_45 rfl ?_
        refine j_topi (fun v11 e_v11 => ?_)
        have hX := hX v11 e_v11
        refine j_istore C0 [(4, .int v11), (0, .ref (ad 0)), (1, .int a1), (2, .int a2), (3, .int a3)] dX5_fill_46 (by decide) rfl rfl ?_
        refine j_aload_n C0 1 dX5_fill_48 rfl rfl rfl ?_
        refine j_get5 C0 (v := .ref (ad 1)) 0 (rfl : kd 0 = 5) fw_X5_fill_5 hw_X5_fill_1 (fun _ h9 => h9) (by decide) rfl dX5_fill_49 rfl ?_
        refine j_get3 C0 (v := .ref (ad 2)) 1 (rfl : kd 1 = 3) fw_X5_fill_3 hw_X5_fill_2 (fun _ h9 => h9) (by decide) rfl dX5_fill_52 rfl ?_
        refine j_iload C0 0 dX5_fill_55 rfl rfl ?_
        obtain ⟨h12, hX⟩ := hX
        refine j_iald C0 (n := 64) (kd_lt (kd_3v (rfl : kd 1 = 3)) (by decide)) (ce10 (kd_3v (rfl : kd 1 = 3))) h12 dX5_fill_57 rfl ?_
        refine j_topi (fun v13 e_v13 => ?_)
        have hX := hX v13 e_v13
        refine j_istore C0 [(5, .int v13), (4, .int v11), (0, .ref (ad 0)), (1, .int a1), (2, .int a2), (3, .int a3)] dX5_fill_58 (by decide) rfl rfl ?_
        refine j_aload_n C0 2 dX5_fill_60 rfl rfl rfl ?_
        refine j_get5 C0 (v := .ref (ad 1)) 0 (rfl : kd 0 = 5) fw_X5_fill_5 hw_X5_fill_1 (fun _ h9 => h9) (by decide) rfl dX5_fill_61 rfl ?_
        refine j_get3 C0 (v := .ref (ad 2)) 1 (rfl : kd 1 = 3) fw_X5_fill_3 hw_X5_fill_2 (fun _ h9 => h9) (by decide) rfl dX5_fill_64 rfl ?_
        refine j_iload C0 1 dX5_fill_67 rfl rfl ?_
        refine j_iload_n C0 5 dX5_fill_69 rfl rfl rfl ?_
        obtain ⟨h14, hX⟩ := hX
        refine j_iast C0 (n := 64) (kd_lt (kd_3v (rfl : kd 1 = 3)) (by decide)) (ce10 (kd_3v (rfl : kd 1 = 3))) h14 dX5_fill_70 rfl ?_
        refine j_nm (fun μ15 e_μ15 => ?_)
        have hX := hX μ15 e_μ15
        refine j_iload C0 0 dX5_fill_71 rfl rfl ?_
        exact j_iret C0 hlk hret dX5_fill_73 hX
      · have hX := hX.2 c9
        refine j_bipush C0 (-2) dX5_fill_26 (by decide) rfl ?_
        exact j_iret C0 hlk hret dX5_fill_28 hX
    · have hX := hX.2 c6
      refine j_iconst C0 (-1) dX5_fill_14 (by decide) rfl ?_
      exact j_iret C0 hlk hret dX5_fill_15 hX
  · have hX := hX.2 c3
    refine j_iconst C0 (-1) dX5_fill_14 (by decide) rfl ?_
    exact j_iret C0 hlk hret dX5_fill_15 hX
theorem c_X5_fill {l : Launch} {D : va_G} {Y : Nat → ClassId} {ad : Nat → Nat} (a1 : Int32) (a2 : Int32) (a3 : Int32) {μ : Mem} {K : Int32 → Mem → Prop}  (hX : x_X5_fill a1 a2 a3 μ K) : ConI l yX5_fill wsX5_fill rm_X5_fill [.ref (ad 0), .int a1, .int a2, .int a3] D Y ad μ K := conI_of (cc := cX5_fill) (maxL := 6) (ret := (some .int)) (own := RX5) _ (by decide +kernel) rfl rfl (Nat.le_of_ble_eq_true rfl) (fun p e s m args below meth c C0 hlk hret => j_sub (l' := [(0, .ref (ad 0)), (1, .int a1), (2, .int a2), (3, .int a3)]) [0, 1, 2, 3] rfl (w_X5_fill C0 hlk hret a1 a2 a3 μ K  hX))
/-! PhaseTones.isNoWheel(I)Z -/
abbrev rm_X5_isNoWheel : Room := rmf 1 22
def x_X5_isNoWheel (a0 : Int32) (μ : Mem) (K : Int32 → Mem → Prop) : Prop :=
  x_X5_isOutside a0 0 3 μ (fun r2 μ1 => zb r2 ∧ K r2 μ1)
set_option maxRecDepth 20000 in
theorem w_X5_isNoWheel {p : Program} {l : Launch} {e : Env} {s : State} {m : MethodId} {args : Array Value} {below : List Frame} {meth : Method} {c : Code} {D : va_G} {Y : Nat → ClassId} {ad : Nat → Nat} (C0 : CX D Y ad (PA ad) rm_X5_isNoWheel 0 0 p s args m c cX5_isNoWheel 1 RX5 wsX5_isNoWheel) (hlk : meth.locks = false) (hret : meth.sig.returnType = (some .boolean)) (a0 : Int32) (μ : Mem) (K : Int32 → Mem → Prop)  (hX : x_X5_isNoWheel a0 μ K) : J p l e rm_X5_isNoWheel s m args below meth c D Y ad (PA ad) 0 0 1 (MQ below (va_Qi K (BB D Y ad) (PA ad)) args s 0 0 (PA ad)) 0 [(0, .int a0)] [] μ := by
  refine j_iload_n C0 0 dX5_isNoWheel_0 rfl rfl rfl ?_
  refine j_iconst C0 0 dX5_isNoWheel_1 (by decide) rfl ?_
  refine j_iconst C0 3 dX5_isNoWheel_2 (by decide) rfl ?_
  refine j_callSi C0 3 [.int a0, .int 0, .int 3] (c_X5_isOutside a0 0 3  hX) dX5_isNoWheel_3 gX5_isNoWheel_X5_isOutside rfl (by decide +kernel) ⟨⟨Nat.le_of_ble_eq_true rfl, Nat.le_of_ble_eq_true rfl⟩, rfl, rfl⟩ rfl rfl (Nat.le_of_ble_eq_true rfl) rfl (fun r2 μ1 hX => ?_)
  exact j_zret C0 hlk hret dX5_isNoWheel_6 hX.1 hX.2
theorem c_X5_isNoWheel {l : Launch} {D : va_G} {Y : Nat → ClassId} {ad : Nat → Nat} (a0 : Int32) {μ : Mem} {K : Int32 → Mem → Prop}  (hX : x_X5_isNoWheel a0 μ K) : ConI l yX5_isNoWheel wsX5_isNoWheel rm_X5_isNoWheel [.int a0] D Y ad μ K := conI_of (cc := cX5_isNoWheel) (maxL := 1) (ret := (some .boolean)) (own := RX5) _ (by decide +kernel) rfl rfl (Nat.le_of_ble_eq_true rfl) (fun p e s m args below meth c C0 hlk hret => j_sub (l' := [(0, .int a0)]) [0] rfl (w_X5_isNoWheel C0 hlk hret a0 μ K  hX))
/-! PhaseTones.step(II)I -/
abbrev rm_X5_step : Room := rmf 4 84
theorem fw_X5_step_3 : ∀ w ∈ wsX30, w ∈ wsX5_step := by decide +kernel
theorem fw_X5_step_4 : ∀ w ∈ wsX40, w ∈ wsX5_step := by decide +kernel
theorem fw_X5_step_5 : ∀ w ∈ wsX50, w ∈ wsX5_step := by decide +kernel
theorem hw_X5_step_0 : Cond.constant RX5 66 (65535) ∈ wsX5_step := by decide +kernel
theorem hw_X5_step_1 : Cond.fieldLink RX5 22 RX5 (TX5 2).2.1 (TX5 2).2.2.1 ∈ wsX5_step := by decide +kernel
theorem hw_X5_step_2 : Cond.fieldLink RX5 10 RX5 (TX5 0).2.1 (TX5 0).2.2.1 ∈ wsX5_step := by decide +kernel
theorem hw_X5_step_3 : Cond.fieldLink RX5 67 RX3 (TX3 2).2.1 (TX3 2).2.2.1 ∈ wsX5_step := by decide +kernel
theorem hw_X5_step_4 : Cond.fieldLink RX5 71 RX4 (TX4 1).2.1 (TX4 1).2.2.1 ∈ wsX5_step := by decide +kernel
def x_X5_step (a1 : Int32) (a2 : Int32) (μ : Mem) (K : Int32 → Mem → Prop) : Prop :=
  x_X5_isNoWheel a1 μ (fun r2 μ1 => (r2 = 0 → x_X5_isOutside a2 0 65535 μ1 (fun r5 μ4 => (r5 = 0 → x_X0_keep 1 μ4 (fun μ7 => vp_in a1 4 ∧ ∀ v9 : Int32, v9 = (μ7 (5 + 3 * a1.toNatClampNeg) 1) → vp_in a1 4 ∧ x_X4_changeStep (5 + 3 * a1.toNatClampNeg) a2 μ7 (fun μ11 => K v9 μ11))) ∧ (¬ (r5 = 0) → K (-2) μ4))) ∧ (¬ (r2 = 0) → K (-1) μ1))
set_option maxRecDepth 20000 in
theorem w_X5_step {p : Program} {l : Launch} {e : Env} {s : State} {m : MethodId} {args : Array Value} {below : List Frame} {meth : Method} {c : Code} {D : va_G} {Y : Nat → ClassId} {ad : Nat → Nat} (C0 : CX D Y ad (PA ad) rm_X5_step 0 0 p s args m c cX5_step 4 RX5 wsX5_step) (hlk : meth.locks = false) (hret : meth.sig.returnType = (some .int)) (a1 : Int32) (a2 : Int32) (μ : Mem) (K : Int32 → Mem → Prop)  (hX : x_X5_step a1 a2 μ K) : J p l e rm_X5_step s m args below meth c D Y ad (PA ad) 0 0 4 (MQ below (va_Qi K (BB D Y ad) (PA ad)) args s 0 0 (PA ad)) 0 [(0, .ref (ad 0)), (1, .int a1), (2, .int a2)] [] μ := by
  refine j_iload_n C0 1 dX5_step_0 rfl rfl rfl ?_
  refine j_callSi C0 1 [.int a1] (c_X5_isNoWheel a1  hX) dX5_step_1 gX5_step_X5_isNoWheel rfl (by decide +kernel) ⟨⟨Nat.le_of_ble_eq_true rfl, Nat.le_of_ble_eq_true rfl⟩, rfl, rfl⟩ rfl rfl (Nat.le_of_ble_eq_true rfl) rfl (fun r2 μ1 hX => ?_)
  refine j_if_eq C0 (tgt := 9) dX5_step_4 (by decide) rfl (fun c3 => ?_) (fun c3 => ?_)
  · have hX := hX.1 c3
    refine j_iload_n C0 2 dX5_step_9 rfl rfl rfl ?_
    refine j_iconst C0 0 dX5_step_10 (by decide) rfl ?_
    refine j_ldc C0 65535 dX5_step_11 hw_X5_step_0 rfl ?_
    refine j_callSi C0 3 [.int a2, .int 0, .int 65535] (c_X5_isOutside a2 0 65535  hX) dX5_step_13 gX5_step_X5_isOutside rfl (by decide +kernel) ⟨⟨Nat.le_of_ble_eq_true rfl, Nat.le_of_ble_eq_true rfl⟩, rfl, rfl⟩ rfl rfl (Nat.le_of_ble_eq_true rfl) rfl (fun r5 μ4 hX => ?_)
    refine j_if_eq C0 (tgt := 22) dX5_step_16 (by decide) rfl (fun c6 => ?_) (fun c6 => ?_)
    · have hX := hX.1 c6
      refine j_aload_n C0 0 dX5_step_22 rfl rfl rfl ?_
      refine j_get5 C0 (v := .ref (ad 33)) 2 (rfl : kd 0 = 5) fw_X5_step_5 hw_X5_step_1 (fun _ h9 => h9) (by decide) rfl dX5_step_23 rfl ?_
      refine j_aload_n C0 0 dX5_step_26 rfl rfl rfl ?_
      refine j_get5 C0 (v := .ref (ad 1)) 0 (rfl : kd 0 = 5) fw_X5_step_5 hw_X5_step_2 (fun _ h9 => h9) (by decide) rfl dX5_step_27 rfl ?_
      refine j_callVv C0 1 [.ref (ad 1)] (c_X0_keep 1 (rfl : kd 1 = 3) hX) dX5_step_30 gX5_step_X0_keep rfl (by decide +kernel) ⟨⟨Nat.le_of_ble_eq_true rfl, Nat.le_of_ble_eq_true rfl⟩, rfl, rfl⟩ (kd_lt (rfl : kd 33 = 0) (by decide)) (ce0 (rfl : kd 33 = 0)) rfl rfl rfl (Nat.le_of_ble_eq_true rfl) rfl (fun μ7 hX => ?_)
      refine j_aload_n C0 0 dX5_step_33 rfl rfl rfl ?_
      refine j_get5 C0 (v := .ref (ad 1)) 0 (rfl : kd 0 = 5) fw_X5_step_5 hw_X5_step_2 (fun _ h9 => h9) (by decide) rfl dX5_step_34 rfl ?_
      refine j_get3 C0 (v := .ref (ad 3)) 2 (rfl : kd 1 = 3) fw_X5_step_3 hw_X5_step_3 (fun _ h9 => h9) (by decide) rfl dX5_step_37 rfl ?_
      refine j_iload_n C0 1 dX5_step_40 rfl rfl rfl ?_
      obtain ⟨h8, hX⟩ := hX
      refine j_aald C0 (n := 4) (t0 := 4) (5 + 3 * a1.toNatClampNeg) (kd_lt (kd_3w (rfl : kd 1 = 3)) (by decide)) (ce15 (kd_3w (rfl : kd 1 = 3))) rfl rfl h8 dX5_step_41 rfl ?_
      refine j_get4 C0 (v := .int (μ7 (5 + 3 * a1.toNatClampNeg) 1)) 1 (kd_3e (o := 1) (rfl : kd 1 = 3) (vp_lt h8)) fw_X5_step_4 hw_X5_step_4 (fun _ h9 => h9) (by decide) rfl dX5_step_42 rfl ?_
      refine j_topi (fun v9 e_v9 => ?_)
      have hX := hX v9 e_v9
      refine j_istore_n C0 [(3, .int v9), (0, .ref (ad 0)), (1, .int a1), (2, .int a2)] dX5_step_45 rfl (by decide) rfl rfl ?_
      refine j_aload_n C0 1 dX5_step_46 rfl rfl rfl ?_
      refine j_get5 C0 (v := .ref (ad 1)) 0 (rfl : kd 0 = 5) fw_X5_step_5 hw_X5_step_2 (fun _ h9 => h9) (by decide) rfl dX5_step_47 rfl ?_
      refine j_get3 C0 (v := .ref (ad 3)) 2 (rfl : kd 1 = 3) fw_X5_step_3 hw_X5_step_3 (fun _ h9 => h9) (by decide) rfl dX5_step_50 rfl ?_
      refine j_iload_n C0 2 dX5_step_53 rfl rfl rfl ?_
      obtain ⟨h10, hX⟩ := hX
      refine j_aald C0 (n := 4) (t0 := 4) (5 + 3 * a1.toNatClampNeg) (kd_lt (kd_3w (rfl : kd 1 = 3)) (by decide)) (ce15 (kd_3w (rfl : kd 1 = 3))) rfl rfl h10 dX5_step_54 rfl ?_
      refine j_iload_n C0 3 dX5_step_55 rfl rfl rfl ?_
      refine j_callVv C0 1 [.int a2] (c_X4_changeStep (5 + 3 * a1.toNatClampNeg) a2 (kd_3e (o := 1) (rfl : kd 1 = 3) (vp_lt h10)) hX) dX5_step_56 gX5_step_X4_changeStep rfl (by decide +kernel) ⟨⟨Nat.le_of_ble_eq_true rfl, Nat.le_of_ble_eq_true rfl⟩, rfl, rfl⟩ (kd_lt (kd_3e (o := 1) (rfl : kd 1 = 3) (vp_lt h10)) (by decide)) (ce4 (kd_3e (o := 1) (rfl : kd 1 = 3) (vp_lt h10))) rfl rfl rfl (Nat.le_of_ble_eq_true rfl) rfl (fun μ11 hX => ?_)
      refine j_iload_n C0 0 dX5_step_59 rfl rfl rfl ?_
      exact j_iret C0 hlk hret dX5_step_60 hX
    · have hX := hX.2 c6
      refine j_bipush C0 (-2) dX5_step_19 (by decide) rfl ?_
      exact j_iret C0 hlk hret dX5_step_21 hX
  · have hX := hX.2 c3
    refine j_iconst C0 (-1) dX5_step_7 (by decide) rfl ?_
    exact j_iret C0 hlk hret dX5_step_8 hX
theorem c_X5_step {l : Launch} {D : va_G} {Y : Nat → ClassId} {ad : Nat → Nat} (a1 : Int32) (a2 : Int32) {μ : Mem} {K : Int32 → Mem → Prop}  (hX : x_X5_step a1 a2 μ K) : ConI l yX5_step wsX5_step rm_X5_step [.ref (ad 0), .int a1, .int a2] D Y ad μ K := conI_of (cc := cX5_step) (maxL := 4) (ret := (some .int)) (own := RX5) _ (by decide +kernel) rfl rfl (Nat.le_of_ble_eq_true rfl) (fun p e s m args below meth c C0 hlk hret => j_sub (l' := [(0, .ref (ad 0)), (1, .int a1), (2, .int a2)]) [0, 1, 2] rfl (w_X5_step C0 hlk hret a1 a2 μ K  hX))
/-! PhaseTones.table(II)I -/
abbrev rm_X5_table : Room := rmf 4 84
theorem fw_X5_table_3 : ∀ w ∈ wsX30, w ∈ wsX5_table := by decide +kernel
theorem fw_X5_table_4 : ∀ w ∈ wsX40, w ∈ wsX5_table := by decide +kernel
theorem fw_X5_table_5 : ∀ w ∈ wsX50, w ∈ wsX5_table := by decide +kernel
theorem hw_X5_table_0 : Cond.fieldLink RX5 22 RX5 (TX5 2).2.1 (TX5 2).2.2.1 ∈ wsX5_table := by decide +kernel
theorem hw_X5_table_1 : Cond.fieldLink RX5 10 RX5 (TX5 0).2.1 (TX5 0).2.2.1 ∈ wsX5_table := by decide +kernel
theorem hw_X5_table_2 : Cond.fieldLink RX5 67 RX3 (TX3 2).2.1 (TX3 2).2.2.1 ∈ wsX5_table := by decide +kernel
theorem hw_X5_table_3 : Cond.fieldLink RX5 80 RX4 (TX4 2).2.1 (TX4 2).2.2.1 ∈ wsX5_table := by decide +kernel
def x_X5_table (a1 : Int32) (a2 : Int32) (μ : Mem) (K : Int32 → Mem → Prop) : Prop :=
  x_X5_isNoWheel a1 μ (fun r2 μ1 => (r2 = 0 → x_X5_isNoTable a2 μ1 (fun r5 μ4 => (r5 = 0 → x_X0_keep 1 μ4 (fun μ7 => vp_in a1 4 ∧ ∀ v9 : Int32, v9 = (μ7 (5 + 3 * a1.toNatClampNeg) 2) → vp_in a1 4 ∧ ∀ μ11 : Mem, μ11 = um μ7 (5 + 3 * a1.toNatClampNeg) (upd (μ7 (5 + 3 * a1.toNatClampNeg)) 2 a2) → K v9 μ11)) ∧ (¬ (r5 = 0) → K (-1) μ4))) ∧ (¬ (r2 = 0) → K (-1) μ1))
set_option maxRecDepth 20000 in
theorem w_X5_table {p : Program} {l : Launch} {e : Env} {s : State} {m : MethodId} {args : Array Value} {below : List Frame} {meth : Method} {c : Code} {D : va_G} {Y : Nat → ClassId} {ad : Nat → Nat} (C0 : CX D Y ad (PA ad) rm_X5_table 0 0 p s args m c cX5_table 4 RX5 wsX5_table) (hlk : meth.locks = false) (hret : meth.sig.returnType = (some .int)) (a1 : Int32) (a2 : Int32) (μ : Mem) (K : Int32 → Mem → Prop)  (hX : x_X5_table a1 a2 μ K) : J p l e rm_X5_table s m args below meth c D Y ad (PA ad) 0 0 4 (MQ below (va_Qi K (BB D Y ad) (PA ad)) args s 0 0 (PA ad)) 0 [(0, .ref (ad 0)), (1, .int a1), (2, .int a2)] [] μ := by
  refine j_iload_n C0 1 dX5_table_0 rfl rfl rfl ?_
  refine j_callSi C0 1 [.int a1] (c_X5_isNoWheel a1  hX) dX5_table_1 gX5_table_X5_isNoWheel rfl (by decide +kernel) ⟨⟨Nat.le_of_ble_eq_true rfl, Nat.le_of_ble_eq_true rfl⟩, rfl, rfl⟩ rfl rfl (Nat.le_of_ble_eq_true rfl) rfl (fun r2 μ1 hX => ?_)
  refine j_if_ne C0 (tgt := 14) dX5_table_4 (by decide) rfl (fun c3 => ?_) (fun c3 => ?_)
  · have hX := hX.1 c3
    refine j_iload_n C0 2 dX5_table_7 rfl rfl rfl ?_
    refine j_callSi C0 1 [.int a2] (c_X5_isNoTable a2  hX) dX5_table_8 gX5_table_X5_isNoTable rfl (by decide +kernel) ⟨⟨Nat.le_of_ble_eq_true rfl, Nat.le_of_ble_eq_true rfl⟩, rfl, rfl⟩ rfl rfl (Nat.le_of_ble_eq_true rfl) rfl (fun r5 μ4 hX => ?_)
    refine j_if_eq C0 (tgt := 16) dX5_table_11 (by decide) rfl (fun c6 => ?_) (fun c6 => ?_)
    · have hX := hX.1 c6
      refine j_aload_n C0 0 dX5_table_16 rfl rfl rfl ?_
      refine j_get5 C0 (v := .ref (ad 33)) 2 (rfl : kd 0 = 5) fw_X5_table_5 hw_X5_table_0 (fun _ h9 => h9) (by decide) rfl dX5_table_17 rfl ?_
      refine j_aload_n C0 0 dX5_table_20 rfl rfl rfl ?_
      refine j_get5 C0 (v := .ref (ad 1)) 0 (rfl : kd 0 = 5) fw_X5_table_5 hw_X5_table_1 (fun _ h9 => h9) (by decide) rfl dX5_table_21 rfl ?_
      refine j_callVv C0 1 [.ref (ad 1)] (c_X0_keep 1 (rfl : kd 1 = 3) hX) dX5_table_24 gX5_table_X0_keep rfl (by decide +kernel) ⟨⟨Nat.le_of_ble_eq_true rfl, Nat.le_of_ble_eq_true rfl⟩, rfl, rfl⟩ (kd_lt (rfl : kd 33 = 0) (by decide)) (ce0 (rfl : kd 33 = 0)) rfl rfl rfl (Nat.le_of_ble_eq_true rfl) rfl (fun μ7 hX => ?_)
      refine j_aload_n C0 0 dX5_table_27 rfl rfl rfl ?_
      refine j_get5 C0 (v := .ref (ad 1)) 0 (rfl : kd 0 = 5) fw_X5_table_5 hw_X5_table_1 (fun _ h9 => h9) (by decide) rfl dX5_table_28 rfl ?_
      refine j_get3 C0 (v := .ref (ad 3)) 2 (rfl : kd 1 = 3) fw_X5_table_3 hw_X5_table_2 (fun _ h9 => h9) (by decide) rfl dX5_table_31 rfl ?_
      refine j_iload_n C0 1 dX5_table_34 rfl rfl rfl ?_
      obtain ⟨h8, hX⟩ := hX
      refine j_aald C0 (n := 4) (t0 := 4) (5 + 3 * a1.toNatClampNeg) (kd_lt (kd_3w (rfl : kd 1 = 3)) (by decide)) (ce15 (kd_3w (rfl : kd 1 = 3))) rfl rfl h8 dX5_table_35 rfl ?_
      refine j_get4 C0 (v := .int (μ7 (5 + 3 * a1.toNatClampNeg) 2)) 2 (kd_3e (o := 1) (rfl : kd 1 = 3) (vp_lt h8)) fw_X5_table_4 hw_X5_table_3 (fun _ h9 => h9) (by decide) rfl dX5_table_36 rfl ?_
      refine j_topi (fun v9 e_v9 => ?_)
      have hX := hX v9 e_v9
      refine j_istore_n C0 [(3, .int v9), (0, .ref (ad 0)), (1, .int a1), (2, .int a2)] dX5_table_39 rfl (by decide) rfl rfl ?_
      refine j_aload_n C0 1 dX5_table_40 rfl rfl rfl ?_
      refine j_get5 C0 (v := .ref (ad 1)) 0 (rfl : kd 0 = 5) fw_X5_table_5 hw_X5_table_1 (fun _ h9 => h9) (by decide) rfl dX5_table_41 rfl ?_
      refine j_get3 C0 (v := .ref (ad 3)) 2 (rfl : kd 1 = 3) fw_X5_table_3 hw_X5_table_2 (fun _ h9 => h9) (by decide) rfl dX5_table_44 rfl ?_
      refine j_iload_n C0 2 dX5_table_47 rfl rfl rfl ?_
      obtain ⟨h10, hX⟩ := hX
      refine j_aald C0 (n := 4) (t0 := 4) (5 + 3 * a1.toNatClampNeg) (kd_lt (kd_3w (rfl : kd 1 = 3)) (by decide)) (ce15 (kd_3w (rfl : kd 1 = 3))) rfl rfl h10 dX5_table_48 rfl ?_
      refine j_iload_n C0 3 dX5_table_49 rfl rfl rfl ?_
      refine j_put4_2 C0 (kd_3e (o := 1) (rfl : kd 1 = 3) (vp_lt h10)) fw_X5_table_4 hw_X5_table_3 dX5_table_50 rfl ?_
      refine j_nm (fun μ11 e_μ11 => ?_)
      have hX := hX μ11 e_μ11
      refine j_iload_n C0 0 dX5_table_53 rfl rfl rfl ?_
      exact j_iret C0 hlk hret dX5_table_54 hX
    · have hX := hX.2 c6
      refine j_iconst C0 (-1) dX5_table_14 (by decide) rfl ?_
      exact j_iret C0 hlk hret dX5_table_15 hX
  · have hX := hX.2 c3
    refine j_iconst C0 (-1) dX5_table_14 (by decide) rfl ?_
    exact j_iret C0 hlk hret dX5_table_15 hX
theorem c_X5_table {l : Launch} {D : va_G} {Y : Nat → ClassId} {ad : Nat → Nat} (a1 : Int32) (a2 : Int32) {μ : Mem} {K : Int32 → Mem → Prop}  (hX : x_X5_table a1 a2 μ K) : ConI l yX5_table wsX5_table rm_X5_table [.ref (ad 0), .int a1, .int a2] D Y ad μ K := conI_of (cc := cX5_table) (maxL := 4) (ret := (some .int)) (own := RX5) _ (by decide +kernel) rfl rfl (Nat.le_of_ble_eq_true rfl) (fun p e s m args below meth c C0 hlk hret => j_sub (l' := [(0, .ref (ad 0)), (1, .int a1), (2, .int a2)]) [0, 1, 2] rfl (w_X5_table C0 hlk hret a1 a2 μ K  hX))
/-! PhaseTones.volume(II)I -/
abbrev rm_X5_volume : Room := rmf 4 84
theorem fw_X5_volume_3 : ∀ w ∈ wsX30, w ∈ wsX5_volume := by decide +kernel
theorem fw_X5_volume_4 : ∀ w ∈ wsX40, w ∈ wsX5_volume := by decide +kernel
theorem fw_X5_volume_5 : ∀ w ∈ wsX50, w ∈ wsX5_volume := by decide +kernel
theorem hw_X5_volume_0 : Cond.fieldLink RX5 22 RX5 (TX5 2).2.1 (TX5 2).2.2.1 ∈ wsX5_volume := by decide +kernel
theorem hw_X5_volume_1 : Cond.fieldLink RX5 10 RX5 (TX5 0).2.1 (TX5 0).2.2.1 ∈ wsX5_volume := by decide +kernel
theorem hw_X5_volume_2 : Cond.fieldLink RX5 67 RX3 (TX3 2).2.1 (TX3 2).2.2.1 ∈ wsX5_volume := by decide +kernel
theorem hw_X5_volume_3 : Cond.fieldLink RX5 83 RX4 (TX4 3).2.1 (TX4 3).2.2.1 ∈ wsX5_volume := by decide +kernel
def x_X5_volume (a1 : Int32) (a2 : Int32) (μ : Mem) (K : Int32 → Mem → Prop) : Prop :=
  x_X5_isNoWheel a1 μ (fun r2 μ1 => (r2 = 0 → x_X5_isOutside a2 0 16 μ1 (fun r5 μ4 => (r5 = 0 → x_X0_keep 1 μ4 (fun μ7 => vp_in a1 4 ∧ ∀ v9 : Int32, v9 = (μ7 (5 + 3 * a1.toNatClampNeg) 3) → vp_in a1 4 ∧ ∀ μ11 : Mem, μ11 = um μ7 (5 + 3 * a1.toNatClampNeg) (upd (μ7 (5 + 3 * a1.toNatClampNeg)) 3 a2) → K v9 μ11)) ∧ (¬ (r5 = 0) → K (-2) μ4))) ∧ (¬ (r2 = 0) → K (-1) μ1))
set_option maxRecDepth 20000 in
theorem w_X5_volume {p : Program} {l : Launch} {e : Env} {s : State} {m : MethodId} {args : Array Value} {below : List Frame} {meth : Method} {c : Code} {D : va_G} {Y : Nat → ClassId} {ad : Nat → Nat} (C0 : CX D Y ad (PA ad) rm_X5_volume 0 0 p s args m c cX5_volume 4 RX5 wsX5_volume) (hlk : meth.locks = false) (hret : meth.sig.returnType = (some .int)) (a1 : Int32) (a2 : Int32) (μ : Mem) (K : Int32 → Mem → Prop)  (hX : x_X5_volume a1 a2 μ K) : J p l e rm_X5_volume s m args below meth c D Y ad (PA ad) 0 0 4 (MQ below (va_Qi K (BB D Y ad) (PA ad)) args s 0 0 (PA ad)) 0 [(0, .ref (ad 0)), (1, .int a1), (2, .int a2)] [] μ := by
  refine j_iload_n C0 1 dX5_volume_0 rfl rfl rfl ?_
  refine j_callSi C0 1 [.int a1] (c_X5_isNoWheel a1  hX) dX5_volume_1 gX5_volume_X5_isNoWheel rfl (by decide +kernel) ⟨⟨Nat.le_of_ble_eq_true rfl, Nat.le_of_ble_eq_true rfl⟩, rfl, rfl⟩ rfl rfl (Nat.le_of_ble_eq_true rfl) rfl (fun r2 μ1 hX => ?_)
  refine j_if_eq C0 (tgt := 9) dX5_volume_4 (by decide) rfl (fun c3 => ?_) (fun c3 => ?_)
  · have hX := hX.1 c3
    refine j_iload_n C0 2 dX5_volume_9 rfl rfl rfl ?_
    refine j_iconst C0 0 dX5_volume_10 (by decide) rfl ?_
    refine j_bipush C0 16 dX5_volume_11 (by decide) rfl ?_
    refine j_callSi C0 3 [.int a2, .int 0, .int 16] (c_X5_isOutside a2 0 16  hX) dX5_volume_13 gX5_volume_X5_isOutside rfl (by decide +kernel) ⟨⟨Nat.le_of_ble_eq_true rfl, Nat.le_of_ble_eq_true rfl⟩, rfl, rfl⟩ rfl rfl (Nat.le_of_ble_eq_true rfl) rfl (fun r5 μ4 hX => ?_)
    refine j_if_eq C0 (tgt := 22) dX5_volume_16 (by decide) rfl (fun c6 => ?_) (fun c6 => ?_)
    · have hX := hX.1 c6
      refine j_aload_n C0 0 dX5_volume_22 rfl rfl rfl ?_
      refine j_get5 C0 (v := .ref (ad 33)) 2 (rfl : kd 0 = 5) fw_X5_volume_5 hw_X5_volume_0 (fun _ h9 => h9) (by decide) rfl dX5_volume_23 rfl ?_
      refine j_aload_n C0 0 dX5_volume_26 rfl rfl rfl ?_
      refine j_get5 C0 (v := .ref (ad 1)) 0 (rfl : kd 0 = 5) fw_X5_volume_5 hw_X5_volume_1 (fun _ h9 => h9) (by decide) rfl dX5_volume_27 rfl ?_
      refine j_callVv C0 1 [.ref (ad 1)] (c_X0_keep 1 (rfl : kd 1 = 3) hX) dX5_volume_30 gX5_volume_X0_keep rfl (by decide +kernel) ⟨⟨Nat.le_of_ble_eq_true rfl, Nat.le_of_ble_eq_true rfl⟩, rfl, rfl⟩ (kd_lt (rfl : kd 33 = 0) (by decide)) (ce0 (rfl : kd 33 = 0)) rfl rfl rfl (Nat.le_of_ble_eq_true rfl) rfl (fun μ7 hX => ?_)
      refine j_aload_n C0 0 dX5_volume_33 rfl rfl rfl ?_
      refine j_get5 C0 (v := .ref (ad 1)) 0 (rfl : kd 0 = 5) fw_X5_volume_5 hw_X5_volume_1 (fun _ h9 => h9) (by decide) rfl dX5_volume_34 rfl ?_
      refine j_get3 C0 (v := .ref (ad 3)) 2 (rfl : kd 1 = 3) fw_X5_volume_3 hw_X5_volume_2 (fun _ h9 => h9) (by decide) rfl dX5_volume_37 rfl ?_
      refine j_iload_n C0 1 dX5_volume_40 rfl rfl rfl ?_
      obtain ⟨h8, hX⟩ := hX
      refine j_aald C0 (n := 4) (t0 := 4) (5 + 3 * a1.toNatClampNeg) (kd_lt (kd_3w (rfl : kd 1 = 3)) (by decide)) (ce15 (kd_3w (rfl : kd 1 = 3))) rfl rfl h8 dX5_volume_41 rfl ?_
      refine j_get4 C0 (v := .int (μ7 (5 + 3 * a1.toNatClampNeg) 3)) 3 (kd_3e (o := 1) (rfl : kd 1 = 3) (vp_lt h8)) fw_X5_volume_4 hw_X5_volume_3 (fun _ h9 => h9) (by decide) rfl dX5_volume_42 rfl ?_
      refine j_topi (fun v9 e_v9 => ?_)
      have hX := hX v9 e_v9
      refine j_istore_n C0 [(3, .int v9), (0, .ref (ad 0)), (1, .int a1), (2, .int a2)] dX5_volume_45 rfl (by decide) rfl rfl ?_
      refine j_aload_n C0 1 dX5_volume_46 rfl rfl rfl ?_
      refine j_get5 C0 (v := .ref (ad 1)) 0 (rfl : kd 0 = 5) fw_X5_volume_5 hw_X5_volume_1 (fun _ h9 => h9) (by decide) rfl dX5_volume_47 rfl ?_
      refine j_get3 C0 (v := .ref (ad 3)) 2 (rfl : kd 1 = 3) fw_X5_volume_3 hw_X5_volume_2 (fun _ h9 => h9) (by decide) rfl dX5_volume_50 rfl ?_
      refine j_iload_n C0 2 dX5_volume_53 rfl rfl rfl ?_
      obtain ⟨h10, hX⟩ := hX
      refine j_aald C0 (n := 4) (t0 := 4) (5 + 3 * a1.toNatClampNeg) (kd_lt (kd_3w (rfl : kd 1 = 3)) (by decide)) (ce15 (kd_3w (rfl : kd 1 = 3))) rfl rfl h10 dX5_volume_54 rfl ?_
      refine j_iload_n C0 3 dX5_volume_55 rfl rfl rfl ?_
      refine j_put4_3 C0 (kd_3e (o := 1) (rfl : kd 1 = 3) (vp_lt h10)) fw_X5_volume_4 hw_X5_volume_3 dX5_volume_56 rfl ?_
      refine j_nm (fun μ11 e_μ11 => ?_)
      have hX := hX μ11 e_μ11
      refine j_iload_n C0 0 dX5_volume_59 rfl rfl rfl ?_
      exact j_iret C0 hlk hret dX5_volume_60 hX
    · have hX := hX.2 c6
      refine j_bipush C0 (-2) dX5_volume_19 (by decide) rfl ?_
      exact j_iret C0 hlk hret dX5_volume_21 hX
  · have hX := hX.2 c3
    refine j_iconst C0 (-1) dX5_volume_7 (by decide) rfl ?_
    exact j_iret C0 hlk hret dX5_volume_8 hX
theorem c_X5_volume {l : Launch} {D : va_G} {Y : Nat → ClassId} {ad : Nat → Nat} (a1 : Int32) (a2 : Int32) {μ : Mem} {K : Int32 → Mem → Prop}  (hX : x_X5_volume a1 a2 μ K) : ConI l yX5_volume wsX5_volume rm_X5_volume [.ref (ad 0), .int a1, .int a2] D Y ad μ K := conI_of (cc := cX5_volume) (maxL := 4) (ret := (some .int)) (own := RX5) _ (by decide +kernel) rfl rfl (Nat.le_of_ble_eq_true rfl) (fun p e s m args below meth c C0 hlk hret => j_sub (l' := [(0, .ref (ad 0)), (1, .int a1), (2, .int a2)]) [0, 1, 2] rfl (w_X5_volume C0 hlk hret a1 a2 μ K  hX))
/-! PhaseTones.turn(IZ)I -/
abbrev rm_X5_turn : Room := rmf 4 84
theorem fw_X5_turn_3 : ∀ w ∈ wsX30, w ∈ wsX5_turn := by decide +kernel
theorem fw_X5_turn_4 : ∀ w ∈ wsX40, w ∈ wsX5_turn := by decide +kernel
theorem fw_X5_turn_5 : ∀ w ∈ wsX50, w ∈ wsX5_turn := by decide +kernel
theorem hw_X5_turn_0 : Cond.fieldLink RX5 10 RX5 (TX5 0).2.1 (TX5 0).2.2.1 ∈ wsX5_turn := by decide +kernel
theorem hw_X5_turn_1 : Cond.fieldLink RX5 67 RX3 (TX3 2).2.1 (TX3 2).2.2.1 ∈ wsX5_turn := by decide +kernel
theorem hw_X5_turn_2 : Cond.fieldLink RX5 86 RX4 (TX4 4).2.1 (TX4 4).2.2.1 ∈ wsX5_turn := by decide +kernel
theorem hw_X5_turn_3 : Cond.fieldLink RX5 22 RX5 (TX5 2).2.1 (TX5 2).2.2.1 ∈ wsX5_turn := by decide +kernel
def x_X5_turn (a1 : Int32) (a2 : Int32) (μ : Mem) (K : Int32 → Mem → Prop) : Prop :=
  x_X5_isNoWheel a1 μ (fun r2 μ1 => (r2 = 0 → vp_in a1 4 ∧ ((μ1 (5 + 3 * a1.toNatClampNeg) 4) = a2 → K (-5) μ1) ∧ (¬ ((μ1 (5 + 3 * a1.toNatClampNeg) 4) = a2) → x_X0_keep 1 μ1 (fun μ6 => vp_in a1 4 ∧ zb a2 ∧ ∀ μ9 : Mem, μ9 = um μ6 (5 + 3 * a1.toNatClampNeg) (upd (μ6 (5 + 3 * a1.toNatClampNeg)) 4 a2) → x_X3_maskOfOn 1 μ9 (fun r11 μ10 => x_J6_bitCount_0f7a4 r11 μ10 (fun r13 μ12 => K r13 μ12))))) ∧ (¬ (r2 = 0) → K (-1) μ1))
set_option maxRecDepth 20000 in
theorem w_X5_turn {p : Program} {l : Launch} {e : Env} {s : State} {m : MethodId} {args : Array Value} {below : List Frame} {meth : Method} {c : Code} {D : va_G} {Y : Nat → ClassId} {ad : Nat → Nat} (C0 : CX D Y ad (PA ad) rm_X5_turn 0 0 p s args m c cX5_turn 3 RX5 wsX5_turn) (hlk : meth.locks = false) (hret : meth.sig.returnType = (some .int)) (a1 : Int32) (a2 : Int32) (μ : Mem) (K : Int32 → Mem → Prop)  (hX : x_X5_turn a1 a2 μ K) : J p l e rm_X5_turn s m args below meth c D Y ad (PA ad) 0 0 3 (MQ below (va_Qi K (BB D Y ad) (PA ad)) args s 0 0 (PA ad)) 0 [(0, .ref (ad 0)), (1, .int a1), (2, .int a2)] [] μ := by
  refine j_iload_n C0 1 dX5_turn_0 rfl rfl rfl ?_
  refine j_callSi C0 1 [.int a1] (c_X5_isNoWheel a1  hX) dX5_turn_1 gX5_turn_X5_isNoWheel rfl (by decide +kernel) ⟨⟨Nat.le_of_ble_eq_true rfl, Nat.le_of_ble_eq_true rfl⟩, rfl, rfl⟩ rfl rfl (Nat.le_of_ble_eq_true rfl) rfl (fun r2 μ1 hX => ?_)
  refine j_if_eq C0 (tgt := 9) dX5_turn_4 (by decide) rfl (fun c3 => ?_) (fun c3 => ?_)
  · have hX := hX.1 c3
    refine j_aload_n C0 0 dX5_turn_9 rfl rfl rfl ?_
    refine j_get5 C0 (v := .ref (ad 1)) 0 (rfl : kd 0 = 5) fw_X5_turn_5 hw_X5_turn_0 (fun _ h9 => h9) (by decide) rfl dX5_turn_10 rfl ?_
    refine j_get3 C0 (v := .ref (ad 3)) 2 (rfl : kd 1 = 3) fw_X5_turn_3 hw_X5_turn_1 (fun _ h9 => h9) (by decide) rfl dX5_turn_13 rfl ?_
    refine j_iload_n C0 1 dX5_turn_16 rfl rfl rfl ?_
    obtain ⟨h4, hX⟩ := hX
    refine j_aald C0 (n := 4) (t0 := 4) (5 + 3 * a1.toNatClampNeg) (kd_lt (kd_3w (rfl : kd 1 = 3)) (by decide)) (ce15 (kd_3w (rfl : kd 1 = 3))) rfl rfl h4 dX5_turn_17 rfl ?_
    refine j_get4 C0 (v := .int (μ1 (5 + 3 * a1.toNatClampNeg) 4)) 4 (kd_3e (o := 1) (rfl : kd 1 = 3) (vp_lt h4)) fw_X5_turn_4 hw_X5_turn_2 (fun _ h9 => h9) (by decide) rfl dX5_turn_18 rfl ?_
    refine j_iload_n C0 2 dX5_turn_21 rfl rfl rfl ?_
    refine j_icmp_ne C0 (tgt := 28) dX5_turn_22 (by decide) rfl (fun c5 => ?_) (fun c5 => ?_)
    · have hX := hX.1 c5
      refine j_bipush C0 (-5) dX5_turn_25 (by decide) rfl ?_
      exact j_iret C0 hlk hret dX5_turn_27 hX
    · have hX := hX.2 c5
      refine j_aload_n C0 0 dX5_turn_28 rfl rfl rfl ?_
      refine j_get5 C0 (v := .ref (ad 33)) 2 (rfl : kd 0 = 5) fw_X5_turn_5 hw_X5_turn_3 (fun _ h9 => h9) (by decide) rfl dX5_turn_29 rfl ?_
      refine j_aload_n C0 0 dX5_turn_32 rfl rfl rfl ?_
      refine j_get5 C0 (v := .ref (ad 1)) 0 (rfl : kd 0 = 5) fw_X5_turn_5 hw_X5_turn_0 (fun _ h9 => h9) (by decide) rfl dX5_turn_33 rfl ?_
      refine j_callVv C0 1 [.ref (ad 1)] (c_X0_keep 1 (rfl : kd 1 = 3) hX) dX5_turn_36 gX5_turn_X0_keep rfl (by decide +kernel) ⟨⟨Nat.le_of_ble_eq_true rfl, Nat.le_of_ble_eq_true rfl⟩, rfl, rfl⟩ (kd_lt (rfl : kd 33 = 0) (by decide)) (ce0 (rfl : kd 33 = 0)) rfl rfl rfl (Nat.le_of_ble_eq_true rfl) rfl (fun μ6 hX => ?_)
      refine j_aload_n C0 0 dX5_turn_39 rfl rfl rfl ?_
      refine j_get5 C0 (v := .ref (ad 1)) 0 (rfl : kd 0 = 5) fw_X5_turn_5 hw_X5_turn_0 (fun _ h9 => h9) (by decide) rfl dX5_turn_40 rfl ?_
      refine j_get3 C0 (v := .ref (ad 3)) 2 (rfl : kd 1 = 3) fw_X5_turn_3 hw_X5_turn_1 (fun _ h9 => h9) (by decide) rfl dX5_turn_43 rfl ?_
      refine j_iload_n C0 1 dX5_turn_46 rfl rfl rfl ?_
      obtain ⟨h7, hX⟩ := hX
      refine j_aald C0 (n := 4) (t0 := 4) (5 + 3 * a1.toNatClampNeg) (kd_lt (kd_3w (rfl : kd 1 = 3)) (by decide)) (ce15 (kd_3w (rfl : kd 1 = 3))) rfl rfl h7 dX5_turn_47 rfl ?_
      refine j_iload_n C0 2 dX5_turn_48 rfl rfl rfl ?_
      obtain ⟨z8, hX⟩ := hX
      refine j_put4_4 C0 (kd_3e (o := 1) (rfl : kd 1 = 3) (vp_lt h7)) fw_X5_turn_4 hw_X5_turn_2 z8 dX5_turn_49 rfl ?_
      refine j_nm (fun μ9 e_μ9 => ?_)
      have hX := hX μ9 e_μ9
      refine j_aload_n C0 0 dX5_turn_52 rfl rfl rfl ?_
      refine j_get5 C0 (v := .ref (ad 1)) 0 (rfl : kd 0 = 5) fw_X5_turn_5 hw_X5_turn_0 (fun _ h9 => h9) (by decide) rfl dX5_turn_53 rfl ?_
      refine j_callVi C0 0 [] (c_X3_maskOfOn 1 (rfl : kd 1 = 3) hX) dX5_turn_56 gX5_turn_X3_maskOfOn rfl (by decide +kernel) ⟨⟨Nat.le_of_ble_eq_true rfl, Nat.le_of_ble_eq_true rfl⟩, rfl, rfl⟩ (kd_lt (rfl : kd 1 = 3) (by decide)) (ce3 (rfl : kd 1 = 3)) rfl rfl rfl (Nat.le_of_ble_eq_true rfl) rfl (fun r11 μ10 hX => ?_)
      refine j_callSi C0 1 [.int r11] (c_J6_bitCount_0f7a4 r11  hX) dX5_turn_59 gX5_turn_J6_bitCount_0f7a4 rfl (by decide +kernel) ⟨⟨Nat.le_of_ble_eq_true rfl, Nat.le_of_ble_eq_true rfl⟩, rfl, rfl⟩ rfl rfl (Nat.le_of_ble_eq_true rfl) rfl (fun r13 μ12 hX => ?_)
      exact j_iret C0 hlk hret dX5_turn_62 hX
  · have hX := hX.2 c3
    refine j_iconst C0 (-1) dX5_turn_7 (by decide) rfl ?_
    exact j_iret C0 hlk hret dX5_turn_8 hX
theorem c_X5_turn {l : Launch} {D : va_G} {Y : Nat → ClassId} {ad : Nat → Nat} (a1 : Int32) (a2 : Int32) {μ : Mem} {K : Int32 → Mem → Prop}  (hX : x_X5_turn a1 a2 μ K) : ConI l yX5_turn wsX5_turn rm_X5_turn [.ref (ad 0), .int a1, .int a2] D Y ad μ K := conI_of (cc := cX5_turn) (maxL := 3) (ret := (some .int)) (own := RX5) _ (by decide +kernel) rfl rfl (Nat.le_of_ble_eq_true rfl) (fun p e s m args below meth c C0 hlk hret => j_sub (l' := [(0, .ref (ad 0)), (1, .int a1), (2, .int a2)]) [0, 1, 2] rfl (w_X5_turn C0 hlk hret a1 a2 μ K  hX))
/-! PhaseTones.phase(II)I -/
abbrev rm_X5_phase : Room := rmf 4 84
theorem fw_X5_phase_3 : ∀ w ∈ wsX30, w ∈ wsX5_phase := by decide +kernel
theorem fw_X5_phase_4 : ∀ w ∈ wsX40, w ∈ wsX5_phase := by decide +kernel
theorem fw_X5_phase_5 : ∀ w ∈ wsX50, w ∈ wsX5_phase := by decide +kernel
theorem hw_X5_phase_0 : Cond.constant RX5 66 (65535) ∈ wsX5_phase := by decide +kernel
theorem hw_X5_phase_1 : Cond.fieldLink RX5 22 RX5 (TX5 2).2.1 (TX5 2).2.2.1 ∈ wsX5_phase := by decide +kernel
theorem hw_X5_phase_2 : Cond.fieldLink RX5 10 RX5 (TX5 0).2.1 (TX5 0).2.2.1 ∈ wsX5_phase := by decide +kernel
theorem hw_X5_phase_3 : Cond.fieldLink RX5 67 RX3 (TX3 2).2.1 (TX3 2).2.2.1 ∈ wsX5_phase := by decide +kernel
theorem hw_X5_phase_4 : Cond.fieldLink RX5 100 RX4 (TX4 0).2.1 (TX4 0).2.2.1 ∈ wsX5_phase := by decide +kernel
def x_X5_phase (a1 : Int32) (a2 : Int32) (μ : Mem) (K : Int32 → Mem → Prop) : Prop :=
  x_X5_isNoWheel a1 μ (fun r2 μ1 => (r2 = 0 → x_X5_isOutside a2 0 65535 μ1 (fun r5 μ4 => (r5 = 0 → x_X0_keep 1 μ4 (fun μ7 => vp_in a1 4 ∧ ∀ v9 : Int32, v9 = (μ7 (5 + 3 * a1.toNatClampNeg) 0) → vp_in a1 4 ∧ ∀ μ11 : Mem, μ11 = um μ7 (5 + 3 * a1.toNatClampNeg) (upd (μ7 (5 + 3 * a1.toNatClampNeg)) 0 a2) → K v9 μ11)) ∧ (¬ (r5 = 0) → K (-2) μ4))) ∧ (¬ (r2 = 0) → K (-1) μ1))
set_option maxRecDepth 20000 in
theorem w_X5_phase {p : Program} {l : Launch} {e : Env} {s : State} {m : MethodId} {args : Array Value} {below : List Frame} {meth : Method} {c : Code} {D : va_G} {Y : Nat → ClassId} {ad : Nat → Nat} (C0 : CX D Y ad (PA ad) rm_X5_phase 0 0 p s args m c cX5_phase 4 RX5 wsX5_phase) (hlk : meth.locks = false) (hret : meth.sig.returnType = (some .int)) (a1 : Int32) (a2 : Int32) (μ : Mem) (K : Int32 → Mem → Prop)  (hX : x_X5_phase a1 a2 μ K) : J p l e rm_X5_phase s m args below meth c D Y ad (PA ad) 0 0 4 (MQ below (va_Qi K (BB D Y ad) (PA ad)) args s 0 0 (PA ad)) 0 [(0, .ref (ad 0)), (1, .int a1), (2, .int a2)] [] μ := by
  refine j_iload_n C0 1 dX5_phase_0 rfl rfl rfl ?_
  refine j_callSi C0 1 [.int a1] (c_X5_isNoWheel a1  hX) dX5_phase_1 gX5_phase_X5_isNoWheel rfl (by decide +kernel) ⟨⟨Nat.le_of_ble_eq_true rfl, Nat.le_of_ble_eq_true rfl⟩, rfl, rfl⟩ rfl rfl (Nat.le_of_ble_eq_true rfl) rfl (fun r2 μ1 hX => ?_)
  refine j_if_eq C0 (tgt := 9) dX5_phase_4 (by decide) rfl (fun c3 => ?_) (fun c3 => ?_)
  · have hX := hX.1 c3
    refine j_iload_n C0 2 dX5_phase_9 rfl rfl rfl ?_
    refine j_iconst C0 0 dX5_phase_10 (by decide) rfl ?_
    refine j_ldc C0 65535 dX5_phase_11 hw_X5_phase_0 rfl ?_
    refine j_callSi C0 3 [.int a2, .int 0, .int 65535] (c_X5_isOutside a2 0 65535  hX) dX5_phase_13 gX5_phase_X5_isOutside rfl (by decide +kernel) ⟨⟨Nat.le_of_ble_eq_true rfl, Nat.le_of_ble_eq_true rfl⟩, rfl, rfl⟩ rfl rfl (Nat.le_of_ble_eq_true rfl) rfl (fun r5 μ4 hX => ?_)
    refine j_if_eq C0 (tgt := 22) dX5_phase_16 (by decide) rfl (fun c6 => ?_) (fun c6 => ?_)
    · have hX := hX.1 c6
      refine j_aload_n C0 0 dX5_phase_22 rfl rfl rfl ?_
      refine j_get5 C0 (v := .ref (ad 33)) 2 (rfl : kd 0 = 5) fw_X5_phase_5 hw_X5_phase_1 (fun _ h9 => h9) (by decide) rfl dX5_phase_23 rfl ?_
      refine j_aload_n C0 0 dX5_phase_26 rfl rfl rfl ?_
      refine j_get5 C0 (v := .ref (ad 1)) 0 (rfl : kd 0 = 5) fw_X5_phase_5 hw_X5_phase_2 (fun _ h9 => h9) (by decide) rfl dX5_phase_27 rfl ?_
      refine j_callVv C0 1 [.ref (ad 1)] (c_X0_keep 1 (rfl : kd 1 = 3) hX) dX5_phase_30 gX5_phase_X0_keep rfl (by decide +kernel) ⟨⟨Nat.le_of_ble_eq_true rfl, Nat.le_of_ble_eq_true rfl⟩, rfl, rfl⟩ (kd_lt (rfl : kd 33 = 0) (by decide)) (ce0 (rfl : kd 33 = 0)) rfl rfl rfl (Nat.le_of_ble_eq_true rfl) rfl (fun μ7 hX => ?_)
      refine j_aload_n C0 0 dX5_phase_33 rfl rfl rfl ?_
      refine j_get5 C0 (v := .ref (ad 1)) 0 (rfl : kd 0 = 5) fw_X5_phase_5 hw_X5_phase_2 (fun _ h9 => h9) (by decide) rfl dX5_phase_34 rfl ?_
      refine j_get3 C0 (v := .ref (ad 3)) 2 (rfl : kd 1 = 3) fw_X5_phase_3 hw_X5_phase_3 (fun _ h9 => h9) (by decide) rfl dX5_phase_37 rfl ?_
      refine j_iload_n C0 1 dX5_phase_40 rfl rfl rfl ?_
      obtain ⟨h8, hX⟩ := hX
      refine j_aald C0 (n := 4) (t0 := 4) (5 + 3 * a1.toNatClampNeg) (kd_lt (kd_3w (rfl : kd 1 = 3)) (by decide)) (ce15 (kd_3w (rfl : kd 1 = 3))) rfl rfl h8 dX5_phase_41 rfl ?_
      refine j_get4 C0 (v := .int (μ7 (5 + 3 * a1.toNatClampNeg) 0)) 0 (kd_3e (o := 1) (rfl : kd 1 = 3) (vp_lt h8)) fw_X5_phase_4 hw_X5_phase_4 (fun _ h9 => h9) (by decide) rfl dX5_phase_42 rfl ?_
      refine j_topi (fun v9 e_v9 => ?_)
      have hX := hX v9 e_v9
      refine j_istore_n C0 [(3, .int v9), (0, .ref (ad 0)), (1, .int a1), (2, .int a2)] dX5_phase_45 rfl (by decide) rfl rfl ?_
      refine j_aload_n C0 1 dX5_phase_46 rfl rfl rfl ?_
      refine j_get5 C0 (v := .ref (ad 1)) 0 (rfl : kd 0 = 5) fw_X5_phase_5 hw_X5_phase_2 (fun _ h9 => h9) (by decide) rfl dX5_phase_47 rfl ?_
      refine j_get3 C0 (v := .ref (ad 3)) 2 (rfl : kd 1 = 3) fw_X5_phase_3 hw_X5_phase_3 (fun _ h9 => h9) (by decide) rfl dX5_phase_50 rfl ?_
      refine j_iload_n C0 2 dX5_phase_53 rfl rfl rfl ?_
      obtain ⟨h10, hX⟩ := hX
      refine j_aald C0 (n := 4) (t0 := 4) (5 + 3 * a1.toNatClampNeg) (kd_lt (kd_3w (rfl : kd 1 = 3)) (by decide)) (ce15 (kd_3w (rfl : kd 1 = 3))) rfl rfl h10 dX5_phase_54 rfl ?_
      refine j_iload_n C0 3 dX5_phase_55 rfl rfl rfl ?_
      refine j_put4_0 C0 (kd_3e (o := 1) (rfl : kd 1 = 3) (vp_lt h10)) fw_X5_phase_4 hw_X5_phase_4 dX5_phase_56 rfl ?_
      refine j_nm (fun μ11 e_μ11 => ?_)
      have hX := hX μ11 e_μ11
      refine j_iload_n C0 0 dX5_phase_59 rfl rfl rfl ?_
      exact j_iret C0 hlk hret dX5_phase_60 hX
    · have hX := hX.2 c6
      refine j_bipush C0 (-2) dX5_phase_19 (by decide) rfl ?_
      exact j_iret C0 hlk hret dX5_phase_21 hX
  · have hX := hX.2 c3
    refine j_iconst C0 (-1) dX5_phase_7 (by decide) rfl ?_
    exact j_iret C0 hlk hret dX5_phase_8 hX
theorem c_X5_phase {l : Launch} {D : va_G} {Y : Nat → ClassId} {ad : Nat → Nat} (a1 : Int32) (a2 : Int32) {μ : Mem} {K : Int32 → Mem → Prop}  (hX : x_X5_phase a1 a2 μ K) : ConI l yX5_phase wsX5_phase rm_X5_phase [.ref (ad 0), .int a1, .int a2] D Y ad μ K := conI_of (cc := cX5_phase) (maxL := 4) (ret := (some .int)) (own := RX5) _ (by decide +kernel) rfl rfl (Nat.le_of_ble_eq_true rfl) (fun p e s m args below meth c C0 hlk hret => j_sub (l' := [(0, .ref (ad 0)), (1, .int a1), (2, .int a2)]) [0, 1, 2] rfl (w_X5_phase C0 hlk hret a1 a2 μ K  hX))
/-! PhaseTones.sweep(III)I -/
abbrev rm_X5_sweep : Room := rmf 4 84
theorem fw_X5_sweep_3 : ∀ w ∈ wsX30, w ∈ wsX5_sweep := by decide +kernel
theorem fw_X5_sweep_4 : ∀ w ∈ wsX40, w ∈ wsX5_sweep := by decide +kernel
theorem fw_X5_sweep_5 : ∀ w ∈ wsX50, w ∈ wsX5_sweep := by decide +kernel
theorem hw_X5_sweep_0 : Cond.constant RX5 66 (65535) ∈ wsX5_sweep := by decide +kernel
theorem hw_X5_sweep_1 : Cond.fieldLink RX5 10 RX5 (TX5 0).2.1 (TX5 0).2.2.1 ∈ wsX5_sweep := by decide +kernel
theorem hw_X5_sweep_2 : Cond.fieldLink RX5 67 RX3 (TX3 2).2.1 (TX3 2).2.2.1 ∈ wsX5_sweep := by decide +kernel
theorem hw_X5_sweep_3 : Cond.fieldLink RX5 103 RX4 (TX4 5).2.1 (TX4 5).2.2.1 ∈ wsX5_sweep := by decide +kernel
theorem hw_X5_sweep_4 : Cond.fieldLink RX5 22 RX5 (TX5 2).2.1 (TX5 2).2.2.1 ∈ wsX5_sweep := by decide +kernel
def x_X5_sweep (a1 : Int32) (a2 : Int32) (a3 : Int32) (μ : Mem) (K : Int32 → Mem → Prop) : Prop :=
  x_X5_isNoWheel a1 μ (fun r2 μ1 => (r2 = 0 → x_X5_isOutside a2 0 65535 μ1 (fun r5 μ4 => (r5 = 0 → x_X5_isOutside a3 1 999 μ4 (fun r8 μ7 => (r8 = 0 → vp_in a1 4 ∧ ((μ7 (5 + 3 * a1.toNatClampNeg) 5) < 4 → x_X0_keep 1 μ7 (fun μ12 => vp_in a1 4 ∧ x_X4_addSweep (5 + 3 * a1.toNatClampNeg) a2 a3 μ12 (fun r15 μ14 => vp_in a1 4 ∧ K (μ14 (5 + 3 * a1.toNatClampNeg) 5) μ14))) ∧ (¬ ((μ7 (5 + 3 * a1.toNatClampNeg) 5) < 4) → K (-4) μ7)) ∧ (¬ (r8 = 0) → K (-2) μ7))) ∧ (¬ (r5 = 0) → K (-2) μ4))) ∧ (¬ (r2 = 0) → K (-1) μ1))
set_option maxRecDepth 20000 in
theorem w_X5_sweep {p : Program} {l : Launch} {e : Env} {s : State} {m : MethodId} {args : Array Value} {below : List Frame} {meth : Method} {c : Code} {D : va_G} {Y : Nat → ClassId} {ad : Nat → Nat} (C0 : CX D Y ad (PA ad) rm_X5_sweep 0 0 p s args m c cX5_sweep 4 RX5 wsX5_sweep) (hlk : meth.locks = false) (hret : meth.sig.returnType = (some .int)) (a1 : Int32) (a2 : Int32) (a3 : Int32) (μ : Mem) (K : Int32 → Mem → Prop)  (hX : x_X5_sweep a1 a2 a3 μ K) : J p l e rm_X5_sweep s m args below meth c D Y ad (PA ad) 0 0 4 (MQ below (va_Qi K (BB D Y ad) (PA ad)) args s 0 0 (PA ad)) 0 [(0, .ref (ad 0)), (1, .int a1), (2, .int a2), (3, .int a3)] [] μ := by
  refine j_iload_n C0 1 dX5_sweep_0 rfl rfl rfl ?_
  refine j_callSi C0 1 [.int a1] (c_X5_isNoWheel a1  hX) dX5_sweep_1 gX5_sweep_X5_isNoWheel rfl (by decide +kernel) ⟨⟨Nat.le_of_ble_eq_true rfl, Nat.le_of_ble_eq_true rfl⟩, rfl, rfl⟩ rfl rfl (Nat.le_of_ble_eq_true rfl) rfl (fun r2 μ1 hX => ?_)
  refine j_if_eq C0 (tgt := 9) dX5_sweep_4 (by decide) rfl (fun c3 => ?_) (fun c3 => ?_)
  · have hX := hX.1 c3
    refine j_iload_n C0 2 dX5_sweep_9 rfl rfl rfl ?_
    refine j_iconst C0 0 dX5_sweep_10 (by decide) rfl ?_
    refine j_ldc C0 65535 dX5_sweep_11 hw_X5_sweep_0 rfl ?_
    refine j_callSi C0 3 [.int a2, .int 0, .int 65535] (c_X5_isOutside a2 0 65535  hX) dX5_sweep_13 gX5_sweep_X5_isOutside rfl (by decide +kernel) ⟨⟨Nat.le_of_ble_eq_true rfl, Nat.le_of_ble_eq_true rfl⟩, rfl, rfl⟩ rfl rfl (Nat.le_of_ble_eq_true rfl) rfl (fun r5 μ4 hX => ?_)
    refine j_if_ne C0 (tgt := 30) dX5_sweep_16 (by decide) rfl (fun c6 => ?_) (fun c6 => ?_)
    · have hX := hX.1 c6
      refine j_iload_n C0 3 dX5_sweep_19 rfl rfl rfl ?_
      refine j_iconst C0 1 dX5_sweep_20 (by decide) rfl ?_
      refine j_sipush C0 999 dX5_sweep_21 (by decide) rfl ?_
      refine j_callSi C0 3 [.int a3, .int 1, .int 999] (c_X5_isOutside a3 1 999  hX) dX5_sweep_24 gX5_sweep_X5_isOutside rfl (by decide +kernel) ⟨⟨Nat.le_of_ble_eq_true rfl, Nat.le_of_ble_eq_true rfl⟩, rfl, rfl⟩ rfl rfl (Nat.le_of_ble_eq_true rfl) rfl (fun r8 μ7 hX => ?_)
      refine j_if_eq C0 (tgt := 33) dX5_sweep_27 (by decide) rfl (fun c9 => ?_) (fun c9 => ?_)
      · have hX := hX.1 c9
        refine j_aload_n C0 0 dX5_sweep_33 rfl rfl rfl ?_
        refine j_get5 C0 (v := .ref (ad 1)) 0 (rfl : kd 0 = 5) fw_X5_sweep_5 hw_X5_sweep_1 (fun _ h9 => h9) (by decide) rfl dX5_sweep_34 rfl ?_
        refine j_get3 C0 (v := .ref (ad 3)) 2 (rfl : kd 1 = 3) fw_X5_sweep_3 hw_X5_sweep_2 (fun _ h9 => h9) (by decide) rfl dX5_sweep_37 rfl ?_
        refine j_iload_n C0 1 dX5_sweep_40 rfl rfl rfl ?_
        obtain ⟨h10, hX⟩ := hX
        refine j_aald C0 (n := 4) (t0 := 4) (5 + 3 * a1.toNatClampNeg) (kd_lt (kd_3w (rfl : kd 1 = 3)) (by decide)) (ce15 (kd_3w (rfl : kd 1 = 3))) rfl rfl h10 dX5_sweep_41 rfl ?_
        refine j_get4 C0 (v := .int (μ7 (5 + 3 * a1.toNatClampNeg) 5)) 5 (kd_3e (o := 1) (rfl : kd 1 = 3) (vp_lt h10)) fw_X5_sweep_4 hw_X5_sweep_3 (fun _ h9 => h9) (by decide) rfl dX5_sweep_42 rfl ?_
        refine j_iconst C0 4 dX5_sweep_45 (by decide) rfl ?_
        refine j_icmp_lt C0 (tgt := 52) dX5_sweep_46 (by decide) rfl (fun c11 => ?_) (fun c11 => ?_)
        · have hX := hX.1 c11
          refine j_aload_n C0 0 dX5_sweep_52 rfl rfl rfl ?_
          refine j_get5 C0 (v := .ref (ad 33)) 2 (rfl : kd 0 = 5) fw_X5_sweep_5 hw_X5_sweep_4 (fun _ h9 => h9) (by decide) rfl dX5_sweep_53 rfl ?_
          refine j_aload_n C0 0 dX5_sweep_56 rfl rfl rfl ?_
          refine j_get5 C0 (v := .ref (ad 1)) 0 (rfl : kd 0 = 5) fw_X5_sweep_5 hw_X5_sweep_1 (fun _ h9 => h9) (by decide) rfl dX5_sweep_57 rfl ?_
          refine j_callVv C0 1 [.ref (ad 1)] (c_X0_keep 1 (rfl : kd 1 = 3) hX) dX5_sweep_60 gX5_sweep_X0_keep rfl (by decide +kernel) ⟨⟨Nat.le_of_ble_eq_true rfl, Nat.le_of_ble_eq_true rfl⟩, rfl, rfl⟩ (kd_lt (rfl : kd 33 = 0) (by decide)) (ce0 (rfl : kd 33 = 0)) rfl rfl rfl (Nat.le_of_ble_eq_true rfl) rfl (fun μ12 hX => ?_)
          refine j_aload_n C0 0 dX5_sweep_63 rfl rfl rfl ?_
          refine j_get5 C0 (v := .ref (ad 1)) 0 (rfl : kd 0 = 5) fw_X5_sweep_5 hw_X5_sweep_1 (fun _ h9 => h9) (by decide) rfl dX5_sweep_64 rfl ?_
          refine j_get3 C0 (v := .ref (ad 3)) 2 (rfl : kd 1 = 3) fw_X5_sweep_3 hw_X5_sweep_2 (fun _ h9 => h9) (by decide) rfl dX5_sweep_67 rfl ?_
          refine j_iload_n C0 1 dX5_sweep_70 rfl rfl rfl ?_
          obtain ⟨h13, hX⟩ := hX
          refine j_aald C0 (n := 4) (t0 := 4) (5 + 3 * a1.toNatClampNeg) (kd_lt (kd_3w (rfl : kd 1 = 3)) (by decide)) (ce15 (kd_3w (rfl : kd 1 = 3))) rfl rfl h13 dX5_sweep_71 rfl ?_
          refine j_iload_n C0 2 dX5_sweep_72 rfl rfl rfl ?_
          refine j_iload_n C0 3 dX5_sweep_73 rfl rfl rfl ?_
          refine j_callVi C0 2 [.int a2, .int a3] (c_X4_addSweep (5 + 3 * a1.toNatClampNeg) a2 a3 (kd_3e (o := 1) (rfl : kd 1 = 3) (vp_lt h13)) hX) dX5_sweep_74 gX5_sweep_X4_addSweep rfl (by decide +kernel) ⟨⟨Nat.le_of_ble_eq_true rfl, Nat.le_of_ble_eq_true rfl⟩, rfl, rfl⟩ (kd_lt (kd_3e (o := 1) (rfl : kd 1 = 3) (vp_lt h13)) (by decide)) (ce4 (kd_3e (o := 1) (rfl : kd 1 = 3) (vp_lt h13))) rfl rfl rfl (Nat.le_of_ble_eq_true rfl) rfl (fun r15 μ14 hX => ?_)
          refine j_pop C0 dX5_sweep_77 rfl rfl ?_
          refine j_aload_n C0 0 dX5_sweep_78 rfl rfl rfl ?_
          refine j_get5 C0 (v := .ref (ad 1)) 0 (rfl : kd 0 = 5) fw_X5_sweep_5 hw_X5_sweep_1 (fun _ h9 => h9) (by decide) rfl dX5_sweep_79 rfl ?_
          refine j_get3 C0 (v := .ref (ad 3)) 2 (rfl : kd 1 = 3) fw_X5_sweep_3 hw_X5_sweep_2 (fun _ h9 => h9) (by decide) rfl dX5_sweep_82 rfl ?_
          refine j_iload_n C0 1 dX5_sweep_85 rfl rfl rfl ?_
          obtain ⟨h16, hX⟩ := hX
          refine j_aald C0 (n := 4) (t0 := 4) (5 + 3 * a1.toNatClampNeg) (kd_lt (kd_3w (rfl : kd 1 = 3)) (by decide)) (ce15 (kd_3w (rfl : kd 1 = 3))) rfl rfl h16 dX5_sweep_86 rfl ?_
          refine j_get4 C0 (v := .int (μ14 (5 + 3 * a1.toNatClampNeg) 5)) 5 (kd_3e (o := 1) (rfl : kd 1 = 3) (vp_lt h16)) fw_X5_sweep_4 hw_X5_sweep_3 (fun _ h9 => h9) (by decide) rfl dX5_sweep_87 rfl ?_
          exact j_iret C0 hlk hret dX5_sweep_90 hX
        · have hX := hX.2 c11
          refine j_bipush C0 (-4) dX5_sweep_49 (by decide) rfl ?_
          exact j_iret C0 hlk hret dX5_sweep_51 hX
      · have hX := hX.2 c9
        refine j_bipush C0 (-2) dX5_sweep_30 (by decide) rfl ?_
        exact j_iret C0 hlk hret dX5_sweep_32 hX
    · have hX := hX.2 c6
      refine j_bipush C0 (-2) dX5_sweep_30 (by decide) rfl ?_
      exact j_iret C0 hlk hret dX5_sweep_32 hX
  · have hX := hX.2 c3
    refine j_iconst C0 (-1) dX5_sweep_7 (by decide) rfl ?_
    exact j_iret C0 hlk hret dX5_sweep_8 hX
theorem c_X5_sweep {l : Launch} {D : va_G} {Y : Nat → ClassId} {ad : Nat → Nat} (a1 : Int32) (a2 : Int32) (a3 : Int32) {μ : Mem} {K : Int32 → Mem → Prop}  (hX : x_X5_sweep a1 a2 a3 μ K) : ConI l yX5_sweep wsX5_sweep rm_X5_sweep [.ref (ad 0), .int a1, .int a2, .int a3] D Y ad μ K := conI_of (cc := cX5_sweep) (maxL := 4) (ret := (some .int)) (own := RX5) _ (by decide +kernel) rfl rfl (Nat.le_of_ble_eq_true rfl) (fun p e s m args below meth c C0 hlk hret => j_sub (l' := [(0, .ref (ad 0)), (1, .int a1), (2, .int a2), (3, .int a3)]) [0, 1, 2, 3] rfl (w_X5_sweep C0 hlk hret a1 a2 a3 μ K  hX))
/-! PhaseTones.make(I)I -/
abbrev rm_X5_make : Room := rmf 5 108
theorem fw_X5_make_5 : ∀ w ∈ wsX50, w ∈ wsX5_make := by decide +kernel
theorem hw_X5_make_0 : Cond.fieldLink RX5 10 RX5 (TX5 0).2.1 (TX5 0).2.2.1 ∈ wsX5_make := by decide +kernel
theorem hw_X5_make_1 : Cond.fieldLink RX5 22 RX5 (TX5 2).2.1 (TX5 2).2.2.1 ∈ wsX5_make := by decide +kernel
def x_X5_make (a1 : Int32) (μ : Mem) (K : Int32 → Mem → Prop) : Prop :=
  x_X5_isOutside a1 1 999 μ (fun r2 μ1 => (r2 = 0 → x_X3_hasNoRoomFor 1 a1 μ1 (fun r5 μ4 => (r5 = 0 → x_X0_keep 1 μ4 (fun μ7 => x_X3_makeSome 1 a1 μ7 (fun r9 μ8 => x_X3_mixtureAgo 1 0 μ8 (fun r11 μ10 => K r11 μ10)))) ∧ (¬ (r5 = 0) → K (-4) μ4))) ∧ (¬ (r2 = 0) → K (-2) μ1))
set_option maxRecDepth 20000 in
theorem w_X5_make {p : Program} {l : Launch} {e : Env} {s : State} {m : MethodId} {args : Array Value} {below : List Frame} {meth : Method} {c : Code} {D : va_G} {Y : Nat → ClassId} {ad : Nat → Nat} (C0 : CX D Y ad (PA ad) rm_X5_make 0 0 p s args m c cX5_make 2 RX5 wsX5_make) (hlk : meth.locks = false) (hret : meth.sig.returnType = (some .int)) (a1 : Int32) (μ : Mem) (K : Int32 → Mem → Prop)  (hX : x_X5_make a1 μ K) : J p l e rm_X5_make s m args below meth c D Y ad (PA ad) 0 0 2 (MQ below (va_Qi K (BB D Y ad) (PA ad)) args s 0 0 (PA ad)) 0 [(0, .ref (ad 0)), (1, .int a1)] [] μ := by
  refine j_iload_n C0 1 dX5_make_0 rfl rfl rfl ?_
  refine j_iconst C0 1 dX5_make_1 (by decide) rfl ?_
  refine j_sipush C0 999 dX5_make_2 (by decide) rfl ?_
  refine j_callSi C0 3 [.int a1, .int 1, .int 999] (c_X5_isOutside a1 1 999  hX) dX5_make_5 gX5_make_X5_isOutside rfl (by decide +kernel) ⟨⟨Nat.le_of_ble_eq_true rfl, Nat.le_of_ble_eq_true rfl⟩, rfl, rfl⟩ rfl rfl (Nat.le_of_ble_eq_true rfl) rfl (fun r2 μ1 hX => ?_)
  refine j_if_eq C0 (tgt := 14) dX5_make_8 (by decide) rfl (fun c3 => ?_) (fun c3 => ?_)
  · have hX := hX.1 c3
    refine j_aload_n C0 0 dX5_make_14 rfl rfl rfl ?_
    refine j_get5 C0 (v := .ref (ad 1)) 0 (rfl : kd 0 = 5) fw_X5_make_5 hw_X5_make_0 (fun _ h9 => h9) (by decide) rfl dX5_make_15 rfl ?_
    refine j_iload_n C0 1 dX5_make_18 rfl rfl rfl ?_
    refine j_callVi C0 1 [.int a1] (c_X3_hasNoRoomFor 1 a1 (rfl : kd 1 = 3) hX) dX5_make_19 gX5_make_X3_hasNoRoomFor rfl (by decide +kernel) ⟨⟨Nat.le_of_ble_eq_true rfl, Nat.le_of_ble_eq_true rfl⟩, rfl, rfl⟩ (kd_lt (rfl : kd 1 = 3) (by decide)) (ce3 (rfl : kd 1 = 3)) rfl rfl rfl (Nat.le_of_ble_eq_true rfl) rfl (fun r5 μ4 hX => ?_)
    refine j_if_eq C0 (tgt := 28) dX5_make_22 (by decide) rfl (fun c6 => ?_) (fun c6 => ?_)
    · have hX := hX.1 c6
      refine j_aload_n C0 0 dX5_make_28 rfl rfl rfl ?_
      refine j_get5 C0 (v := .ref (ad 33)) 2 (rfl : kd 0 = 5) fw_X5_make_5 hw_X5_make_1 (fun _ h9 => h9) (by decide) rfl dX5_make_29 rfl ?_
      refine j_aload_n C0 0 dX5_make_32 rfl rfl rfl ?_
      refine j_get5 C0 (v := .ref (ad 1)) 0 (rfl : kd 0 = 5) fw_X5_make_5 hw_X5_make_0 (fun _ h9 => h9) (by decide) rfl dX5_make_33 rfl ?_
      refine j_callVv C0 1 [.ref (ad 1)] (c_X0_keep 1 (rfl : kd 1 = 3) hX) dX5_make_36 gX5_make_X0_keep rfl (by decide +kernel) ⟨⟨Nat.le_of_ble_eq_true rfl, Nat.le_of_ble_eq_true rfl⟩, rfl, rfl⟩ (kd_lt (rfl : kd 33 = 0) (by decide)) (ce0 (rfl : kd 33 = 0)) rfl rfl rfl (Nat.le_of_ble_eq_true rfl) rfl (fun μ7 hX => ?_)
      refine j_aload_n C0 0 dX5_make_39 rfl rfl rfl ?_
      refine j_get5 C0 (v := .ref (ad 1)) 0 (rfl : kd 0 = 5) fw_X5_make_5 hw_X5_make_0 (fun _ h9 => h9) (by decide) rfl dX5_make_40 rfl ?_
      refine j_iload_n C0 1 dX5_make_43 rfl rfl rfl ?_
      refine j_callVi C0 1 [.int a1] (c_X3_makeSome 1 a1 (rfl : kd 1 = 3) hX) dX5_make_44 gX5_make_X3_makeSome rfl (by decide +kernel) ⟨⟨Nat.le_of_ble_eq_true rfl, Nat.le_of_ble_eq_true rfl⟩, rfl, rfl⟩ (kd_lt (rfl : kd 1 = 3) (by decide)) (ce3 (rfl : kd 1 = 3)) rfl rfl rfl (Nat.le_of_ble_eq_true rfl) rfl (fun r9 μ8 hX => ?_)
      refine j_pop C0 dX5_make_47 rfl rfl ?_
      refine j_aload_n C0 0 dX5_make_48 rfl rfl rfl ?_
      refine j_get5 C0 (v := .ref (ad 1)) 0 (rfl : kd 0 = 5) fw_X5_make_5 hw_X5_make_0 (fun _ h9 => h9) (by decide) rfl dX5_make_49 rfl ?_
      refine j_iconst C0 0 dX5_make_52 (by decide) rfl ?_
      refine j_callVi C0 1 [.int 0] (c_X3_mixtureAgo 1 0 (rfl : kd 1 = 3) hX) dX5_make_53 gX5_make_X3_mixtureAgo rfl (by decide +kernel) ⟨⟨Nat.le_of_ble_eq_true rfl, Nat.le_of_ble_eq_true rfl⟩, rfl, rfl⟩ (kd_lt (rfl : kd 1 = 3) (by decide)) (ce3 (rfl : kd 1 = 3)) rfl rfl rfl (Nat.le_of_ble_eq_true rfl) rfl (fun r11 μ10 hX => ?_)
      exact j_iret C0 hlk hret dX5_make_56 hX
    · have hX := hX.2 c6
      refine j_bipush C0 (-4) dX5_make_25 (by decide) rfl ?_
      exact j_iret C0 hlk hret dX5_make_27 hX
  · have hX := hX.2 c3
    refine j_bipush C0 (-2) dX5_make_11 (by decide) rfl ?_
    exact j_iret C0 hlk hret dX5_make_13 hX
theorem c_X5_make {l : Launch} {D : va_G} {Y : Nat → ClassId} {ad : Nat → Nat} (a1 : Int32) {μ : Mem} {K : Int32 → Mem → Prop}  (hX : x_X5_make a1 μ K) : ConI l yX5_make wsX5_make rm_X5_make [.ref (ad 0), .int a1] D Y ad μ K := conI_of (cc := cX5_make) (maxL := 2) (ret := (some .int)) (own := RX5) _ (by decide +kernel) rfl rfl (Nat.le_of_ble_eq_true rfl) (fun p e s m args below meth c C0 hlk hret => j_sub (l' := [(0, .ref (ad 0)), (1, .int a1)]) [0, 1] rfl (w_X5_make C0 hlk hret a1 μ K  hX))
/-! PhaseTones.wheel(II)I -/
abbrev rm_X5_wheel : Room := rmf 2 42
theorem fw_X5_wheel_3 : ∀ w ∈ wsX30, w ∈ wsX5_wheel := by decide +kernel
theorem fw_X5_wheel_4 : ∀ w ∈ wsX40, w ∈ wsX5_wheel := by decide +kernel
theorem fw_X5_wheel_5 : ∀ w ∈ wsX50, w ∈ wsX5_wheel := by decide +kernel
theorem hw_X5_wheel_0 : Cond.fieldLink RX5 10 RX5 (TX5 0).2.1 (TX5 0).2.2.1 ∈ wsX5_wheel := by decide +kernel
theorem hw_X5_wheel_1 : Cond.fieldLink RX5 67 RX3 (TX3 2).2.1 (TX3 2).2.2.1 ∈ wsX5_wheel := by decide +kernel
theorem hw_X5_wheel_2 : Cond.fieldLink RX5 100 RX4 (TX4 0).2.1 (TX4 0).2.2.1 ∈ wsX5_wheel := by decide +kernel
theorem hw_X5_wheel_3 : Cond.fieldLink RX5 71 RX4 (TX4 1).2.1 (TX4 1).2.2.1 ∈ wsX5_wheel := by decide +kernel
theorem hw_X5_wheel_4 : Cond.fieldLink RX5 80 RX4 (TX4 2).2.1 (TX4 2).2.2.1 ∈ wsX5_wheel := by decide +kernel
theorem hw_X5_wheel_5 : Cond.fieldLink RX5 83 RX4 (TX4 3).2.1 (TX4 3).2.2.1 ∈ wsX5_wheel := by decide +kernel
theorem hw_X5_wheel_6 : Cond.fieldLink RX5 86 RX4 (TX4 4).2.1 (TX4 4).2.2.1 ∈ wsX5_wheel := by decide +kernel
theorem hw_X5_wheel_7 : Cond.fieldLink RX5 103 RX4 (TX4 5).2.1 (TX4 5).2.2.1 ∈ wsX5_wheel := by decide +kernel
def x_X5_wheel (a1 : Int32) (a2 : Int32) (μ : Mem) (K : Int32 → Mem → Prop) : Prop :=
  x_X5_isNoWheel a1 μ (fun r2 μ1 => (r2 = 0 → vp_in a1 4 ∧ (a2 = 0 → K (μ1 (5 + 3 * a1.toNatClampNeg) 0) μ1) ∧ (¬ (a2 = 0) → (a2 = 1 → K (μ1 (5 + 3 * a1.toNatClampNeg) 1) μ1) ∧ (¬ (a2 = 1) → (a2 = 2 → K (μ1 (5 + 3 * a1.toNatClampNeg) 2) μ1) ∧ (¬ (a2 = 2) → (a2 = 3 → K (μ1 (5 + 3 * a1.toNatClampNeg) 3) μ1) ∧ (¬ (a2 = 3) → (a2 = 4 → ((μ1 (5 + 3 * a1.toNatClampNeg) 4) = 0 → K 0 μ1) ∧ (¬ ((μ1 (5 + 3 * a1.toNatClampNeg) 4) = 0) → K 1 μ1)) ∧ (¬ (a2 = 4) → (a2 = 5 → K (μ1 (5 + 3 * a1.toNatClampNeg) 5) μ1) ∧ (¬ (a2 = 5) → (a2 = 6 → x_X3_valueGivenBy 1 (5 + 3 * a1.toNatClampNeg) μ1 (fun r14 μ13 => K r14 μ13)) ∧ (¬ (a2 = 6) → (a2 = 7 → x_X4_image (5 + 3 * a1.toNatClampNeg) μ1 (fun r17 μ16 => K r17 μ16)) ∧ (¬ (a2 = 7) → (a2 = 8 → x_X4_samplesOfARound (5 + 3 * a1.toNatClampNeg) μ1 (fun r20 μ19 => K r20 μ19)) ∧ (¬ (a2 = 8) → (a2 = 9 → x_X4_samplesOfSweeps (5 + 3 * a1.toNatClampNeg) μ1 (fun r23 μ22 => K r23 μ22)) ∧ (¬ (a2 = 9) → (a2 = 10 → x_X4_lastStep (5 + 3 * a1.toNatClampNeg) μ1 (fun r26 μ25 => K r26 μ25)) ∧ (¬ (a2 = 10) → K (-2) μ1)))))))))))) ∧ (¬ (r2 = 0) → K (-1) μ1))
set_option maxRecDepth 20000 in
theorem w_X5_wheel {p : Program} {l : Launch} {e : Env} {s : State} {m : MethodId} {args : Array Value} {below : List Frame} {meth : Method} {c : Code} {D : va_G} {Y : Nat → ClassId} {ad : Nat → Nat} (C0 : CX D Y ad (PA ad) rm_X5_wheel 0 0 p s args m c cX5_wheel 4 RX5 wsX5_wheel) (hlk : meth.locks = false) (hret : meth.sig.returnType = (some .int)) (a1 : Int32) (a2 : Int32) (μ : Mem) (K : Int32 → Mem → Prop)  (hX : x_X5_wheel a1 a2 μ K) : J p l e rm_X5_wheel s m args below meth c D Y ad (PA ad) 0 0 4 (MQ below (va_Qi K (BB D Y ad) (PA ad)) args s 0 0 (PA ad)) 0 [(0, .ref (ad 0)), (1, .int a1), (2, .int a2)] [] μ := by
  refine j_iload_n C0 1 dX5_wheel_0 rfl rfl rfl ?_
  refine j_callSi C0 1 [.int a1] (c_X5_isNoWheel a1  hX) dX5_wheel_1 gX5_wheel_X5_isNoWheel rfl (by decide +kernel) ⟨⟨Nat.le_of_ble_eq_true rfl, Nat.le_of_ble_eq_true rfl⟩, rfl, rfl⟩ rfl rfl (Nat.le_of_ble_eq_true rfl) rfl (fun r2 μ1 hX => ?_)
  refine j_if_eq C0 (tgt := 9) dX5_wheel_4 (by decide) rfl (fun c3 => ?_) (fun c3 => ?_)
  · have hX := hX.1 c3
    refine j_aload_n C0 0 dX5_wheel_9 rfl rfl rfl ?_
    refine j_get5 C0 (v := .ref (ad 1)) 0 (rfl : kd 0 = 5) fw_X5_wheel_5 hw_X5_wheel_0 (fun _ h9 => h9) (by decide) rfl dX5_wheel_10 rfl ?_
    refine j_get3 C0 (v := .ref (ad 3)) 2 (rfl : kd 1 = 3) fw_X5_wheel_3 hw_X5_wheel_1 (fun _ h9 => h9) (by decide) rfl dX5_wheel_13 rfl ?_
    refine j_iload_n C0 1 dX5_wheel_16 rfl rfl rfl ?_
    obtain ⟨h4, hX⟩ := hX
    refine j_aald C0 (n := 4) (t0 := 4) (5 + 3 * a1.toNatClampNeg) (kd_lt (kd_3w (rfl : kd 1 = 3)) (by decide)) (ce15 (kd_3w (rfl : kd 1 = 3))) rfl rfl h4 dX5_wheel_17 rfl ?_
    refine j_astore_n C0 [(3, .ref (ad (5 + 3 * a1.toNatClampNeg))), (0, .ref (ad 0)), (1, .int a1), (2, .int a2)] dX5_wheel_18 rfl (by decide) rfl rfl ?_
    refine j_iload_n C0 3 dX5_wheel_19 rfl rfl rfl ?_
    by_cases c5 : a2 = 0
    · have hX := hX.1 c5
      refine j_tableIn C0 (off := 60) (tgt := 80) dX5_wheel_20 (by rw [c5]; decide) (by rw [c5]; decide) (by rw [c5]; decide) (by decide) ?_
      refine j_aload_n C0 0 dX5_wheel_80 rfl rfl rfl ?_
      refine j_get4 C0 (v := .int (μ1 (5 + 3 * a1.toNatClampNeg) 0)) 0 (kd_3e (o := 1) (rfl : kd 1 = 3) (vp_lt h4)) fw_X5_wheel_4 hw_X5_wheel_2 (fun _ h9 => h9) (by decide) rfl dX5_wheel_81 rfl ?_
      exact j_iret C0 hlk hret dX5_wheel_84 hX
    · have hX := hX.2 c5
      by_cases c6 : a2 = 1
      · have hX := hX.1 c6
        refine j_tableIn C0 (off := 65) (tgt := 85) dX5_wheel_20 (by rw [c6]; decide) (by rw [c6]; decide) (by rw [c6]; decide) (by decide) ?_
        refine j_aload_n C0 0 dX5_wheel_85 rfl rfl rfl ?_
        refine j_get4 C0 (v := .int (μ1 (5 + 3 * a1.toNatClampNeg) 1)) 1 (kd_3e (o := 1) (rfl : kd 1 = 3) (vp_lt h4)) fw_X5_wheel_4 hw_X5_wheel_3 (fun _ h9 => h9) (by decide) rfl dX5_wheel_86 rfl ?_
        exact j_iret C0 hlk hret dX5_wheel_89 hX
      · have hX := hX.2 c6
        by_cases c7 : a2 = 2
        · have hX := hX.1 c7
          refine j_tableIn C0 (off := 70) (tgt := 90) dX5_wheel_20 (by rw [c7]; decide) (by rw [c7]; decide) (by rw [c7]; decide) (by decide) ?_
          refine j_aload_n C0 0 dX5_wheel_90 rfl rfl rfl ?_
          refine j_get4 C0 (v := .int (μ1 (5 + 3 * a1.toNatClampNeg) 2)) 2 (kd_3e (o := 1) (rfl : kd 1 = 3) (vp_lt h4)) fw_X5_wheel_4 hw_X5_wheel_4 (fun _ h9 => h9) (by decide) rfl dX5_wheel_91 rfl ?_
          exact j_iret C0 hlk hret dX5_wheel_94 hX
        · have hX := hX.2 c7
          by_cases c8 : a2 = 3
          · have hX := hX.1 c8
            refine j_tableIn C0 (off := 75) (tgt := 95) dX5_wheel_20 (by rw [c8]; decide) (by rw [c8]; decide) (by rw [c8]; decide) (by decide) ?_
            refine j_aload_n C0 0 dX5_wheel_95 rfl rfl rfl ?_
            refine j_get4 C0 (v := .int (μ1 (5 + 3 * a1.toNatClampNeg) 3)) 3 (kd_3e (o := 1) (rfl : kd 1 = 3) (vp_lt h4)) fw_X5_wheel_4 hw_X5_wheel_5 (fun _ h9 => h9) (by decide) rfl dX5_wheel_96 rfl ?_
            exact j_iret C0 hlk hret dX5_wheel_99 hX
          · have hX := hX.2 c8
            by_cases c9 : a2 = 4
            · have hX := hX.1 c9
              refine j_tableIn C0 (off := 80) (tgt := 100) dX5_wheel_20 (by rw [c9]; decide) (by rw [c9]; decide) (by rw [c9]; decide) (by decide) ?_
              refine j_aload_n C0 0 dX5_wheel_100 rfl rfl rfl ?_
              refine j_get4 C0 (v := .int (μ1 (5 + 3 * a1.toNatClampNeg) 4)) 4 (kd_3e (o := 1) (rfl : kd 1 = 3) (vp_lt h4)) fw_X5_wheel_4 hw_X5_wheel_6 (fun _ h9 => h9) (by decide) rfl dX5_wheel_101 rfl ?_
              refine j_if_eq C0 (tgt := 111) dX5_wheel_104 (by decide) rfl (fun c10 => ?_) (fun c10 => ?_)
              · have hX := hX.1 c10
                refine j_iconst C0 0 dX5_wheel_111 (by decide) rfl ?_
                exact j_iret C0 hlk hret dX5_wheel_112 hX
              · have hX := hX.2 c10
                refine j_iconst C0 1 dX5_wheel_107 (by decide) rfl ?_
                refine j_goto C0 (tgt := 112) dX5_wheel_108 (by decide) ?_
                exact j_iret C0 hlk hret dX5_wheel_112 hX
            · have hX := hX.2 c9
              by_cases c11 : a2 = 5
              · have hX := hX.1 c11
                refine j_tableIn C0 (off := 93) (tgt := 113) dX5_wheel_20 (by rw [c11]; decide) (by rw [c11]; decide) (by rw [c11]; decide) (by decide) ?_
                refine j_aload_n C0 0 dX5_wheel_113 rfl rfl rfl ?_
                refine j_get4 C0 (v := .int (μ1 (5 + 3 * a1.toNatClampNeg) 5)) 5 (kd_3e (o := 1) (rfl : kd 1 = 3) (vp_lt h4)) fw_X5_wheel_4 hw_X5_wheel_7 (fun _ h9 => h9) (by decide) rfl dX5_wheel_114 rfl ?_
                exact j_iret C0 hlk hret dX5_wheel_117 hX
              · have hX := hX.2 c11
                by_cases c12 : a2 = 6
                · have hX := hX.1 c12
                  refine j_tableIn C0 (off := 98) (tgt := 118) dX5_wheel_20 (by rw [c12]; decide) (by rw [c12]; decide) (by rw [c12]; decide) (by decide) ?_
                  refine j_aload_n C0 1 dX5_wheel_118 rfl rfl rfl ?_
                  refine j_get5 C0 (v := .ref (ad 1)) 0 (rfl : kd 0 = 5) fw_X5_wheel_5 hw_X5_wheel_0 (fun _ h9 => h9) (by decide) rfl dX5_wheel_119 rfl ?_
                  refine j_aload_n C0 0 dX5_wheel_122 rfl rfl rfl ?_
                  refine j_callVi C0 1 [.ref (ad (5 + 3 * a1.toNatClampNeg))] (c_X3_valueGivenBy 1 (5 + 3 * a1.toNatClampNeg) (rfl : kd 1 = 3) (kd_3e (o := 1) (rfl : kd 1 = 3) (vp_lt h4)) hX) dX5_wheel_123 gX5_wheel_X3_valueGivenBy rfl (by decide +kernel) ⟨⟨Nat.le_of_ble_eq_true rfl, Nat.le_of_ble_eq_true rfl⟩, rfl, rfl⟩ (kd_lt (rfl : kd 1 = 3) (by decide)) (ce3 (rfl : kd 1 = 3)) rfl rfl rfl (Nat.le_of_ble_eq_true rfl) rfl (fun r14 μ13 hX => ?_)
                  exact j_iret C0 hlk hret dX5_wheel_126 hX
                · have hX := hX.2 c12
                  by_cases c15 : a2 = 7
                  · have hX := hX.1 c15
                    refine j_tableIn C0 (off := 107) (tgt := 127) dX5_wheel_20 (by rw [c15]; decide) (by rw [c15]; decide) (by rw [c15]; decide) (by decide) ?_
                    refine j_aload_n C0 0 dX5_wheel_127 rfl rfl rfl ?_
                    refine j_callVi C0 0 [] (c_X4_image (5 + 3 * a1.toNatClampNeg) (kd_3e (o := 1) (rfl : kd 1 = 3) (vp_lt h4)) hX) dX5_wheel_128 gX5_wheel_X4_image rfl (by decide +kernel) ⟨⟨Nat.le_of_ble_eq_true rfl, Nat.le_of_ble_eq_true rfl⟩, rfl, rfl⟩ (kd_lt (kd_3e (o := 1) (rfl : kd 1 = 3) (vp_lt h4)) (by decide)) (ce4 (kd_3e (o := 1) (rfl : kd 1 = 3) (vp_lt h4))) rfl rfl rfl (Nat.le_of_ble_eq_true rfl) rfl (fun r17 μ16 hX => ?_)
                    exact j_iret C0 hlk hret dX5_wheel_131 hX
                  · have hX := hX.2 c15
                    by_cases c18 : a2 = 8
                    · have hX := hX.1 c18
                      refine j_tableIn C0 (off := 112) (tgt := 132) dX5_wheel_20 (by rw [c18]; decide) (by rw [c18]; decide) (by rw [c18]; decide) (by decide) ?_
                      refine j_aload_n C0 0 dX5_wheel_132 rfl rfl rfl ?_
                      refine j_callVi C0 0 [] (c_X4_samplesOfARound (5 + 3 * a1.toNatClampNeg) (kd_3e (o := 1) (rfl : kd 1 = 3) (vp_lt h4)) hX) dX5_wheel_133 gX5_wheel_X4_samplesOfARound rfl (by decide +kernel) ⟨⟨Nat.le_of_ble_eq_true rfl, Nat.le_of_ble_eq_true rfl⟩, rfl, rfl⟩ (kd_lt (kd_3e (o := 1) (rfl : kd 1 = 3) (vp_lt h4)) (by decide)) (ce4 (kd_3e (o := 1) (rfl : kd 1 = 3) (vp_lt h4))) rfl rfl rfl (Nat.le_of_ble_eq_true rfl) rfl (fun r20 μ19 hX => ?_)
                      exact j_iret C0 hlk hret dX5_wheel_136 hX
                    · have hX := hX.2 c18
                      by_cases c21 : a2 = 9
                      · have hX := hX.1 c21
                        refine j_tableIn C0 (off := 117) (tgt := 137) dX5_wheel_20 (by rw [c21]; decide) (by rw [c21]; decide) (by rw [c21]; decide) (by decide) ?_
                        refine j_aload_n C0 0 dX5_wheel_137 rfl rfl rfl ?_
                        refine j_callVi C0 0 [] (c_X4_samplesOfSweeps (5 + 3 * a1.toNatClampNeg) (kd_3e (o := 1) (rfl : kd 1 = 3) (vp_lt h4)) hX) dX5_wheel_138 gX5_wheel_X4_samplesOfSweeps rfl (by decide +kernel) ⟨⟨Nat.le_of_ble_eq_true rfl, Nat.le_of_ble_eq_true rfl⟩, rfl, rfl⟩ (kd_lt (kd_3e (o := 1) (rfl : kd 1 = 3) (vp_lt h4)) (by decide)) (ce4 (kd_3e (o := 1) (rfl : kd 1 = 3) (vp_lt h4))) rfl rfl rfl (Nat.le_of_ble_eq_true rfl) rfl (fun r23 μ22 hX => ?_)
                        exact j_iret C0 hlk hret dX5_wheel_141 hX
                      · have hX := hX.2 c21
                        by_cases c24 : a2 = 10
                        · have hX := hX.1 c24
                          refine j_tableIn C0 (off := 122) (tgt := 142) dX5_wheel_20 (by rw [c24]; decide) (by rw [c24]; decide) (by rw [c24]; decide) (by decide) ?_
                          refine j_aload_n C0 0 dX5_wheel_142 rfl rfl rfl ?_
                          refine j_callVi C0 0 [] (c_X4_lastStep (5 + 3 * a1.toNatClampNeg) (kd_3e (o := 1) (rfl : kd 1 = 3) (vp_lt h4)) hX) dX5_wheel_143 gX5_wheel_X4_lastStep rfl (by decide +kernel) ⟨⟨Nat.le_of_ble_eq_true rfl, Nat.le_of_ble_eq_true rfl⟩, rfl, rfl⟩ (kd_lt (kd_3e (o := 1) (rfl : kd 1 = 3) (vp_lt h4)) (by decide)) (ce4 (kd_3e (o := 1) (rfl : kd 1 = 3) (vp_lt h4))) rfl rfl rfl (Nat.le_of_ble_eq_true rfl) rfl (fun r26 μ25 hX => ?_)
                          exact j_iret C0 hlk hret dX5_wheel_146 hX
                        · have hX := hX.2 c24
                          have t_c5 : ¬ (a2).toInt = 0 := lv_neT c5 (by decide)
                          have t_c6 : ¬ (a2).toInt = 1 := lv_neT c6 (by decide)
                          have t_c7 : ¬ (a2).toInt = 2 := lv_neT c7 (by decide)
                          have t_c8 : ¬ (a2).toInt = 3 := lv_neT c8 (by decide)
                          have t_c9 : ¬ (a2).toInt = 4 := lv_neT c9 (by decide)
                          have t_c11 : ¬ (a2).toInt = 5 := lv_neT c11 (by decide)
                          have t_c12 : ¬ (a2).toInt = 6 := lv_neT c12 (by decide)
                          have t_c15 : ¬ (a2).toInt = 7 := lv_neT c15 (by decide)
                          have t_c18 : ¬ (a2).toInt = 8 := lv_neT c18 (by decide)
                          have t_c21 : ¬ (a2).toInt = 9 := lv_neT c21 (by decide)
                          have t_c24 : ¬ (a2).toInt = 10 := lv_neT c24 (by decide)
                          refine j_tableOut C0 (tgt := 147) dX5_wheel_20 (by omega) (by decide) ?_
                          refine j_bipush C0 (-2) dX5_wheel_147 (by decide) rfl ?_
                          exact j_iret C0 hlk hret dX5_wheel_149 hX
  · have hX := hX.2 c3
    refine j_iconst C0 (-1) dX5_wheel_7 (by decide) rfl ?_
    exact j_iret C0 hlk hret dX5_wheel_8 hX
theorem c_X5_wheel {l : Launch} {D : va_G} {Y : Nat → ClassId} {ad : Nat → Nat} (a1 : Int32) (a2 : Int32) {μ : Mem} {K : Int32 → Mem → Prop}  (hX : x_X5_wheel a1 a2 μ K) : ConI l yX5_wheel wsX5_wheel rm_X5_wheel [.ref (ad 0), .int a1, .int a2] D Y ad μ K := conI_of (cc := cX5_wheel) (maxL := 4) (ret := (some .int)) (own := RX5) _ (by decide +kernel) rfl rfl (Nat.le_of_ble_eq_true rfl) (fun p e s m args below meth c C0 hlk hret => j_sub (l' := [(0, .ref (ad 0)), (1, .int a1), (2, .int a2)]) [0, 1, 2] rfl (w_X5_wheel C0 hlk hret a1 a2 μ K  hX))
/-! PhaseTones.valueOf(II)I -/
abbrev rm_X5_valueOf : Room := rmf 2 42
theorem fw_X5_valueOf_3 : ∀ w ∈ wsX30, w ∈ wsX5_valueOf := by decide +kernel
theorem fw_X5_valueOf_5 : ∀ w ∈ wsX50, w ∈ wsX5_valueOf := by decide +kernel
theorem hw_X5_valueOf_0 : Cond.fieldLink RX5 10 RX5 (TX5 0).2.1 (TX5 0).2.2.1 ∈ wsX5_valueOf := by decide +kernel
theorem hw_X5_valueOf_1 : Cond.fieldLink RX5 59 RX3 (TX3 1).2.1 (TX3 1).2.2.1 ∈ wsX5_valueOf := by decide +kernel
def x_X5_valueOf (a1 : Int32) (a2 : Int32) (μ : Mem) (K : Int32 → Mem → Prop) : Prop :=
  x_X5_isNoTable a1 μ (fun r2 μ1 => (r2 = 0 → x_X5_isNoPlace a2 μ1 (fun r5 μ4 => (r5 = 0 → vp_in ((a1 * 16) + a2) 64 ∧ K (μ4 2 ((a1 * 16) + a2).toNatClampNeg) μ4) ∧ (¬ (r5 = 0) → K (-1) μ4))) ∧ (¬ (r2 = 0) → K (-1) μ1))
set_option maxRecDepth 20000 in
theorem w_X5_valueOf {p : Program} {l : Launch} {e : Env} {s : State} {m : MethodId} {args : Array Value} {below : List Frame} {meth : Method} {c : Code} {D : va_G} {Y : Nat → ClassId} {ad : Nat → Nat} (C0 : CX D Y ad (PA ad) rm_X5_valueOf 0 0 p s args m c cX5_valueOf 3 RX5 wsX5_valueOf) (hlk : meth.locks = false) (hret : meth.sig.returnType = (some .int)) (a1 : Int32) (a2 : Int32) (μ : Mem) (K : Int32 → Mem → Prop)  (hX : x_X5_valueOf a1 a2 μ K) : J p l e rm_X5_valueOf s m args below meth c D Y ad (PA ad) 0 0 3 (MQ below (va_Qi K (BB D Y ad) (PA ad)) args s 0 0 (PA ad)) 0 [(0, .ref (ad 0)), (1, .int a1), (2, .int a2)] [] μ := by
  refine j_iload_n C0 1 dX5_valueOf_0 rfl rfl rfl ?_
  refine j_callSi C0 1 [.int a1] (c_X5_isNoTable a1  hX) dX5_valueOf_1 gX5_valueOf_X5_isNoTable rfl (by decide +kernel) ⟨⟨Nat.le_of_ble_eq_true rfl, Nat.le_of_ble_eq_true rfl⟩, rfl, rfl⟩ rfl rfl (Nat.le_of_ble_eq_true rfl) rfl (fun r2 μ1 hX => ?_)
  refine j_if_ne C0 (tgt := 14) dX5_valueOf_4 (by decide) rfl (fun c3 => ?_) (fun c3 => ?_)
  · have hX := hX.1 c3
    refine j_iload_n C0 2 dX5_valueOf_7 rfl rfl rfl ?_
    refine j_callSi C0 1 [.int a2] (c_X5_isNoPlace a2  hX) dX5_valueOf_8 gX5_valueOf_X5_isNoPlace rfl (by decide +kernel) ⟨⟨Nat.le_of_ble_eq_true rfl, Nat.le_of_ble_eq_true rfl⟩, rfl, rfl⟩ rfl rfl (Nat.le_of_ble_eq_true rfl) rfl (fun r5 μ4 hX => ?_)
    refine j_if_eq C0 (tgt := 16) dX5_valueOf_11 (by decide) rfl (fun c6 => ?_) (fun c6 => ?_)
    · have hX := hX.1 c6
      refine j_aload_n C0 0 dX5_valueOf_16 rfl rfl rfl ?_
      refine j_get5 C0 (v := .ref (ad 1)) 0 (rfl : kd 0 = 5) fw_X5_valueOf_5 hw_X5_valueOf_0 (fun _ h9 => h9) (by decide) rfl dX5_valueOf_17 rfl ?_
      refine j_get3 C0 (v := .ref (ad 2)) 1 (rfl : kd 1 = 3) fw_X5_valueOf_3 hw_X5_valueOf_1 (fun _ h9 => h9) (by decide) rfl dX5_valueOf_20 rfl ?_
      refine j_iload_n C0 1 dX5_valueOf_23 rfl rfl rfl ?_
      refine j_bipush C0 16 dX5_valueOf_24 (by decide) rfl ?_
      refine j_imul C0 dX5_valueOf_26 rfl ?_
      refine j_iload_n C0 2 dX5_valueOf_27 rfl rfl rfl ?_
      refine j_iadd C0 dX5_valueOf_28 rfl ?_
      obtain ⟨h7, hX⟩ := hX
      refine j_iald C0 (n := 64) (kd_lt (kd_3v (rfl : kd 1 = 3)) (by decide)) (ce10 (kd_3v (rfl : kd 1 = 3))) h7 dX5_valueOf_29 rfl ?_
      exact j_iret C0 hlk hret dX5_valueOf_30 hX
    · have hX := hX.2 c6
      refine j_iconst C0 (-1) dX5_valueOf_14 (by decide) rfl ?_
      exact j_iret C0 hlk hret dX5_valueOf_15 hX
  · have hX := hX.2 c3
    refine j_iconst C0 (-1) dX5_valueOf_14 (by decide) rfl ?_
    exact j_iret C0 hlk hret dX5_valueOf_15 hX
theorem c_X5_valueOf {l : Launch} {D : va_G} {Y : Nat → ClassId} {ad : Nat → Nat} (a1 : Int32) (a2 : Int32) {μ : Mem} {K : Int32 → Mem → Prop}  (hX : x_X5_valueOf a1 a2 μ K) : ConI l yX5_valueOf wsX5_valueOf rm_X5_valueOf [.ref (ad 0), .int a1, .int a2] D Y ad μ K := conI_of (cc := cX5_valueOf) (maxL := 3) (ret := (some .int)) (own := RX5) _ (by decide +kernel) rfl rfl (Nat.le_of_ble_eq_true rfl) (fun p e s m args below meth c C0 hlk hret => j_sub (l' := [(0, .ref (ad 0)), (1, .int a1), (2, .int a2)]) [0, 1, 2] rfl (w_X5_valueOf C0 hlk hret a1 a2 μ K  hX))
/-! PhaseTones.sample(I)I -/
abbrev rm_X5_sample : Room := rmf 2 43
theorem fw_X5_sample_3 : ∀ w ∈ wsX30, w ∈ wsX5_sample := by decide +kernel
theorem fw_X5_sample_5 : ∀ w ∈ wsX50, w ∈ wsX5_sample := by decide +kernel
theorem hw_X5_sample_0 : Cond.fieldLink RX5 10 RX5 (TX5 0).2.1 (TX5 0).2.2.1 ∈ wsX5_sample := by decide +kernel
theorem hw_X5_sample_1 : Cond.fieldLink RX5 154 RX3 (TX3 3).2.1 (TX3 3).2.2.1 ∈ wsX5_sample := by decide +kernel
def x_X5_sample (a1 : Int32) (μ : Mem) (K : Int32 → Mem → Prop) : Prop :=
  x_X5_isOutside a1 0 31 μ (fun r2 μ1 => (r2 = 0 → ((μ1 1 3) ≤ a1 → K (-6) μ1) ∧ (¬ ((μ1 1 3) ≤ a1) → x_X3_mixtureAgo 1 a1 μ1 (fun r6 μ5 => K r6 μ5))) ∧ (¬ (r2 = 0) → K (-2) μ1))
set_option maxRecDepth 20000 in
theorem w_X5_sample {p : Program} {l : Launch} {e : Env} {s : State} {m : MethodId} {args : Array Value} {below : List Frame} {meth : Method} {c : Code} {D : va_G} {Y : Nat → ClassId} {ad : Nat → Nat} (C0 : CX D Y ad (PA ad) rm_X5_sample 0 0 p s args m c cX5_sample 2 RX5 wsX5_sample) (hlk : meth.locks = false) (hret : meth.sig.returnType = (some .int)) (a1 : Int32) (μ : Mem) (K : Int32 → Mem → Prop)  (hX : x_X5_sample a1 μ K) : J p l e rm_X5_sample s m args below meth c D Y ad (PA ad) 0 0 2 (MQ below (va_Qi K (BB D Y ad) (PA ad)) args s 0 0 (PA ad)) 0 [(0, .ref (ad 0)), (1, .int a1)] [] μ := by
  refine j_iload_n C0 1 dX5_sample_0 rfl rfl rfl ?_
  refine j_iconst C0 0 dX5_sample_1 (by decide) rfl ?_
  refine j_bipush C0 31 dX5_sample_2 (by decide) rfl ?_
  refine j_callSi C0 3 [.int a1, .int 0, .int 31] (c_X5_isOutside a1 0 31  hX) dX5_sample_4 gX5_sample_X5_isOutside rfl (by decide +kernel) ⟨⟨Nat.le_of_ble_eq_true rfl, Nat.le_of_ble_eq_true rfl⟩, rfl, rfl⟩ rfl rfl (Nat.le_of_ble_eq_true rfl) rfl (fun r2 μ1 hX => ?_)
  refine j_if_eq C0 (tgt := 13) dX5_sample_7 (by decide) rfl (fun c3 => ?_) (fun c3 => ?_)
  · have hX := hX.1 c3
    refine j_iload_n C0 1 dX5_sample_13 rfl rfl rfl ?_
    refine j_aload_n C0 0 dX5_sample_14 rfl rfl rfl ?_
    refine j_get5 C0 (v := .ref (ad 1)) 0 (rfl : kd 0 = 5) fw_X5_sample_5 hw_X5_sample_0 (fun _ h9 => h9) (by decide) rfl dX5_sample_15 rfl ?_
    refine j_get3 C0 (v := .int (μ1 1 3)) 3 (rfl : kd 1 = 3) fw_X5_sample_3 hw_X5_sample_1 (fun _ h9 => h9) (by decide) rfl dX5_sample_18 rfl ?_
    refine j_icmp_ge C0 (tgt := 35) dX5_sample_21 (by decide) rfl (fun c4 => ?_) (fun c4 => ?_)
    · have hX := hX.1 c4
      refine j_bipush C0 (-6) dX5_sample_35 (by decide) rfl ?_
      exact j_iret C0 hlk hret dX5_sample_37 hX
    · have hX := hX.2 c4
      refine j_aload_n C0 0 dX5_sample_24 rfl rfl rfl ?_
      refine j_get5 C0 (v := .ref (ad 1)) 0 (rfl : kd 0 = 5) fw_X5_sample_5 hw_X5_sample_0 (fun _ h9 => h9) (by decide) rfl dX5_sample_25 rfl ?_
      refine j_iload_n C0 1 dX5_sample_28 rfl rfl rfl ?_
      refine j_callVi C0 1 [.int a1] (c_X3_mixtureAgo 1 a1 (rfl : kd 1 = 3) hX) dX5_sample_29 gX5_sample_X3_mixtureAgo rfl (by decide +kernel) ⟨⟨Nat.le_of_ble_eq_true rfl, Nat.le_of_ble_eq_true rfl⟩, rfl, rfl⟩ (kd_lt (rfl : kd 1 = 3) (by decide)) (ce3 (rfl : kd 1 = 3)) rfl rfl rfl (Nat.le_of_ble_eq_true rfl) rfl (fun r6 μ5 hX => ?_)
      refine j_goto C0 (tgt := 37) dX5_sample_32 (by decide) ?_
      exact j_iret C0 hlk hret dX5_sample_37 hX
  · have hX := hX.2 c3
    refine j_bipush C0 (-2) dX5_sample_10 (by decide) rfl ?_
    exact j_iret C0 hlk hret dX5_sample_12 hX
theorem c_X5_sample {l : Launch} {D : va_G} {Y : Nat → ClassId} {ad : Nat → Nat} (a1 : Int32) {μ : Mem} {K : Int32 → Mem → Prop}  (hX : x_X5_sample a1 μ K) : ConI l yX5_sample wsX5_sample rm_X5_sample [.ref (ad 0), .int a1] D Y ad μ K := conI_of (cc := cX5_sample) (maxL := 2) (ret := (some .int)) (own := RX5) _ (by decide +kernel) rfl rfl (Nat.le_of_ble_eq_true rfl) (fun p e s m args below meth c C0 hlk hret => j_sub (l' := [(0, .ref (ad 0)), (1, .int a1)]) [0, 1] rfl (w_X5_sample C0 hlk hret a1 μ K  hX))
/-! PhaseTones.beat(II)I -/
abbrev rm_X5_beat : Room := rmf 2 42
theorem fw_X5_beat_3 : ∀ w ∈ wsX30, w ∈ wsX5_beat := by decide +kernel
theorem fw_X5_beat_5 : ∀ w ∈ wsX50, w ∈ wsX5_beat := by decide +kernel
theorem hw_X5_beat_0 : Cond.fieldLink RX5 10 RX5 (TX5 0).2.1 (TX5 0).2.2.1 ∈ wsX5_beat := by decide +kernel
theorem hw_X5_beat_1 : Cond.fieldLink RX5 67 RX3 (TX3 2).2.1 (TX3 2).2.2.1 ∈ wsX5_beat := by decide +kernel
theorem hw_X5_beat_2 : Cond.methodLink RX5 157 Lib.Math.abs.name ∈ wsX5_beat := by decide +kernel
theorem hw_X5_beat_3 : Cond.static Lib.Math.abs.name ∈ wsX5_beat := by decide +kernel
theorem hw_X5_beat_4 : Cond.initialized "java/lang/Math" ∈ wsX5_beat := by decide +kernel
theorem hw_X5_beat_5 : Cond.code Lib.Math.abs.name Lib.Math.abs.code 1 (some .int) ∈ wsX5_beat := by decide +kernel
def x_X5_beat (a1 : Int32) (a2 : Int32) (μ : Mem) (K : Int32 → Mem → Prop) : Prop :=
  x_X5_isNoWheel a1 μ (fun r2 μ1 => (r2 = 0 → x_X5_isNoWheel a2 μ1 (fun r5 μ4 => (r5 = 0 → vp_in a1 4 ∧ x_X4_image (5 + 3 * a1.toNatClampNeg) μ4 (fun r9 μ8 => vp_in a2 4 ∧ x_X4_image (5 + 3 * a2.toNatClampNeg) μ8 (fun r12 μ11 => ∀ v13 : Int32, v13 = (if 0 ≤ (r9 - r12) then (r9 - r12) else 0 - (r9 - r12)) → K v13 μ11))) ∧ (¬ (r5 = 0) → K (-1) μ4))) ∧ (¬ (r2 = 0) → K (-1) μ1))
set_option maxRecDepth 20000 in
theorem w_X5_beat {p : Program} {l : Launch} {e : Env} {s : State} {m : MethodId} {args : Array Value} {below : List Frame} {meth : Method} {c : Code} {D : va_G} {Y : Nat → ClassId} {ad : Nat → Nat} (C0 : CX D Y ad (PA ad) rm_X5_beat 0 0 p s args m c cX5_beat 3 RX5 wsX5_beat) (hlk : meth.locks = false) (hret : meth.sig.returnType = (some .int)) (a1 : Int32) (a2 : Int32) (μ : Mem) (K : Int32 → Mem → Prop)  (hX : x_X5_beat a1 a2 μ K) : J p l e rm_X5_beat s m args below meth c D Y ad (PA ad) 0 0 3 (MQ below (va_Qi K (BB D Y ad) (PA ad)) args s 0 0 (PA ad)) 0 [(0, .ref (ad 0)), (1, .int a1), (2, .int a2)] [] μ := by
  refine j_iload_n C0 1 dX5_beat_0 rfl rfl rfl ?_
  refine j_callSi C0 1 [.int a1] (c_X5_isNoWheel a1  hX) dX5_beat_1 gX5_beat_X5_isNoWheel rfl (by decide +kernel) ⟨⟨Nat.le_of_ble_eq_true rfl, Nat.le_of_ble_eq_true rfl⟩, rfl, rfl⟩ rfl rfl (Nat.le_of_ble_eq_true rfl) rfl (fun r2 μ1 hX => ?_)
  refine j_if_ne C0 (tgt := 14) dX5_beat_4 (by decide) rfl (fun c3 => ?_) (fun c3 => ?_)
  · have hX := hX.1 c3
    refine j_iload_n C0 2 dX5_beat_7 rfl rfl rfl ?_
    refine j_callSi C0 1 [.int a2] (c_X5_isNoWheel a2  hX) dX5_beat_8 gX5_beat_X5_isNoWheel rfl (by decide +kernel) ⟨⟨Nat.le_of_ble_eq_true rfl, Nat.le_of_ble_eq_true rfl⟩, rfl, rfl⟩ rfl rfl (Nat.le_of_ble_eq_true rfl) rfl (fun r5 μ4 hX => ?_)
    refine j_if_eq C0 (tgt := 16) dX5_beat_11 (by decide) rfl (fun c6 => ?_) (fun c6 => ?_)
    · have hX := hX.1 c6
      refine j_aload_n C0 0 dX5_beat_16 rfl rfl rfl ?_
      refine j_get5 C0 (v := .ref (ad 1)) 0 (rfl : kd 0 = 5) fw_X5_beat_5 hw_X5_beat_0 (fun _ h9 => h9) (by decide) rfl dX5_beat_17 rfl ?_
      refine j_get3 C0 (v := .ref (ad 3)) 2 (rfl : kd 1 = 3) fw_X5_beat_3 hw_X5_beat_1 (fun _ h9 => h9) (by decide) rfl dX5_beat_20 rfl ?_
      refine j_iload_n C0 1 dX5_beat_23 rfl rfl rfl ?_
      obtain ⟨h7, hX⟩ := hX
      refine j_aald C0 (n := 4) (t0 := 4) (5 + 3 * a1.toNatClampNeg) (kd_lt (kd_3w (rfl : kd 1 = 3)) (by decide)) (ce15 (kd_3w (rfl : kd 1 = 3))) rfl rfl h7 dX5_beat_24 rfl ?_
      refine j_callVi C0 0 [] (c_X4_image (5 + 3 * a1.toNatClampNeg) (kd_3e (o := 1) (rfl : kd 1 = 3) (vp_lt h7)) hX) dX5_beat_25 gX5_beat_X4_image rfl (by decide +kernel) ⟨⟨Nat.le_of_ble_eq_true rfl, Nat.le_of_ble_eq_true rfl⟩, rfl, rfl⟩ (kd_lt (kd_3e (o := 1) (rfl : kd 1 = 3) (vp_lt h7)) (by decide)) (ce4 (kd_3e (o := 1) (rfl : kd 1 = 3) (vp_lt h7))) rfl rfl rfl (Nat.le_of_ble_eq_true rfl) rfl (fun r9 μ8 hX => ?_)
      refine j_aload_n C0 0 dX5_beat_28 rfl rfl rfl ?_
      refine j_get5 C0 (v := .ref (ad 1)) 0 (rfl : kd 0 = 5) fw_X5_beat_5 hw_X5_beat_0 (fun _ h9 => h9) (by decide) rfl dX5_beat_29 rfl ?_
      refine j_get3 C0 (v := .ref (ad 3)) 2 (rfl : kd 1 = 3) fw_X5_beat_3 hw_X5_beat_1 (fun _ h9 => h9) (by decide) rfl dX5_beat_32 rfl ?_
      refine j_iload_n C0 2 dX5_beat_35 rfl rfl rfl ?_
      obtain ⟨h10, hX⟩ := hX
      refine j_aald C0 (n := 4) (t0 := 4) (5 + 3 * a2.toNatClampNeg) (kd_lt (kd_3w (rfl : kd 1 = 3)) (by decide)) (ce15 (kd_3w (rfl : kd 1 = 3))) rfl rfl h10 dX5_beat_36 rfl ?_
      refine j_callVi C0 0 [] (c_X4_image (5 + 3 * a2.toNatClampNeg) (kd_3e (o := 1) (rfl : kd 1 = 3) (vp_lt h10)) hX) dX5_beat_37 gX5_beat_X4_image rfl (by decide +kernel) ⟨⟨Nat.le_of_ble_eq_true rfl, Nat.le_of_ble_eq_true rfl⟩, rfl, rfl⟩ (kd_lt (kd_3e (o := 1) (rfl : kd 1 = 3) (vp_lt h10)) (by decide)) (ce4 (kd_3e (o := 1) (rfl : kd 1 = 3) (vp_lt h10))) rfl rfl rfl (Nat.le_of_ble_eq_true rfl) rfl (fun r12 μ11 hX => ?_)
      refine j_isub C0 dX5_beat_40 rfl ?_
      refine j_mabs C0 hw_X5_beat_2 hw_X5_beat_3 hw_X5_beat_4 hw_X5_beat_5 ⟨Nat.le_of_ble_eq_true rfl, Nat.le_of_ble_eq_true rfl⟩ dX5_beat_41 rfl ?_
      refine j_topi (fun v13 e_v13 => ?_)
      have hX := hX v13 e_v13
      exact j_iret C0 hlk hret dX5_beat_44 hX
    · have hX := hX.2 c6
      refine j_iconst C0 (-1) dX5_beat_14 (by decide) rfl ?_
      exact j_iret C0 hlk hret dX5_beat_15 hX
  · have hX := hX.2 c3
    refine j_iconst C0 (-1) dX5_beat_14 (by decide) rfl ?_
    exact j_iret C0 hlk hret dX5_beat_15 hX
theorem c_X5_beat {l : Launch} {D : va_G} {Y : Nat → ClassId} {ad : Nat → Nat} (a1 : Int32) (a2 : Int32) {μ : Mem} {K : Int32 → Mem → Prop}  (hX : x_X5_beat a1 a2 μ K) : ConI l yX5_beat wsX5_beat rm_X5_beat [.ref (ad 0), .int a1, .int a2] D Y ad μ K := conI_of (cc := cX5_beat) (maxL := 3) (ret := (some .int)) (own := RX5) _ (by decide +kernel) rfl rfl (Nat.le_of_ble_eq_true rfl) (fun p e s m args below meth c C0 hlk hret => j_sub (l' := [(0, .ref (ad 0)), (1, .int a1), (2, .int a2)]) [0, 1, 2] rfl (w_X5_beat C0 hlk hret a1 a2 μ K  hX))
/-! PhaseTones.count(I)I -/
abbrev rm_X5_count : Room := rmf 2 53
theorem fw_X5_count_0 : ∀ w ∈ wsX00, w ∈ wsX5_count := by decide +kernel
theorem fw_X5_count_1 : ∀ w ∈ wsX10, w ∈ wsX5_count := by decide +kernel
theorem fw_X5_count_3 : ∀ w ∈ wsX30, w ∈ wsX5_count := by decide +kernel
theorem fw_X5_count_5 : ∀ w ∈ wsX50, w ∈ wsX5_count := by decide +kernel
theorem hw_X5_count_0 : Cond.fieldLink RX5 10 RX5 (TX5 0).2.1 (TX5 0).2.2.1 ∈ wsX5_count := by decide +kernel
theorem hw_X5_count_1 : Cond.fieldLink RX5 48 RX3 (TX3 0).2.1 (TX3 0).2.2.1 ∈ wsX5_count := by decide +kernel
theorem hw_X5_count_2 : Cond.fieldLink RX5 154 RX3 (TX3 3).2.1 (TX3 3).2.2.1 ∈ wsX5_count := by decide +kernel
theorem hw_X5_count_3 : Cond.fieldLink RX5 162 RX3 (TX3 4).2.1 (TX3 4).2.2.1 ∈ wsX5_count := by decide +kernel
theorem hw_X5_count_4 : Cond.methodLink RX5 168 Lib.Math.min.name ∈ wsX5_count := by decide +kernel
theorem hw_X5_count_5 : Cond.static Lib.Math.min.name ∈ wsX5_count := by decide +kernel
theorem hw_X5_count_6 : Cond.initialized "java/lang/Math" ∈ wsX5_count := by decide +kernel
theorem hw_X5_count_7 : Cond.code Lib.Math.min.name Lib.Math.min.code 2 (some .int) ∈ wsX5_count := by decide +kernel
theorem hw_X5_count_8 : Cond.fieldLink RX5 172 RX3 (TX3 5).2.1 (TX3 5).2.2.1 ∈ wsX5_count := by decide +kernel
theorem hw_X5_count_9 : Cond.fieldLink RX5 175 RX3 (TX3 6).2.1 (TX3 6).2.2.1 ∈ wsX5_count := by decide +kernel
theorem hw_X5_count_10 : Cond.fieldLink RX5 36 RX5 (TX5 4).2.1 (TX5 4).2.2.1 ∈ wsX5_count := by decide +kernel
theorem hw_X5_count_11 : Cond.fieldLink RX5 135 RX1 (TX1 1).2.1 (TX1 1).2.2.1 ∈ wsX5_count := by decide +kernel
theorem hw_X5_count_12 : Cond.fieldLink RX5 22 RX5 (TX5 2).2.1 (TX5 2).2.2.1 ∈ wsX5_count := by decide +kernel
theorem hw_X5_count_13 : Cond.fieldLink RX5 181 RX0 (TX0 2).2.1 (TX0 2).2.2.1 ∈ wsX5_count := by decide +kernel
def x_X5_count (a1 : Int32) (μ : Mem) (K : Int32 → Mem → Prop) : Prop :=
  (a1 = 0 → K (μ 1 0) μ) ∧ (¬ (a1 = 0) → (a1 = 1 → K (μ 1 3) μ) ∧ (¬ (a1 = 1) → (a1 = 2 → K (μ 1 4) μ) ∧ (¬ (a1 = 2) → (a1 = 3 → x_X3_maskOfOn 1 μ (fun r6 μ5 => K r6 μ5)) ∧ (¬ (a1 = 3) → (a1 = 4 → x_X3_sumOfOn 1 μ (fun r9 μ8 => ∀ v10 : Int32, v10 = (if (μ8 1 0) < r9 then (μ8 1 0) else r9) → K v10 μ8)) ∧ (¬ (a1 = 4) → (a1 = 5 → K (μ 1 5) μ) ∧ (¬ (a1 = 5) → (a1 = 6 → K (μ 1 6) μ) ∧ (¬ (a1 = 6) → (a1 = 7 → x_X3_samplesOfARoundOfAll 1 μ (fun r15 μ14 => K r15 μ14)) ∧ (¬ (a1 = 7) → (a1 = 8 → K (μ 166 1) μ) ∧ (¬ (a1 = 8) → (a1 = 9 → K (μ 33 2) μ) ∧ (¬ (a1 = 9) → K (-2) μ))))))))))
set_option maxRecDepth 20000 in
theorem w_X5_count {p : Program} {l : Launch} {e : Env} {s : State} {m : MethodId} {args : Array Value} {below : List Frame} {meth : Method} {c : Code} {D : va_G} {Y : Nat → ClassId} {ad : Nat → Nat} (C0 : CX D Y ad (PA ad) rm_X5_count 0 0 p s args m c cX5_count 2 RX5 wsX5_count) (hlk : meth.locks = false) (hret : meth.sig.returnType = (some .int)) (a1 : Int32) (μ : Mem) (K : Int32 → Mem → Prop)  (hX : x_X5_count a1 μ K) : J p l e rm_X5_count s m args below meth c D Y ad (PA ad) 0 0 2 (MQ below (va_Qi K (BB D Y ad) (PA ad)) args s 0 0 (PA ad)) 0 [(0, .ref (ad 0)), (1, .int a1)] [] μ := by
  refine j_iload_n C0 1 dX5_count_0 rfl rfl rfl ?_
  by_cases c1 : a1 = 0
  · have hX := hX.1 c1
    refine j_tableIn C0 (off := 55) (tgt := 56) dX5_count_1 (by rw [c1]; decide) (by rw [c1]; decide) (by rw [c1]; decide) (by decide) ?_
    refine j_aload_n C0 0 dX5_count_56 rfl rfl rfl ?_
    refine j_get5 C0 (v := .ref (ad 1)) 0 (rfl : kd 0 = 5) fw_X5_count_5 hw_X5_count_0 (fun _ h9 => h9) (by decide) rfl dX5_count_57 rfl ?_
    refine j_get3 C0 (v := .int (μ 1 0)) 0 (rfl : kd 1 = 3) fw_X5_count_3 hw_X5_count_1 (fun _ h9 => h9) (by decide) rfl dX5_count_60 rfl ?_
    exact j_iret C0 hlk hret dX5_count_63 hX
  · have hX := hX.2 c1
    by_cases c2 : a1 = 1
    · have hX := hX.1 c2
      refine j_tableIn C0 (off := 63) (tgt := 64) dX5_count_1 (by rw [c2]; decide) (by rw [c2]; decide) (by rw [c2]; decide) (by decide) ?_
      refine j_aload_n C0 0 dX5_count_64 rfl rfl rfl ?_
      refine j_get5 C0 (v := .ref (ad 1)) 0 (rfl : kd 0 = 5) fw_X5_count_5 hw_X5_count_0 (fun _ h9 => h9) (by decide) rfl dX5_count_65 rfl ?_
      refine j_get3 C0 (v := .int (μ 1 3)) 3 (rfl : kd 1 = 3) fw_X5_count_3 hw_X5_count_2 (fun _ h9 => h9) (by decide) rfl dX5_count_68 rfl ?_
      exact j_iret C0 hlk hret dX5_count_71 hX
    · have hX := hX.2 c2
      by_cases c3 : a1 = 2
      · have hX := hX.1 c3
        refine j_tableIn C0 (off := 71) (tgt := 72) dX5_count_1 (by rw [c3]; decide) (by rw [c3]; decide) (by rw [c3]; decide) (by decide) ?_
        refine j_aload_n C0 0 dX5_count_72 rfl rfl rfl ?_
        refine j_get5 C0 (v := .ref (ad 1)) 0 (rfl : kd 0 = 5) fw_X5_count_5 hw_X5_count_0 (fun _ h9 => h9) (by decide) rfl dX5_count_73 rfl ?_
        refine j_get3 C0 (v := .int (μ 1 4)) 4 (rfl : kd 1 = 3) fw_X5_count_3 hw_X5_count_3 (fun _ h9 => h9) (by decide) rfl dX5_count_76 rfl ?_
        exact j_iret C0 hlk hret dX5_count_79 hX
      · have hX := hX.2 c3
        by_cases c4 : a1 = 3
        · have hX := hX.1 c4
          refine j_tableIn C0 (off := 79) (tgt := 80) dX5_count_1 (by rw [c4]; decide) (by rw [c4]; decide) (by rw [c4]; decide) (by decide) ?_
          refine j_aload_n C0 0 dX5_count_80 rfl rfl rfl ?_
          refine j_get5 C0 (v := .ref (ad 1)) 0 (rfl : kd 0 = 5) fw_X5_count_5 hw_X5_count_0 (fun _ h9 => h9) (by decide) rfl dX5_count_81 rfl ?_
          refine j_callVi C0 0 [] (c_X3_maskOfOn 1 (rfl : kd 1 = 3) hX) dX5_count_84 gX5_count_X3_maskOfOn rfl (by decide +kernel) ⟨⟨Nat.le_of_ble_eq_true rfl, Nat.le_of_ble_eq_true rfl⟩, rfl, rfl⟩ (kd_lt (rfl : kd 1 = 3) (by decide)) (ce3 (rfl : kd 1 = 3)) rfl rfl rfl (Nat.le_of_ble_eq_true rfl) rfl (fun r6 μ5 hX => ?_)
          exact j_iret C0 hlk hret dX5_count_87 hX
        · have hX := hX.2 c4
          by_cases c7 : a1 = 4
          · have hX := hX.1 c7
            refine j_tableIn C0 (off := 87) (tgt := 88) dX5_count_1 (by rw [c7]; decide) (by rw [c7]; decide) (by rw [c7]; decide) (by decide) ?_
            refine j_aload_n C0 0 dX5_count_88 rfl rfl rfl ?_
            refine j_get5 C0 (v := .ref (ad 1)) 0 (rfl : kd 0 = 5) fw_X5_count_5 hw_X5_count_0 (fun _ h9 => h9) (by decide) rfl dX5_count_89 rfl ?_
            refine j_callVi C0 0 [] (c_X3_sumOfOn 1 (rfl : kd 1 = 3) hX) dX5_count_92 gX5_count_X3_sumOfOn rfl (by decide +kernel) ⟨⟨Nat.le_of_ble_eq_true rfl, Nat.le_of_ble_eq_true rfl⟩, rfl, rfl⟩ (kd_lt (rfl : kd 1 = 3) (by decide)) (ce3 (rfl : kd 1 = 3)) rfl rfl rfl (Nat.le_of_ble_eq_true rfl) rfl (fun r9 μ8 hX => ?_)
            refine j_aload_n C0 0 dX5_count_95 rfl rfl rfl ?_
            refine j_get5 C0 (v := .ref (ad 1)) 0 (rfl : kd 0 = 5) fw_X5_count_5 hw_X5_count_0 (fun _ h9 => h9) (by decide) rfl dX5_count_96 rfl ?_
            refine j_get3 C0 (v := .int (μ8 1 0)) 0 (rfl : kd 1 = 3) fw_X5_count_3 hw_X5_count_1 (fun _ h9 => h9) (by decide) rfl dX5_count_99 rfl ?_
            refine j_mmin C0 hw_X5_count_4 hw_X5_count_5 hw_X5_count_6 hw_X5_count_7 ⟨Nat.le_of_ble_eq_true rfl, Nat.le_of_ble_eq_true rfl⟩ dX5_count_102 rfl ?_
            refine j_topi (fun v10 e_v10 => ?_)
            have hX := hX v10 e_v10
            exact j_iret C0 hlk hret dX5_count_105 hX
          · have hX := hX.2 c7
            by_cases c11 : a1 = 5
            · have hX := hX.1 c11
              refine j_tableIn C0 (off := 105) (tgt := 106) dX5_count_1 (by rw [c11]; decide) (by rw [c11]; decide) (by rw [c11]; decide) (by decide) ?_
              refine j_aload_n C0 0 dX5_count_106 rfl rfl rfl ?_
              refine j_get5 C0 (v := .ref (ad 1)) 0 (rfl : kd 0 = 5) fw_X5_count_5 hw_X5_count_0 (fun _ h9 => h9) (by decide) rfl dX5_count_107 rfl ?_
              refine j_get3 C0 (v := .int (μ 1 5)) 5 (rfl : kd 1 = 3) fw_X5_count_3 hw_X5_count_8 (fun _ h9 => h9) (by decide) rfl dX5_count_110 rfl ?_
              exact j_iret C0 hlk hret dX5_count_113 hX
            · have hX := hX.2 c11
              by_cases c12 : a1 = 6
              · have hX := hX.1 c12
                refine j_tableIn C0 (off := 113) (tgt := 114) dX5_count_1 (by rw [c12]; decide) (by rw [c12]; decide) (by rw [c12]; decide) (by decide) ?_
                refine j_aload_n C0 0 dX5_count_114 rfl rfl rfl ?_
                refine j_get5 C0 (v := .ref (ad 1)) 0 (rfl : kd 0 = 5) fw_X5_count_5 hw_X5_count_0 (fun _ h9 => h9) (by decide) rfl dX5_count_115 rfl ?_
                refine j_get3 C0 (v := .int (μ 1 6)) 6 (rfl : kd 1 = 3) fw_X5_count_3 hw_X5_count_9 (fun _ h9 => h9) (by decide) rfl dX5_count_118 rfl ?_
                exact j_iret C0 hlk hret dX5_count_121 hX
              · have hX := hX.2 c12
                by_cases c13 : a1 = 7
                · have hX := hX.1 c13
                  refine j_tableIn C0 (off := 121) (tgt := 122) dX5_count_1 (by rw [c13]; decide) (by rw [c13]; decide) (by rw [c13]; decide) (by decide) ?_
                  refine j_aload_n C0 0 dX5_count_122 rfl rfl rfl ?_
                  refine j_get5 C0 (v := .ref (ad 1)) 0 (rfl : kd 0 = 5) fw_X5_count_5 hw_X5_count_0 (fun _ h9 => h9) (by decide) rfl dX5_count_123 rfl ?_
                  refine j_callVi C0 0 [] (c_X3_samplesOfARoundOfAll 1 (rfl : kd 1 = 3) hX) dX5_count_126 gX5_count_X3_samplesOfARoundOfAll rfl (by decide +kernel) ⟨⟨Nat.le_of_ble_eq_true rfl, Nat.le_of_ble_eq_true rfl⟩, rfl, rfl⟩ (kd_lt (rfl : kd 1 = 3) (by decide)) (ce3 (rfl : kd 1 = 3)) rfl rfl rfl (Nat.le_of_ble_eq_true rfl) rfl (fun r15 μ14 hX => ?_)
                  exact j_iret C0 hlk hret dX5_count_129 hX
                · have hX := hX.2 c13
                  by_cases c16 : a1 = 8
                  · have hX := hX.1 c16
                    refine j_tableIn C0 (off := 129) (tgt := 130) dX5_count_1 (by rw [c16]; decide) (by rw [c16]; decide) (by rw [c16]; decide) (by decide) ?_
                    refine j_aload_n C0 0 dX5_count_130 rfl rfl rfl ?_
                    refine j_get5 C0 (v := .ref (ad 166)) 4 (rfl : kd 0 = 5) fw_X5_count_5 hw_X5_count_10 (fun _ h9 => h9) (by decide) rfl dX5_count_131 rfl ?_
                    refine j_get1 C0 (v := .int (μ 166 1)) 1 (rfl : kd 166 = 1) fw_X5_count_1 hw_X5_count_11 (fun _ h9 => h9) (by decide) rfl dX5_count_134 rfl ?_
                    exact j_iret C0 hlk hret dX5_count_137 hX
                  · have hX := hX.2 c16
                    by_cases c17 : a1 = 9
                    · have hX := hX.1 c17
                      refine j_tableIn C0 (off := 137) (tgt := 138) dX5_count_1 (by rw [c17]; decide) (by rw [c17]; decide) (by rw [c17]; decide) (by decide) ?_
                      refine j_aload_n C0 0 dX5_count_138 rfl rfl rfl ?_
                      refine j_get5 C0 (v := .ref (ad 33)) 2 (rfl : kd 0 = 5) fw_X5_count_5 hw_X5_count_12 (fun _ h9 => h9) (by decide) rfl dX5_count_139 rfl ?_
                      refine j_get0 C0 (v := .int (μ 33 2)) 2 (rfl : kd 33 = 0) fw_X5_count_0 hw_X5_count_13 (fun _ h9 => h9) (by decide) rfl dX5_count_142 rfl ?_
                      exact j_iret C0 hlk hret dX5_count_145 hX
                    · have hX := hX.2 c17
                      have t_c1 : ¬ (a1).toInt = 0 := lv_neT c1 (by decide)
                      have t_c2 : ¬ (a1).toInt = 1 := lv_neT c2 (by decide)
                      have t_c3 : ¬ (a1).toInt = 2 := lv_neT c3 (by decide)
                      have t_c4 : ¬ (a1).toInt = 3 := lv_neT c4 (by decide)
                      have t_c7 : ¬ (a1).toInt = 4 := lv_neT c7 (by decide)
                      have t_c11 : ¬ (a1).toInt = 5 := lv_neT c11 (by decide)
                      have t_c12 : ¬ (a1).toInt = 6 := lv_neT c12 (by decide)
                      have t_c13 : ¬ (a1).toInt = 7 := lv_neT c13 (by decide)
                      have t_c16 : ¬ (a1).toInt = 8 := lv_neT c16 (by decide)
                      have t_c17 : ¬ (a1).toInt = 9 := lv_neT c17 (by decide)
                      refine j_tableOut C0 (tgt := 146) dX5_count_1 (by omega) (by decide) ?_
                      refine j_bipush C0 (-2) dX5_count_146 (by decide) rfl ?_
                      exact j_iret C0 hlk hret dX5_count_148 hX
theorem c_X5_count {l : Launch} {D : va_G} {Y : Nat → ClassId} {ad : Nat → Nat} (a1 : Int32) {μ : Mem} {K : Int32 → Mem → Prop}  (hX : x_X5_count a1 μ K) : ConI l yX5_count wsX5_count rm_X5_count [.ref (ad 0), .int a1] D Y ad μ K := conI_of (cc := cX5_count) (maxL := 2) (ret := (some .int)) (own := RX5) _ (by decide +kernel) rfl rfl (Nat.le_of_ble_eq_true rfl) (fun p e s m args below meth c C0 hlk hret => j_sub (l' := [(0, .ref (ad 0)), (1, .int a1)]) [0, 1] rfl (w_X5_count C0 hlk hret a1 μ K  hX))
/-! PhaseTones.ifMade(II)I -/
abbrev rm_X5_ifMade : Room := rmf 4 86
theorem fw_X5_ifMade_3 : ∀ w ∈ wsX30, w ∈ wsX5_ifMade := by decide +kernel
theorem fw_X5_ifMade_5 : ∀ w ∈ wsX50, w ∈ wsX5_ifMade := by decide +kernel
theorem hw_X5_ifMade_0 : Cond.fieldLink RX5 16 RX5 (TX5 1).2.1 (TX5 1).2.2.1 ∈ wsX5_ifMade := by decide +kernel
theorem hw_X5_ifMade_1 : Cond.fieldLink RX5 10 RX5 (TX5 0).2.1 (TX5 0).2.2.1 ∈ wsX5_ifMade := by decide +kernel
theorem hw_X5_ifMade_2 : Cond.fieldLink RX5 162 RX3 (TX3 4).2.1 (TX3 4).2.2.1 ∈ wsX5_ifMade := by decide +kernel
theorem hw_X5_ifMade_3 : Cond.methodLink RX5 190 Lib.Math.max.name ∈ wsX5_ifMade := by decide +kernel
theorem hw_X5_ifMade_4 : Cond.static Lib.Math.max.name ∈ wsX5_ifMade := by decide +kernel
theorem hw_X5_ifMade_5 : Cond.initialized "java/lang/Math" ∈ wsX5_ifMade := by decide +kernel
theorem hw_X5_ifMade_6 : Cond.code Lib.Math.max.name Lib.Math.max.code 2 (some .int) ∈ wsX5_ifMade := by decide +kernel
theorem hw_X5_ifMade_7 : Cond.methodLink RX5 168 Lib.Math.min.name ∈ wsX5_ifMade := by decide +kernel
theorem hw_X5_ifMade_8 : Cond.static Lib.Math.min.name ∈ wsX5_ifMade := by decide +kernel
theorem hw_X5_ifMade_9 : Cond.code Lib.Math.min.name Lib.Math.min.code 2 (some .int) ∈ wsX5_ifMade := by decide +kernel
def xb_X5_ifMade_L44 (K : Int32 → Mem → Prop) (B : Int32 → Int32 → Int32 → Int32 → Int32 → Mem → Prop) (a1 : Int32) (a2 : Int32) (a3 : Int32) (a4 : Int32) (a5 : Int32) (μ : Mem) : Prop :=
  (a1 ≤ a5 → (a2 = 0 → K a3 μ) ∧ (¬ (a2 = 0) → (a2 = 1 → K a4 μ) ∧ (¬ (a2 = 1) → (a2 = 2 → K ((μ 17 4) - (μ 1 4)) μ) ∧ (¬ (a2 = 2) → x_X3_mixtureAgo 17 0 μ (fun r13 μ12 => K r13 μ12))))) ∧ (¬ (a1 ≤ a5) → x_X3_makeOne 17 μ (fun μ14 => x_X3_mixtureAgo 17 0 μ14 (fun r16 μ15 => ∀ v17 : Int32, v17 = (if a3 < r16 then r16 else a3) → x_X3_mixtureAgo 17 0 μ15 (fun r19 μ18 => ∀ v20 : Int32, v20 = (if r19 < a4 then r19 else a4) → ∀ v21 : Int32, v21 = a5 + 1 → B a1 a2 v17 v20 v21 μ18))))
def x_X5_ifMade_L44 (K : Int32 → Mem → Prop) : Nat → Int32 → Int32 → Int32 → Int32 → Int32 → Mem → Prop
  | 0 => fun _ _ _ _ _ _ => False
  | n + 1 => fun a1 a2 a3 a4 a5 μ => xb_X5_ifMade_L44 K (x_X5_ifMade_L44 K n) a1 a2 a3 a4 a5 μ
set_option maxRecDepth 20000 in
theorem wb_X5_ifMade_L44 {p : Program} {l : Launch} {e : Env} {s : State} {m : MethodId} {args : Array Value} {below : List Frame} {meth : Method} {c : Code} {D : va_G} {Y : Nat → ClassId} {ad : Nat → Nat} (C0 : CX D Y ad (PA ad) rm_X5_ifMade 0 0 p s args m c cX5_ifMade 6 RX5 wsX5_ifMade) (hlk : meth.locks = false) (hret : meth.sig.returnType = (some .int)) (a1 : Int32) (a2 : Int32) (a3 : Int32) (a4 : Int32) (a5 : Int32) (μ : Mem) (K : Int32 → Mem → Prop) (B : Int32 → Int32 → Int32 → Int32 → Int32 → Mem → Prop) (hB : ∀ (a1 : Int32) (a2 : Int32) (a3 : Int32) (a4 : Int32) (a5 : Int32) (μ : Mem), B a1 a2 a3 a4 a5 μ → J p l e rm_X5_ifMade s m args below meth c D Y ad (PA ad) 0 0 6 (MQ below (va_Qi K (BB D Y ad) (PA ad)) args s 0 0 (PA ad)) 44 [(0, .ref (ad 0)), (1, .int a1), (2, .int a2), (3, .int a3), (4, .int a4), (5, .int a5)] [] μ)  (hX : xb_X5_ifMade_L44 K B a1 a2 a3 a4 a5 μ) : J p l e rm_X5_ifMade s m args below meth c D Y ad (PA ad) 0 0 6 (MQ below (va_Qi K (BB D Y ad) (PA ad)) args s 0 0 (PA ad)) 44 [(0, .ref (ad 0)), (1, .int a1), (2, .int a2), (3, .int a3), (4, .int a4), (5, .int a5)] [] μ := by
  refine j_iload C0 5 dX5_ifMade_44 rfl rfl ?_
  refine j_iload_n C0 1 dX5_ifMade_46 rfl rfl rfl ?_
  refine j_icmp_ge C0 (tgt := 91) dX5_ifMade_47 (by decide) rfl (fun c8 => ?_) (fun c8 => ?_)
  · have hX := hX.1 c8
    refine j_iload_n C0 2 dX5_ifMade_91 rfl rfl rfl ?_
    by_cases c9 : a2 = 0
    · have hX := hX.1 c9
      refine j_tableIn C0 (off := 28) (tgt := 120) dX5_ifMade_92 (by rw [c9]; decide) (by rw [c9]; decide) (by rw [c9]; decide) (by decide) ?_
      refine j_iload_n C0 3 dX5_ifMade_120 rfl rfl rfl ?_
      exact j_iret C0 hlk hret dX5_ifMade_121 hX
    · have hX := hX.2 c9
      by_cases c10 : a2 = 1
      · have hX := hX.1 c10
        refine j_tableIn C0 (off := 30) (tgt := 122) dX5_ifMade_92 (by rw [c10]; decide) (by rw [c10]; decide) (by rw [c10]; decide) (by decide) ?_
        refine j_iload C0 4 dX5_ifMade_122 rfl rfl ?_
        exact j_iret C0 hlk hret dX5_ifMade_124 hX
      · have hX := hX.2 c10
        by_cases c11 : a2 = 2
        · have hX := hX.1 c11
          refine j_tableIn C0 (off := 33) (tgt := 125) dX5_ifMade_92 (by rw [c11]; decide) (by rw [c11]; decide) (by rw [c11]; decide) (by decide) ?_
          refine j_aload_n C0 0 dX5_ifMade_125 rfl rfl rfl ?_
          refine j_get5 C0 (v := .ref (ad 17)) 1 (rfl : kd 0 = 5) fw_X5_ifMade_5 hw_X5_ifMade_0 (fun _ h9 => h9) (by decide) rfl dX5_ifMade_126 rfl ?_
          refine j_get3 C0 (v := .int (μ 17 4)) 4 (rfl : kd 17 = 3) fw_X5_ifMade_3 hw_X5_ifMade_2 (fun _ h9 => h9) (by decide) rfl dX5_ifMade_129 rfl ?_
          refine j_aload_n C0 0 dX5_ifMade_132 rfl rfl rfl ?_
          refine j_get5 C0 (v := .ref (ad 1)) 0 (rfl : kd 0 = 5) fw_X5_ifMade_5 hw_X5_ifMade_1 (fun _ h9 => h9) (by decide) rfl dX5_ifMade_133 rfl ?_
          refine j_get3 C0 (v := .int (μ 1 4)) 4 (rfl : kd 1 = 3) fw_X5_ifMade_3 hw_X5_ifMade_2 (fun _ h9 => h9) (by decide) rfl dX5_ifMade_136 rfl ?_
          refine j_isub C0 dX5_ifMade_139 rfl ?_
          exact j_iret C0 hlk hret dX5_ifMade_140 hX
        · have hX := hX.2 c11
          have t_c9 : ¬ (a2).toInt = 0 := lv_neT c9 (by decide)
          have t_c10 : ¬ (a2).toInt = 1 := lv_neT c10 (by decide)
          have t_c11 : ¬ (a2).toInt = 2 := lv_neT c11 (by decide)
          refine j_tableOut C0 (tgt := 141) dX5_ifMade_92 (by omega) (by decide) ?_
          refine j_aload_n C0 0 dX5_ifMade_141 rfl rfl rfl ?_
          refine j_get5 C0 (v := .ref (ad 17)) 1 (rfl : kd 0 = 5) fw_X5_ifMade_5 hw_X5_ifMade_0 (fun _ h9 => h9) (by decide) rfl dX5_ifMade_142 rfl ?_
          refine j_iconst C0 0 dX5_ifMade_145 (by decide) rfl ?_
          refine j_callVi C0 1 [.int 0] (c_X3_mixtureAgo 17 0 (rfl : kd 17 = 3) hX) dX5_ifMade_146 gX5_ifMade_X3_mixtureAgo rfl (by decide +kernel) ⟨⟨Nat.le_of_ble_eq_true rfl, Nat.le_of_ble_eq_true rfl⟩, rfl, rfl⟩ (kd_lt (rfl : kd 17 = 3) (by decide)) (ce3 (rfl : kd 17 = 3)) rfl rfl rfl (Nat.le_of_ble_eq_true rfl) rfl (fun r13 μ12 hX => ?_)
          exact j_iret C0 hlk hret dX5_ifMade_149 hX
  · have hX := hX.2 c8
    refine j_aload_n C0 0 dX5_ifMade_50 rfl rfl rfl ?_
    refine j_get5 C0 (v := .ref (ad 17)) 1 (rfl : kd 0 = 5) fw_X5_ifMade_5 hw_X5_ifMade_0 (fun _ h9 => h9) (by decide) rfl dX5_ifMade_51 rfl ?_
    refine j_callVv C0 0 [] (c_X3_makeOne 17 (rfl : kd 17 = 3) hX) dX5_ifMade_54 gX5_ifMade_X3_makeOne rfl (by decide +kernel) ⟨⟨Nat.le_of_ble_eq_true rfl, Nat.le_of_ble_eq_true rfl⟩, rfl, rfl⟩ (kd_lt (rfl : kd 17 = 3) (by decide)) (ce3 (rfl : kd 17 = 3)) rfl rfl rfl (Nat.le_of_ble_eq_true rfl) rfl (fun μ14 hX => ?_)
    refine j_iload_n C0 3 dX5_ifMade_57 rfl rfl rfl ?_
    refine j_aload_n C0 0 dX5_ifMade_58 rfl rfl rfl ?_
    refine j_get5 C0 (v := .ref (ad 17)) 1 (rfl : kd 0 = 5) fw_X5_ifMade_5 hw_X5_ifMade_0 (fun _ h9 => h9) (by decide) rfl dX5_ifMade_59 rfl ?_
    refine j_iconst C0 0 dX5_ifMade_62 (by decide) rfl ?_
    refine j_callVi C0 1 [.int 0] (c_X3_mixtureAgo 17 0 (rfl : kd 17 = 3) hX) dX5_ifMade_63 gX5_ifMade_X3_mixtureAgo rfl (by decide +kernel) ⟨⟨Nat.le_of_ble_eq_true rfl, Nat.le_of_ble_eq_true rfl⟩, rfl, rfl⟩ (kd_lt (rfl : kd 17 = 3) (by decide)) (ce3 (rfl : kd 17 = 3)) rfl rfl rfl (Nat.le_of_ble_eq_true rfl) rfl (fun r16 μ15 hX => ?_)
    refine j_mmax C0 hw_X5_ifMade_3 hw_X5_ifMade_4 hw_X5_ifMade_5 hw_X5_ifMade_6 ⟨Nat.le_of_ble_eq_true rfl, Nat.le_of_ble_eq_true rfl⟩ dX5_ifMade_66 rfl ?_
    refine j_topi (fun v17 e_v17 => ?_)
    have hX := hX v17 e_v17
    refine j_istore_n C0 [(3, .int v17), (0, .ref (ad 0)), (1, .int a1), (2, .int a2), (4, .int a4), (5, .int a5)] dX5_ifMade_69 rfl (by decide) rfl rfl ?_
    refine j_iload C0 4 dX5_ifMade_70 rfl rfl ?_
    refine j_aload_n C0 1 dX5_ifMade_72 rfl rfl rfl ?_
    refine j_get5 C0 (v := .ref (ad 17)) 1 (rfl : kd 0 = 5) fw_X5_ifMade_5 hw_X5_ifMade_0 (fun _ h9 => h9) (by decide) rfl dX5_ifMade_73 rfl ?_
    refine j_iconst C0 0 dX5_ifMade_76 (by decide) rfl ?_
    refine j_callVi C0 1 [.int 0] (c_X3_mixtureAgo 17 0 (rfl : kd 17 = 3) hX) dX5_ifMade_77 gX5_ifMade_X3_mixtureAgo rfl (by decide +kernel) ⟨⟨Nat.le_of_ble_eq_true rfl, Nat.le_of_ble_eq_true rfl⟩, rfl, rfl⟩ (kd_lt (rfl : kd 17 = 3) (by decide)) (ce3 (rfl : kd 17 = 3)) rfl rfl rfl (Nat.le_of_ble_eq_true rfl) rfl (fun r19 μ18 hX => ?_)
    refine j_mmin C0 hw_X5_ifMade_7 hw_X5_ifMade_8 hw_X5_ifMade_5 hw_X5_ifMade_9 ⟨Nat.le_of_ble_eq_true rfl, Nat.le_of_ble_eq_true rfl⟩ dX5_ifMade_80 rfl ?_
    refine j_topi (fun v20 e_v20 => ?_)
    have hX := hX v20 e_v20
    refine j_istore C0 [(4, .int v20), (3, .int v17), (0, .ref (ad 0)), (1, .int a1), (2, .int a2), (5, .int a5)] dX5_ifMade_83 (by decide) rfl rfl ?_
    obtain ⟨v21, e_v21⟩ : ∃ z : Int32, z = a5 + 1 := ⟨_, rfl⟩
    have hX := hX v21 e_v21
    refine j_iinc C0 5 v21 [(5, .int v21), (4, .int v20), (3, .int v17), (0, .ref (ad 0)), (1, .int a1), (2, .int a2)] dX5_ifMade_85 rfl (by rw [e_v21]; rfl) (by decide) rfl rfl ?_
    refine j_goto C0 (tgt := 44) dX5_ifMade_88 (by decide) ?_
    exact j_sub (l' := [(0, .ref (ad 0)), (1, .int a1), (2, .int a2), (3, .int v17), (4, .int v20), (5, .int v21)]) [3, 4, 5, 2, 1, 0] rfl (hB a1 a2 v17 v20 v21 μ18  hX)
theorem w_X5_ifMade_L44 {p : Program} {l : Launch} {e : Env} {s : State} {m : MethodId} {args : Array Value} {below : List Frame} {meth : Method} {c : Code} {D : va_G} {Y : Nat → ClassId} {ad : Nat → Nat} (C0 : CX D Y ad (PA ad) rm_X5_ifMade 0 0 p s args m c cX5_ifMade 6 RX5 wsX5_ifMade) (hlk : meth.locks = false) (hret : meth.sig.returnType = (some .int)) (K : Int32 → Mem → Prop) : ∀ (n : Nat) (a1 : Int32) (a2 : Int32) (a3 : Int32) (a4 : Int32) (a5 : Int32) (μ : Mem)  (hX : x_X5_ifMade_L44 K n a1 a2 a3 a4 a5 μ), J p l e rm_X5_ifMade s m args below meth c D Y ad (PA ad) 0 0 6 (MQ below (va_Qi K (BB D Y ad) (PA ad)) args s 0 0 (PA ad)) 44 [(0, .ref (ad 0)), (1, .int a1), (2, .int a2), (3, .int a3), (4, .int a4), (5, .int a5)] [] μ
  | 0, a1, a2, a3, a4, a5, μ, hX => hX.elim
  | n + 1, a1, a2, a3, a4, a5, μ, hX => wb_X5_ifMade_L44 C0 hlk hret a1 a2 a3 a4 a5 μ K (x_X5_ifMade_L44 K n) (fun a1 a2 a3 a4 a5 μ  hx => w_X5_ifMade_L44 C0 hlk hret K n a1 a2 a3 a4 a5 μ  hx)  hX
def x_X5_ifMade (a1 : Int32) (a2 : Int32) (μ : Mem) (K : Int32 → Mem → Prop) : Prop :=
  x_X5_isOutside a1 1 2000 μ (fun r2 μ1 => (r2 = 0 → x_X5_isOutside a2 0 3 μ1 (fun r5 μ4 => (r5 = 0 → x_X3_takeOver 17 1 μ4 (fun μ7 => ∃ n : Nat, x_X5_ifMade_L44 K n a1 a2 0 960 0 μ7)) ∧ (¬ (r5 = 0) → K (-2) μ4))) ∧ (¬ (r2 = 0) → K (-2) μ1))
set_option maxRecDepth 20000 in
theorem w_X5_ifMade {p : Program} {l : Launch} {e : Env} {s : State} {m : MethodId} {args : Array Value} {below : List Frame} {meth : Method} {c : Code} {D : va_G} {Y : Nat → ClassId} {ad : Nat → Nat} (C0 : CX D Y ad (PA ad) rm_X5_ifMade 0 0 p s args m c cX5_ifMade 6 RX5 wsX5_ifMade) (hlk : meth.locks = false) (hret : meth.sig.returnType = (some .int)) (a1 : Int32) (a2 : Int32) (μ : Mem) (K : Int32 → Mem → Prop)  (hX : x_X5_ifMade a1 a2 μ K) : J p l e rm_X5_ifMade s m args below meth c D Y ad (PA ad) 0 0 6 (MQ below (va_Qi K (BB D Y ad) (PA ad)) args s 0 0 (PA ad)) 0 [(0, .ref (ad 0)), (1, .int a1), (2, .int a2)] [] μ := by
  refine j_iload_n C0 1 dX5_ifMade_0 rfl rfl rfl ?_
  refine j_iconst C0 1 dX5_ifMade_1 (by decide) rfl ?_
  refine j_sipush C0 2000 dX5_ifMade_2 (by decide) rfl ?_
  refine j_callSi C0 3 [.int a1, .int 1, .int 2000] (c_X5_isOutside a1 1 2000  hX) dX5_ifMade_5 gX5_ifMade_X5_isOutside rfl (by decide +kernel) ⟨⟨Nat.le_of_ble_eq_true rfl, Nat.le_of_ble_eq_true rfl⟩, rfl, rfl⟩ rfl rfl (Nat.le_of_ble_eq_true rfl) rfl (fun r2 μ1 hX => ?_)
  refine j_if_ne C0 (tgt := 20) dX5_ifMade_8 (by decide) rfl (fun c3 => ?_) (fun c3 => ?_)
  · have hX := hX.1 c3
    refine j_iload_n C0 2 dX5_ifMade_11 rfl rfl rfl ?_
    refine j_iconst C0 0 dX5_ifMade_12 (by decide) rfl ?_
    refine j_iconst C0 3 dX5_ifMade_13 (by decide) rfl ?_
    refine j_callSi C0 3 [.int a2, .int 0, .int 3] (c_X5_isOutside a2 0 3  hX) dX5_ifMade_14 gX5_ifMade_X5_isOutside rfl (by decide +kernel) ⟨⟨Nat.le_of_ble_eq_true rfl, Nat.le_of_ble_eq_true rfl⟩, rfl, rfl⟩ rfl rfl (Nat.le_of_ble_eq_true rfl) rfl (fun r5 μ4 hX => ?_)
    refine j_if_eq C0 (tgt := 23) dX5_ifMade_17 (by decide) rfl (fun c6 => ?_) (fun c6 => ?_)
    · have hX := hX.1 c6
      refine j_aload_n C0 0 dX5_ifMade_23 rfl rfl rfl ?_
      refine j_get5 C0 (v := .ref (ad 17)) 1 (rfl : kd 0 = 5) fw_X5_ifMade_5 hw_X5_ifMade_0 (fun _ h9 => h9) (by decide) rfl dX5_ifMade_24 rfl ?_
      refine j_aload_n C0 0 dX5_ifMade_27 rfl rfl rfl ?_
      refine j_get5 C0 (v := .ref (ad 1)) 0 (rfl : kd 0 = 5) fw_X5_ifMade_5 hw_X5_ifMade_1 (fun _ h9 => h9) (by decide) rfl dX5_ifMade_28 rfl ?_
      refine j_callVv C0 1 [.ref (ad 1)] (c_X3_takeOver 17 1 (rfl : kd 17 = 3) (rfl : kd 1 = 3) hX) dX5_ifMade_31 gX5_ifMade_X3_takeOver rfl (by decide +kernel) ⟨⟨Nat.le_of_ble_eq_true rfl, Nat.le_of_ble_eq_true rfl⟩, rfl, rfl⟩ (kd_lt (rfl : kd 17 = 3) (by decide)) (ce3 (rfl : kd 17 = 3)) rfl rfl rfl (Nat.le_of_ble_eq_true rfl) rfl (fun μ7 hX => ?_)
      refine j_iconst C0 0 dX5_ifMade_34 (by decide) rfl ?_
      refine j_istore_n C0 [(3, .int 0), (0, .ref (ad 0)), (1, .int a1), (2, .int a2)] dX5_ifMade_35 rfl (by decide) rfl rfl ?_
      refine j_sipush C0 960 dX5_ifMade_36 (by decide) rfl ?_
      refine j_istore C0 [(4, .int 960), (3, .int 0), (0, .ref (ad 0)), (1, .int a1), (2, .int a2)] dX5_ifMade_39 (by decide) rfl rfl ?_
      refine j_iconst C0 0 dX5_ifMade_41 (by decide) rfl ?_
      refine j_istore C0 [(5, .int 0), (4, .int 960), (3, .int 0), (0, .ref (ad 0)), (1, .int a1), (2, .int a2)] dX5_ifMade_42 (by decide) rfl rfl ?_
      obtain ⟨n, hX⟩ := hX
      exact j_sub (l' := [(0, .ref (ad 0)), (1, .int a1), (2, .int a2), (3, .int 0), (4, .int 960), (5, .int 0)]) [3, 4, 5, 2, 1, 0] rfl (w_X5_ifMade_L44 C0 hlk hret K n a1 a2 0 960 0 μ7  hX)
    · have hX := hX.2 c6
      refine j_bipush C0 (-2) dX5_ifMade_20 (by decide) rfl ?_
      exact j_iret C0 hlk hret dX5_ifMade_22 hX
  · have hX := hX.2 c3
    refine j_bipush C0 (-2) dX5_ifMade_20 (by decide) rfl ?_
    exact j_iret C0 hlk hret dX5_ifMade_22 hX
theorem c_X5_ifMade {l : Launch} {D : va_G} {Y : Nat → ClassId} {ad : Nat → Nat} (a1 : Int32) (a2 : Int32) {μ : Mem} {K : Int32 → Mem → Prop}  (hX : x_X5_ifMade a1 a2 μ K) : ConI l yX5_ifMade wsX5_ifMade rm_X5_ifMade [.ref (ad 0), .int a1, .int a2] D Y ad μ K := conI_of (cc := cX5_ifMade) (maxL := 6) (ret := (some .int)) (own := RX5) _ (by decide +kernel) rfl rfl (Nat.le_of_ble_eq_true rfl) (fun p e s m args below meth c C0 hlk hret => j_sub (l' := [(0, .ref (ad 0)), (1, .int a1), (2, .int a2)]) [0, 1, 2] rfl (w_X5_ifMade C0 hlk hret a1 a2 μ K  hX))
/-! PhaseTones.untilClip()I -/
abbrev rm_X5_untilClip : Room := rmf 4 86
theorem fw_X5_untilClip_3 : ∀ w ∈ wsX30, w ∈ wsX5_untilClip := by decide +kernel
theorem fw_X5_untilClip_5 : ∀ w ∈ wsX50, w ∈ wsX5_untilClip := by decide +kernel
theorem hw_X5_untilClip_0 : Cond.fieldLink RX5 16 RX5 (TX5 1).2.1 (TX5 1).2.2.1 ∈ wsX5_untilClip := by decide +kernel
theorem hw_X5_untilClip_1 : Cond.fieldLink RX5 10 RX5 (TX5 0).2.1 (TX5 0).2.2.1 ∈ wsX5_untilClip := by decide +kernel
theorem hw_X5_untilClip_2 : Cond.fieldLink RX5 162 RX3 (TX3 4).2.1 (TX3 4).2.2.1 ∈ wsX5_untilClip := by decide +kernel
def xb_X5_untilClip_L13 (K : Int32 → Mem → Prop) (B : Int32 → Mem → Prop) (a1 : Int32) (μ : Mem) : Prop :=
  (2000 < a1 → K (-6) μ) ∧ (¬ (2000 < a1) → x_X3_makeOne 17 μ (fun μ3 => ((μ3 17 4) ≤ (μ3 1 4) → ∀ v5 : Int32, v5 = a1 + 1 → B v5 μ3) ∧ (¬ ((μ3 17 4) ≤ (μ3 1 4)) → K a1 μ3)))
def x_X5_untilClip_L13 (K : Int32 → Mem → Prop) : Nat → Int32 → Mem → Prop
  | 0 => fun _ _ => False
  | n + 1 => fun a1 μ => xb_X5_untilClip_L13 K (x_X5_untilClip_L13 K n) a1 μ
set_option maxRecDepth 20000 in
theorem wb_X5_untilClip_L13 {p : Program} {l : Launch} {e : Env} {s : State} {m : MethodId} {args : Array Value} {below : List Frame} {meth : Method} {c : Code} {D : va_G} {Y : Nat → ClassId} {ad : Nat → Nat} (C0 : CX D Y ad (PA ad) rm_X5_untilClip 0 0 p s args m c cX5_untilClip 2 RX5 wsX5_untilClip) (hlk : meth.locks = false) (hret : meth.sig.returnType = (some .int)) (a1 : Int32) (μ : Mem) (K : Int32 → Mem → Prop) (B : Int32 → Mem → Prop) (hB : ∀ (a1 : Int32) (μ : Mem), B a1 μ → J p l e rm_X5_untilClip s m args below meth c D Y ad (PA ad) 0 0 2 (MQ below (va_Qi K (BB D Y ad) (PA ad)) args s 0 0 (PA ad)) 13 [(0, .ref (ad 0)), (1, .int a1)] [] μ)  (hX : xb_X5_untilClip_L13 K B a1 μ) : J p l e rm_X5_untilClip s m args below meth c D Y ad (PA ad) 0 0 2 (MQ below (va_Qi K (BB D Y ad) (PA ad)) args s 0 0 (PA ad)) 13 [(0, .ref (ad 0)), (1, .int a1)] [] μ := by
  refine j_iload_n C0 1 dX5_untilClip_13 rfl rfl rfl ?_
  refine j_sipush C0 2000 dX5_untilClip_14 (by decide) rfl ?_
  refine j_icmp_gt C0 (tgt := 52) dX5_untilClip_17 (by decide) rfl (fun c2 => ?_) (fun c2 => ?_)
  · have hX := hX.1 c2
    refine j_bipush C0 (-6) dX5_untilClip_52 (by decide) rfl ?_
    exact j_iret C0 hlk hret dX5_untilClip_54 hX
  · have hX := hX.2 c2
    refine j_aload_n C0 0 dX5_untilClip_20 rfl rfl rfl ?_
    refine j_get5 C0 (v := .ref (ad 17)) 1 (rfl : kd 0 = 5) fw_X5_untilClip_5 hw_X5_untilClip_0 (fun _ h9 => h9) (by decide) rfl dX5_untilClip_21 rfl ?_
    refine j_callVv C0 0 [] (c_X3_makeOne 17 (rfl : kd 17 = 3) hX) dX5_untilClip_24 gX5_untilClip_X3_makeOne rfl (by decide +kernel) ⟨⟨Nat.le_of_ble_eq_true rfl, Nat.le_of_ble_eq_true rfl⟩, rfl, rfl⟩ (kd_lt (rfl : kd 17 = 3) (by decide)) (ce3 (rfl : kd 17 = 3)) rfl rfl rfl (Nat.le_of_ble_eq_true rfl) rfl (fun μ3 hX => ?_)
    refine j_aload_n C0 0 dX5_untilClip_27 rfl rfl rfl ?_
    refine j_get5 C0 (v := .ref (ad 17)) 1 (rfl : kd 0 = 5) fw_X5_untilClip_5 hw_X5_untilClip_0 (fun _ h9 => h9) (by decide) rfl dX5_untilClip_28 rfl ?_
    refine j_get3 C0 (v := .int (μ3 17 4)) 4 (rfl : kd 17 = 3) fw_X5_untilClip_3 hw_X5_untilClip_2 (fun _ h9 => h9) (by decide) rfl dX5_untilClip_31 rfl ?_
    refine j_aload_n C0 0 dX5_untilClip_34 rfl rfl rfl ?_
    refine j_get5 C0 (v := .ref (ad 1)) 0 (rfl : kd 0 = 5) fw_X5_untilClip_5 hw_X5_untilClip_1 (fun _ h9 => h9) (by decide) rfl dX5_untilClip_35 rfl ?_
    refine j_get3 C0 (v := .int (μ3 1 4)) 4 (rfl : kd 1 = 3) fw_X5_untilClip_3 hw_X5_untilClip_2 (fun _ h9 => h9) (by decide) rfl dX5_untilClip_38 rfl ?_
    refine j_icmp_le C0 (tgt := 46) dX5_untilClip_41 (by decide) rfl (fun c4 => ?_) (fun c4 => ?_)
    · have hX := hX.1 c4
      obtain ⟨v5, e_v5⟩ : ∃ z : Int32, z = a1 + 1 := ⟨_, rfl⟩
      have hX := hX v5 e_v5
      refine j_iinc C0 1 v5 [(1, .int v5), (0, .ref (ad 0))] dX5_untilClip_46 rfl (by rw [e_v5]; rfl) (by decide) rfl rfl ?_
      refine j_goto C0 (tgt := 13) dX5_untilClip_49 (by decide) ?_
      exact j_sub (l' := [(0, .ref (ad 0)), (1, .int v5)]) [1, 0] rfl (hB v5 μ3  hX)
    · have hX := hX.2 c4
      refine j_iload_n C0 1 dX5_untilClip_44 rfl rfl rfl ?_
      exact j_iret C0 hlk hret dX5_untilClip_45 hX
theorem w_X5_untilClip_L13 {p : Program} {l : Launch} {e : Env} {s : State} {m : MethodId} {args : Array Value} {below : List Frame} {meth : Method} {c : Code} {D : va_G} {Y : Nat → ClassId} {ad : Nat → Nat} (C0 : CX D Y ad (PA ad) rm_X5_untilClip 0 0 p s args m c cX5_untilClip 2 RX5 wsX5_untilClip) (hlk : meth.locks = false) (hret : meth.sig.returnType = (some .int)) (K : Int32 → Mem → Prop) : ∀ (n : Nat) (a1 : Int32) (μ : Mem)  (hX : x_X5_untilClip_L13 K n a1 μ), J p l e rm_X5_untilClip s m args below meth c D Y ad (PA ad) 0 0 2 (MQ below (va_Qi K (BB D Y ad) (PA ad)) args s 0 0 (PA ad)) 13 [(0, .ref (ad 0)), (1, .int a1)] [] μ
  | 0, a1, μ, hX => hX.elim
  | n + 1, a1, μ, hX => wb_X5_untilClip_L13 C0 hlk hret a1 μ K (x_X5_untilClip_L13 K n) (fun a1 μ  hx => w_X5_untilClip_L13 C0 hlk hret K n a1 μ  hx)  hX
def x_X5_untilClip  (μ : Mem) (K : Int32 → Mem → Prop) : Prop :=
  x_X3_takeOver 17 1 μ (fun μ1 => ∃ n : Nat, x_X5_untilClip_L13 K n 1 μ1)
set_option maxRecDepth 20000 in
theorem w_X5_untilClip {p : Program} {l : Launch} {e : Env} {s : State} {m : MethodId} {args : Array Value} {below : List Frame} {meth : Method} {c : Code} {D : va_G} {Y : Nat → ClassId} {ad : Nat → Nat} (C0 : CX D Y ad (PA ad) rm_X5_untilClip 0 0 p s args m c cX5_untilClip 2 RX5 wsX5_untilClip) (hlk : meth.locks = false) (hret : meth.sig.returnType = (some .int))  (μ : Mem) (K : Int32 → Mem → Prop)  (hX : x_X5_untilClip  μ K) : J p l e rm_X5_untilClip s m args below meth c D Y ad (PA ad) 0 0 2 (MQ below (va_Qi K (BB D Y ad) (PA ad)) args s 0 0 (PA ad)) 0 [(0, .ref (ad 0))] [] μ := by
  refine j_aload_n C0 0 dX5_untilClip_0 rfl rfl rfl ?_
  refine j_get5 C0 (v := .ref (ad 17)) 1 (rfl : kd 0 = 5) fw_X5_untilClip_5 hw_X5_untilClip_0 (fun _ h9 => h9) (by decide) rfl dX5_untilClip_1 rfl ?_
  refine j_aload_n C0 0 dX5_untilClip_4 rfl rfl rfl ?_
  refine j_get5 C0 (v := .ref (ad 1)) 0 (rfl : kd 0 = 5) fw_X5_untilClip_5 hw_X5_untilClip_1 (fun _ h9 => h9) (by decide) rfl dX5_untilClip_5 rfl ?_
  refine j_callVv C0 1 [.ref (ad 1)] (c_X3_takeOver 17 1 (rfl : kd 17 = 3) (rfl : kd 1 = 3) hX) dX5_untilClip_8 gX5_untilClip_X3_takeOver rfl (by decide +kernel) ⟨⟨Nat.le_of_ble_eq_true rfl, Nat.le_of_ble_eq_true rfl⟩, rfl, rfl⟩ (kd_lt (rfl : kd 17 = 3) (by decide)) (ce3 (rfl : kd 17 = 3)) rfl rfl rfl (Nat.le_of_ble_eq_true rfl) rfl (fun μ1 hX => ?_)
  refine j_iconst C0 1 dX5_untilClip_11 (by decide) rfl ?_
  refine j_istore_n C0 [(1, .int 1), (0, .ref (ad 0))] dX5_untilClip_12 rfl (by decide) rfl rfl ?_
  obtain ⟨n, hX⟩ := hX
  exact j_sub (l' := [(0, .ref (ad 0)), (1, .int 1)]) [1, 0] rfl (w_X5_untilClip_L13 C0 hlk hret K n 1 μ1  hX)
theorem c_X5_untilClip {l : Launch} {D : va_G} {Y : Nat → ClassId} {ad : Nat → Nat}  {μ : Mem} {K : Int32 → Mem → Prop}  (hX : x_X5_untilClip  μ K) : ConI l yX5_untilClip wsX5_untilClip rm_X5_untilClip [.ref (ad 0)] D Y ad μ K := conI_of (cc := cX5_untilClip) (maxL := 2) (ret := (some .int)) (own := RX5) _ (by decide +kernel) rfl rfl (Nat.le_of_ble_eq_true rfl) (fun p e s m args below meth c C0 hlk hret => j_sub (l' := [(0, .ref (ad 0))]) [0] rfl (w_X5_untilClip C0 hlk hret  μ K  hX))
/-! PhaseTones.untilRound(I)I -/
abbrev rm_X5_untilRound : Room := rmf 4 84
theorem fw_X5_untilRound_3 : ∀ w ∈ wsX30, w ∈ wsX5_untilRound := by decide +kernel
theorem fw_X5_untilRound_5 : ∀ w ∈ wsX50, w ∈ wsX5_untilRound := by decide +kernel
theorem hw_X5_untilRound_0 : Cond.fieldLink RX5 16 RX5 (TX5 1).2.1 (TX5 1).2.2.1 ∈ wsX5_untilRound := by decide +kernel
theorem hw_X5_untilRound_1 : Cond.fieldLink RX5 10 RX5 (TX5 0).2.1 (TX5 0).2.2.1 ∈ wsX5_untilRound := by decide +kernel
theorem hw_X5_untilRound_2 : Cond.fieldLink RX5 67 RX3 (TX3 2).2.1 (TX3 2).2.2.1 ∈ wsX5_untilRound := by decide +kernel
def x_X5_untilRound (a1 : Int32) (μ : Mem) (K : Int32 → Mem → Prop) : Prop :=
  x_X5_isNoWheel a1 μ (fun r2 μ1 => (r2 = 0 → x_X3_takeOver 17 1 μ1 (fun μ4 => vp_in a1 4 ∧ x_X4_goRound (21 + 3 * a1.toNatClampNeg) μ4 (fun r7 μ6 => K r7 μ6))) ∧ (¬ (r2 = 0) → K (-1) μ1))
set_option maxRecDepth 20000 in
theorem w_X5_untilRound {p : Program} {l : Launch} {e : Env} {s : State} {m : MethodId} {args : Array Value} {below : List Frame} {meth : Method} {c : Code} {D : va_G} {Y : Nat → ClassId} {ad : Nat → Nat} (C0 : CX D Y ad (PA ad) rm_X5_untilRound 0 0 p s args m c cX5_untilRound 2 RX5 wsX5_untilRound) (hlk : meth.locks = false) (hret : meth.sig.returnType = (some .int)) (a1 : Int32) (μ : Mem) (K : Int32 → Mem → Prop)  (hX : x_X5_untilRound a1 μ K) : J p l e rm_X5_untilRound s m args below meth c D Y ad (PA ad) 0 0 2 (MQ below (va_Qi K (BB D Y ad) (PA ad)) args s 0 0 (PA ad)) 0 [(0, .ref (ad 0)), (1, .int a1)] [] μ := by
  refine j_iload_n C0 1 dX5_untilRound_0 rfl rfl rfl ?_
  refine j_callSi C0 1 [.int a1] (c_X5_isNoWheel a1  hX) dX5_untilRound_1 gX5_untilRound_X5_isNoWheel rfl (by decide +kernel) ⟨⟨Nat.le_of_ble_eq_true rfl, Nat.le_of_ble_eq_true rfl⟩, rfl, rfl⟩ rfl rfl (Nat.le_of_ble_eq_true rfl) rfl (fun r2 μ1 hX => ?_)
  refine j_if_eq C0 (tgt := 9) dX5_untilRound_4 (by decide) rfl (fun c3 => ?_) (fun c3 => ?_)
  · have hX := hX.1 c3
    refine j_aload_n C0 0 dX5_untilRound_9 rfl rfl rfl ?_
    refine j_get5 C0 (v := .ref (ad 17)) 1 (rfl : kd 0 = 5) fw_X5_untilRound_5 hw_X5_untilRound_0 (fun _ h9 => h9) (by decide) rfl dX5_untilRound_10 rfl ?_
    refine j_aload_n C0 0 dX5_untilRound_13 rfl rfl rfl ?_
    refine j_get5 C0 (v := .ref (ad 1)) 0 (rfl : kd 0 = 5) fw_X5_untilRound_5 hw_X5_untilRound_1 (fun _ h9 => h9) (by decide) rfl dX5_untilRound_14 rfl ?_
    refine j_callVv C0 1 [.ref (ad 1)] (c_X3_takeOver 17 1 (rfl : kd 17 = 3) (rfl : kd 1 = 3) hX) dX5_untilRound_17 gX5_untilRound_X3_takeOver rfl (by decide +kernel) ⟨⟨Nat.le_of_ble_eq_true rfl, Nat.le_of_ble_eq_true rfl⟩, rfl, rfl⟩ (kd_lt (rfl : kd 17 = 3) (by decide)) (ce3 (rfl : kd 17 = 3)) rfl rfl rfl (Nat.le_of_ble_eq_true rfl) rfl (fun μ4 hX => ?_)
    refine j_aload_n C0 0 dX5_untilRound_20 rfl rfl rfl ?_
    refine j_get5 C0 (v := .ref (ad 17)) 1 (rfl : kd 0 = 5) fw_X5_untilRound_5 hw_X5_untilRound_0 (fun _ h9 => h9) (by decide) rfl dX5_untilRound_21 rfl ?_
    refine j_get3 C0 (v := .ref (ad 19)) 2 (rfl : kd 17 = 3) fw_X5_untilRound_3 hw_X5_untilRound_2 (fun _ h9 => h9) (by decide) rfl dX5_untilRound_24 rfl ?_
    refine j_iload_n C0 1 dX5_untilRound_27 rfl rfl rfl ?_
    obtain ⟨h5, hX⟩ := hX
    refine j_aald C0 (n := 4) (t0 := 4) (21 + 3 * a1.toNatClampNeg) (kd_lt (kd_3w (rfl : kd 17 = 3)) (by decide)) (ce15 (kd_3w (rfl : kd 17 = 3))) rfl rfl h5 dX5_untilRound_28 rfl ?_
    refine j_callVi C0 0 [] (c_X4_goRound (21 + 3 * a1.toNatClampNeg) (kd_3e (o := 17) (rfl : kd 17 = 3) (vp_lt h5)) hX) dX5_untilRound_29 gX5_untilRound_X4_goRound rfl (by decide +kernel) ⟨⟨Nat.le_of_ble_eq_true rfl, Nat.le_of_ble_eq_true rfl⟩, rfl, rfl⟩ (kd_lt (kd_3e (o := 17) (rfl : kd 17 = 3) (vp_lt h5)) (by decide)) (ce4 (kd_3e (o := 17) (rfl : kd 17 = 3) (vp_lt h5))) rfl rfl rfl (Nat.le_of_ble_eq_true rfl) rfl (fun r7 μ6 hX => ?_)
    exact j_iret C0 hlk hret dX5_untilRound_32 hX
  · have hX := hX.2 c3
    refine j_iconst C0 (-1) dX5_untilRound_7 (by decide) rfl ?_
    exact j_iret C0 hlk hret dX5_untilRound_8 hX
theorem c_X5_untilRound {l : Launch} {D : va_G} {Y : Nat → ClassId} {ad : Nat → Nat} (a1 : Int32) {μ : Mem} {K : Int32 → Mem → Prop}  (hX : x_X5_untilRound a1 μ K) : ConI l yX5_untilRound wsX5_untilRound rm_X5_untilRound [.ref (ad 0), .int a1] D Y ad μ K := conI_of (cc := cX5_untilRound) (maxL := 2) (ret := (some .int)) (own := RX5) _ (by decide +kernel) rfl rfl (Nat.le_of_ble_eq_true rfl) (fun p e s m args below meth c C0 hlk hret => j_sub (l' := [(0, .ref (ad 0)), (1, .int a1)]) [0, 1] rfl (w_X5_untilRound C0 hlk hret a1 μ K  hX))
/-! PhaseTones.undo()I -/
abbrev rm_X5_undo : Room := rmf 4 84
theorem fw_X5_undo_0 : ∀ w ∈ wsX00, w ∈ wsX5_undo := by decide +kernel
theorem fw_X5_undo_5 : ∀ w ∈ wsX50, w ∈ wsX5_undo := by decide +kernel
theorem hw_X5_undo_0 : Cond.fieldLink RX5 22 RX5 (TX5 2).2.1 (TX5 2).2.2.1 ∈ wsX5_undo := by decide +kernel
theorem hw_X5_undo_1 : Cond.fieldLink RX5 181 RX0 (TX0 2).2.1 (TX0 2).2.2.1 ∈ wsX5_undo := by decide +kernel
theorem hw_X5_undo_2 : Cond.fieldLink RX5 10 RX5 (TX5 0).2.1 (TX5 0).2.2.1 ∈ wsX5_undo := by decide +kernel
def x_X5_undo  (μ : Mem) (K : Int32 → Mem → Prop) : Prop :=
  ((μ 33 2) = 0 → K (-5) μ) ∧ (¬ ((μ 33 2) = 0) → x_X0_bringBack 1 μ (fun μ2 => K (μ2 33 2) μ2))
set_option maxRecDepth 20000 in
theorem w_X5_undo {p : Program} {l : Launch} {e : Env} {s : State} {m : MethodId} {args : Array Value} {below : List Frame} {meth : Method} {c : Code} {D : va_G} {Y : Nat → ClassId} {ad : Nat → Nat} (C0 : CX D Y ad (PA ad) rm_X5_undo 0 0 p s args m c cX5_undo 1 RX5 wsX5_undo) (hlk : meth.locks = false) (hret : meth.sig.returnType = (some .int))  (μ : Mem) (K : Int32 → Mem → Prop)  (hX : x_X5_undo  μ K) : J p l e rm_X5_undo s m args below meth c D Y ad (PA ad) 0 0 1 (MQ below (va_Qi K (BB D Y ad) (PA ad)) args s 0 0 (PA ad)) 0 [(0, .ref (ad 0))] [] μ := by
  refine j_aload_n C0 0 dX5_undo_0 rfl rfl rfl ?_
  refine j_get5 C0 (v := .ref (ad 33)) 2 (rfl : kd 0 = 5) fw_X5_undo_5 hw_X5_undo_0 (fun _ h9 => h9) (by decide) rfl dX5_undo_1 rfl ?_
  refine j_get0 C0 (v := .int (μ 33 2)) 2 (rfl : kd 33 = 0) fw_X5_undo_0 hw_X5_undo_1 (fun _ h9 => h9) (by decide) rfl dX5_undo_4 rfl ?_
  refine j_if_ne C0 (tgt := 13) dX5_undo_7 (by decide) rfl (fun c1 => ?_) (fun c1 => ?_)
  · have hX := hX.1 c1
    refine j_bipush C0 (-5) dX5_undo_10 (by decide) rfl ?_
    exact j_iret C0 hlk hret dX5_undo_12 hX
  · have hX := hX.2 c1
    refine j_aload_n C0 0 dX5_undo_13 rfl rfl rfl ?_
    refine j_get5 C0 (v := .ref (ad 33)) 2 (rfl : kd 0 = 5) fw_X5_undo_5 hw_X5_undo_0 (fun _ h9 => h9) (by decide) rfl dX5_undo_14 rfl ?_
    refine j_aload_n C0 0 dX5_undo_17 rfl rfl rfl ?_
    refine j_get5 C0 (v := .ref (ad 1)) 0 (rfl : kd 0 = 5) fw_X5_undo_5 hw_X5_undo_2 (fun _ h9 => h9) (by decide) rfl dX5_undo_18 rfl ?_
    refine j_callVv C0 1 [.ref (ad 1)] (c_X0_bringBack 1 (rfl : kd 1 = 3) hX) dX5_undo_21 gX5_undo_X0_bringBack rfl (by decide +kernel) ⟨⟨Nat.le_of_ble_eq_true rfl, Nat.le_of_ble_eq_true rfl⟩, rfl, rfl⟩ (kd_lt (rfl : kd 33 = 0) (by decide)) (ce0 (rfl : kd 33 = 0)) rfl rfl rfl (Nat.le_of_ble_eq_true rfl) rfl (fun μ2 hX => ?_)
    refine j_aload_n C0 0 dX5_undo_24 rfl rfl rfl ?_
    refine j_get5 C0 (v := .ref (ad 33)) 2 (rfl : kd 0 = 5) fw_X5_undo_5 hw_X5_undo_0 (fun _ h9 => h9) (by decide) rfl dX5_undo_25 rfl ?_
    refine j_get0 C0 (v := .int (μ2 33 2)) 2 (rfl : kd 33 = 0) fw_X5_undo_0 hw_X5_undo_1 (fun _ h9 => h9) (by decide) rfl dX5_undo_28 rfl ?_
    exact j_iret C0 hlk hret dX5_undo_31 hX
theorem c_X5_undo {l : Launch} {D : va_G} {Y : Nat → ClassId} {ad : Nat → Nat}  {μ : Mem} {K : Int32 → Mem → Prop}  (hX : x_X5_undo  μ K) : ConI l yX5_undo wsX5_undo rm_X5_undo [.ref (ad 0)] D Y ad μ K := conI_of (cc := cX5_undo) (maxL := 1) (ret := (some .int)) (own := RX5) _ (by decide +kernel) rfl rfl (Nat.le_of_ble_eq_true rfl) (fun p e s m args below meth c C0 hlk hret => j_sub (l' := [(0, .ref (ad 0))]) [0] rfl (w_X5_undo C0 hlk hret  μ K  hX))
/-! PhaseTones.save(I)I -/
abbrev rm_X5_save : Room := rmf 3 63
theorem fw_X5_save_2 : ∀ w ∈ wsX20, w ∈ wsX5_save := by decide +kernel
theorem fw_X5_save_3 : ∀ w ∈ wsX30, w ∈ wsX5_save := by decide +kernel
theorem fw_X5_save_5 : ∀ w ∈ wsX50, w ∈ wsX5_save := by decide +kernel
theorem hw_X5_save_0 : Cond.fieldLink RX5 29 RX5 (TX5 3).2.1 (TX5 3).2.2.1 ∈ wsX5_save := by decide +kernel
theorem hw_X5_save_1 : Cond.fieldLink RX5 211 RX2 (TX2 0).2.1 (TX2 0).2.2.1 ∈ wsX5_save := by decide +kernel
theorem hw_X5_save_2 : Cond.fieldLink RX5 10 RX5 (TX5 0).2.1 (TX5 0).2.2.1 ∈ wsX5_save := by decide +kernel
theorem hw_X5_save_3 : Cond.fieldLink RX5 215 RX2 (TX2 1).2.1 (TX2 1).2.2.1 ∈ wsX5_save := by decide +kernel
theorem hw_X5_save_4 : Cond.fieldLink RX5 154 RX3 (TX3 3).2.1 (TX3 3).2.2.1 ∈ wsX5_save := by decide +kernel
def x_X5_save (a1 : Int32) (μ : Mem) (K : Int32 → Mem → Prop) : Prop :=
  x_X5_isOutside a1 0 1 μ (fun r2 μ1 => (r2 = 0 → vp_in a1 2 ∧ x_X3_takeOver (134 + 16 * a1.toNatClampNeg) 1 μ1 (fun μ5 => vp_in a1 2 ∧ ∀ μ7 : Mem, μ7 = um μ5 133 (upd (μ5 133) a1.toNatClampNeg (vp_nar .boolean 1)) → K (μ7 1 3) μ7)) ∧ (¬ (r2 = 0) → K (-2) μ1))
set_option maxRecDepth 20000 in
theorem w_X5_save {p : Program} {l : Launch} {e : Env} {s : State} {m : MethodId} {args : Array Value} {below : List Frame} {meth : Method} {c : Code} {D : va_G} {Y : Nat → ClassId} {ad : Nat → Nat} (C0 : CX D Y ad (PA ad) rm_X5_save 0 0 p s args m c cX5_save 2 RX5 wsX5_save) (hlk : meth.locks = false) (hret : meth.sig.returnType = (some .int)) (a1 : Int32) (μ : Mem) (K : Int32 → Mem → Prop)  (hX : x_X5_save a1 μ K) : J p l e rm_X5_save s m args below meth c D Y ad (PA ad) 0 0 2 (MQ below (va_Qi K (BB D Y ad) (PA ad)) args s 0 0 (PA ad)) 0 [(0, .ref (ad 0)), (1, .int a1)] [] μ := by
  refine j_iload_n C0 1 dX5_save_0 rfl rfl rfl ?_
  refine j_iconst C0 0 dX5_save_1 (by decide) rfl ?_
  refine j_iconst C0 1 dX5_save_2 (by decide) rfl ?_
  refine j_callSi C0 3 [.int a1, .int 0, .int 1] (c_X5_isOutside a1 0 1  hX) dX5_save_3 gX5_save_X5_isOutside rfl (by decide +kernel) ⟨⟨Nat.le_of_ble_eq_true rfl, Nat.le_of_ble_eq_true rfl⟩, rfl, rfl⟩ rfl rfl (Nat.le_of_ble_eq_true rfl) rfl (fun r2 μ1 hX => ?_)
  refine j_if_eq C0 (tgt := 12) dX5_save_6 (by decide) rfl (fun c3 => ?_) (fun c3 => ?_)
  · have hX := hX.1 c3
    refine j_aload_n C0 0 dX5_save_12 rfl rfl rfl ?_
    refine j_get5 C0 (v := .ref (ad 131)) 3 (rfl : kd 0 = 5) fw_X5_save_5 hw_X5_save_0 (fun _ h9 => h9) (by decide) rfl dX5_save_13 rfl ?_
    refine j_get2 C0 (v := .ref (ad 132)) 0 (rfl : kd 131 = 2) fw_X5_save_2 hw_X5_save_1 (fun _ h9 => h9) (by decide) rfl dX5_save_16 rfl ?_
    refine j_iload_n C0 1 dX5_save_19 rfl rfl rfl ?_
    obtain ⟨h4, hX⟩ := hX
    refine j_aald C0 (n := 2) (t0 := 3) (134 + 16 * a1.toNatClampNeg) (kd_lt (rfl : kd 132 = 14) (by decide)) (ce14 (rfl : kd 132 = 14)) rfl rfl h4 dX5_save_20 rfl ?_
    refine j_aload_n C0 0 dX5_save_21 rfl rfl rfl ?_
    refine j_get5 C0 (v := .ref (ad 1)) 0 (rfl : kd 0 = 5) fw_X5_save_5 hw_X5_save_2 (fun _ h9 => h9) (by decide) rfl dX5_save_22 rfl ?_
    refine j_callVv C0 1 [.ref (ad 1)] (c_X3_takeOver (134 + 16 * a1.toNatClampNeg) 1 (kd_slo _ (vp_lt h4)) (rfl : kd 1 = 3) hX) dX5_save_25 gX5_save_X3_takeOver rfl (by decide +kernel) ⟨⟨Nat.le_of_ble_eq_true rfl, Nat.le_of_ble_eq_true rfl⟩, rfl, rfl⟩ (kd_lt (kd_slo _ (vp_lt h4)) (by decide)) (ce3 (kd_slo _ (vp_lt h4))) rfl rfl rfl (Nat.le_of_ble_eq_true rfl) rfl (fun μ5 hX => ?_)
    refine j_aload_n C0 0 dX5_save_28 rfl rfl rfl ?_
    refine j_get5 C0 (v := .ref (ad 131)) 3 (rfl : kd 0 = 5) fw_X5_save_5 hw_X5_save_0 (fun _ h9 => h9) (by decide) rfl dX5_save_29 rfl ?_
    refine j_get2 C0 (v := .ref (ad 133)) 1 (rfl : kd 131 = 2) fw_X5_save_2 hw_X5_save_3 (fun _ h9 => h9) (by decide) rfl dX5_save_32 rfl ?_
    refine j_iload_n C0 1 dX5_save_35 rfl rfl rfl ?_
    refine j_iconst C0 1 dX5_save_36 (by decide) rfl ?_
    obtain ⟨h6, hX⟩ := hX
    refine j_zast C0 (n := 2) (kd_lt (rfl : kd 133 = 16) (by decide)) (ce16 (rfl : kd 133 = 16)) h6 dX5_save_37 rfl ?_
    refine j_nm (fun μ7 e_μ7 => ?_)
    have hX := hX μ7 e_μ7
    refine j_aload_n C0 0 dX5_save_38 rfl rfl rfl ?_
    refine j_get5 C0 (v := .ref (ad 1)) 0 (rfl : kd 0 = 5) fw_X5_save_5 hw_X5_save_2 (fun _ h9 => h9) (by decide) rfl dX5_save_39 rfl ?_
    refine j_get3 C0 (v := .int (μ7 1 3)) 3 (rfl : kd 1 = 3) fw_X5_save_3 hw_X5_save_4 (fun _ h9 => h9) (by decide) rfl dX5_save_42 rfl ?_
    exact j_iret C0 hlk hret dX5_save_45 hX
  · have hX := hX.2 c3
    refine j_bipush C0 (-2) dX5_save_9 (by decide) rfl ?_
    exact j_iret C0 hlk hret dX5_save_11 hX
theorem c_X5_save {l : Launch} {D : va_G} {Y : Nat → ClassId} {ad : Nat → Nat} (a1 : Int32) {μ : Mem} {K : Int32 → Mem → Prop}  (hX : x_X5_save a1 μ K) : ConI l yX5_save wsX5_save rm_X5_save [.ref (ad 0), .int a1] D Y ad μ K := conI_of (cc := cX5_save) (maxL := 2) (ret := (some .int)) (own := RX5) _ (by decide +kernel) rfl rfl (Nat.le_of_ble_eq_true rfl) (fun p e s m args below meth c C0 hlk hret => j_sub (l' := [(0, .ref (ad 0)), (1, .int a1)]) [0, 1] rfl (w_X5_save C0 hlk hret a1 μ K  hX))
/-! PhaseTones.restore(I)I -/
abbrev rm_X5_restore : Room := rmf 4 84
theorem fw_X5_restore_2 : ∀ w ∈ wsX20, w ∈ wsX5_restore := by decide +kernel
theorem fw_X5_restore_3 : ∀ w ∈ wsX30, w ∈ wsX5_restore := by decide +kernel
theorem fw_X5_restore_5 : ∀ w ∈ wsX50, w ∈ wsX5_restore := by decide +kernel
theorem hw_X5_restore_0 : Cond.fieldLink RX5 29 RX5 (TX5 3).2.1 (TX5 3).2.2.1 ∈ wsX5_restore := by decide +kernel
theorem hw_X5_restore_1 : Cond.fieldLink RX5 215 RX2 (TX2 1).2.1 (TX2 1).2.2.1 ∈ wsX5_restore := by decide +kernel
theorem hw_X5_restore_2 : Cond.fieldLink RX5 22 RX5 (TX5 2).2.1 (TX5 2).2.2.1 ∈ wsX5_restore := by decide +kernel
theorem hw_X5_restore_3 : Cond.fieldLink RX5 10 RX5 (TX5 0).2.1 (TX5 0).2.2.1 ∈ wsX5_restore := by decide +kernel
theorem hw_X5_restore_4 : Cond.fieldLink RX5 211 RX2 (TX2 0).2.1 (TX2 0).2.2.1 ∈ wsX5_restore := by decide +kernel
theorem hw_X5_restore_5 : Cond.fieldLink RX5 154 RX3 (TX3 3).2.1 (TX3 3).2.2.1 ∈ wsX5_restore := by decide +kernel
def x_X5_restore (a1 : Int32) (μ : Mem) (K : Int32 → Mem → Prop) : Prop :=
  x_X5_isOutside a1 0 1 μ (fun r2 μ1 => (r2 = 0 → vp_in a1 2 ∧ ((μ1 133 a1.toNatClampNeg) = 0 → K (-5) μ1) ∧ (¬ ((μ1 133 a1.toNatClampNeg) = 0) → x_X0_keep 1 μ1 (fun μ6 => vp_in a1 2 ∧ x_X3_takeOver 1 (134 + 16 * a1.toNatClampNeg) μ6 (fun μ8 => K (μ8 1 3) μ8)))) ∧ (¬ (r2 = 0) → K (-2) μ1))
set_option maxRecDepth 20000 in
theorem w_X5_restore {p : Program} {l : Launch} {e : Env} {s : State} {m : MethodId} {args : Array Value} {below : List Frame} {meth : Method} {c : Code} {D : va_G} {Y : Nat → ClassId} {ad : Nat → Nat} (C0 : CX D Y ad (PA ad) rm_X5_restore 0 0 p s args m c cX5_restore 2 RX5 wsX5_restore) (hlk : meth.locks = false) (hret : meth.sig.returnType = (some .int)) (a1 : Int32) (μ : Mem) (K : Int32 → Mem → Prop)  (hX : x_X5_restore a1 μ K) : J p l e rm_X5_restore s m args below meth c D Y ad (PA ad) 0 0 2 (MQ below (va_Qi K (BB D Y ad) (PA ad)) args s 0 0 (PA ad)) 0 [(0, .ref (ad 0)), (1, .int a1)] [] μ := by
  refine j_iload_n C0 1 dX5_restore_0 rfl rfl rfl ?_
  refine j_iconst C0 0 dX5_restore_1 (by decide) rfl ?_
  refine j_iconst C0 1 dX5_restore_2 (by decide) rfl ?_
  refine j_callSi C0 3 [.int a1, .int 0, .int 1] (c_X5_isOutside a1 0 1  hX) dX5_restore_3 gX5_restore_X5_isOutside rfl (by decide +kernel) ⟨⟨Nat.le_of_ble_eq_true rfl, Nat.le_of_ble_eq_true rfl⟩, rfl, rfl⟩ rfl rfl (Nat.le_of_ble_eq_true rfl) rfl (fun r2 μ1 hX => ?_)
  refine j_if_eq C0 (tgt := 12) dX5_restore_6 (by decide) rfl (fun c3 => ?_) (fun c3 => ?_)
  · have hX := hX.1 c3
    refine j_aload_n C0 0 dX5_restore_12 rfl rfl rfl ?_
    refine j_get5 C0 (v := .ref (ad 131)) 3 (rfl : kd 0 = 5) fw_X5_restore_5 hw_X5_restore_0 (fun _ h9 => h9) (by decide) rfl dX5_restore_13 rfl ?_
    refine j_get2 C0 (v := .ref (ad 133)) 1 (rfl : kd 131 = 2) fw_X5_restore_2 hw_X5_restore_1 (fun _ h9 => h9) (by decide) rfl dX5_restore_16 rfl ?_
    refine j_iload_n C0 1 dX5_restore_19 rfl rfl rfl ?_
    obtain ⟨h4, hX⟩ := hX
    refine j_zald C0 (n := 2) (kd_lt (rfl : kd 133 = 16) (by decide)) (ce16 (rfl : kd 133 = 16)) h4 dX5_restore_20 rfl ?_
    refine j_if_ne C0 (tgt := 27) dX5_restore_21 (by decide) rfl (fun c5 => ?_) (fun c5 => ?_)
    · have hX := hX.1 c5
      refine j_bipush C0 (-5) dX5_restore_24 (by decide) rfl ?_
      exact j_iret C0 hlk hret dX5_restore_26 hX
    · have hX := hX.2 c5
      refine j_aload_n C0 0 dX5_restore_27 rfl rfl rfl ?_
      refine j_get5 C0 (v := .ref (ad 33)) 2 (rfl : kd 0 = 5) fw_X5_restore_5 hw_X5_restore_2 (fun _ h9 => h9) (by decide) rfl dX5_restore_28 rfl ?_
      refine j_aload_n C0 0 dX5_restore_31 rfl rfl rfl ?_
      refine j_get5 C0 (v := .ref (ad 1)) 0 (rfl : kd 0 = 5) fw_X5_restore_5 hw_X5_restore_3 (fun _ h9 => h9) (by decide) rfl dX5_restore_32 rfl ?_
      refine j_callVv C0 1 [.ref (ad 1)] (c_X0_keep 1 (rfl : kd 1 = 3) hX) dX5_restore_35 gX5_restore_X0_keep rfl (by decide +kernel) ⟨⟨Nat.le_of_ble_eq_true rfl, Nat.le_of_ble_eq_true rfl⟩, rfl, rfl⟩ (kd_lt (rfl : kd 33 = 0) (by decide)) (ce0 (rfl : kd 33 = 0)) rfl rfl rfl (Nat.le_of_ble_eq_true rfl) rfl (fun μ6 hX => ?_)
      refine j_aload_n C0 0 dX5_restore_38 rfl rfl rfl ?_
      refine j_get5 C0 (v := .ref (ad 1)) 0 (rfl : kd 0 = 5) fw_X5_restore_5 hw_X5_restore_3 (fun _ h9 => h9) (by decide) rfl dX5_restore_39 rfl ?_
      refine j_aload_n C0 0 dX5_restore_42 rfl rfl rfl ?_
      refine j_get5 C0 (v := .ref (ad 131)) 3 (rfl : kd 0 = 5) fw_X5_restore_5 hw_X5_restore_0 (fun _ h9 => h9) (by decide) rfl dX5_restore_43 rfl ?_
      refine j_get2 C0 (v := .ref (ad 132)) 0 (rfl : kd 131 = 2) fw_X5_restore_2 hw_X5_restore_4 (fun _ h9 => h9) (by decide) rfl dX5_restore_46 rfl ?_
      refine j_iload_n C0 1 dX5_restore_49 rfl rfl rfl ?_
      obtain ⟨h7, hX⟩ := hX
      refine j_aald C0 (n := 2) (t0 := 3) (134 + 16 * a1.toNatClampNeg) (kd_lt (rfl : kd 132 = 14) (by decide)) (ce14 (rfl : kd 132 = 14)) rfl rfl h7 dX5_restore_50 rfl ?_
      refine j_callVv C0 1 [.ref (ad (134 + 16 * a1.toNatClampNeg))] (c_X3_takeOver 1 (134 + 16 * a1.toNatClampNeg) (rfl : kd 1 = 3) (kd_slo _ (vp_lt h7)) hX) dX5_restore_51 gX5_restore_X3_takeOver rfl (by decide +kernel) ⟨⟨Nat.le_of_ble_eq_true rfl, Nat.le_of_ble_eq_true rfl⟩, rfl, rfl⟩ (kd_lt (rfl : kd 1 = 3) (by decide)) (ce3 (rfl : kd 1 = 3)) rfl rfl rfl (Nat.le_of_ble_eq_true rfl) rfl (fun μ8 hX => ?_)
      refine j_aload_n C0 0 dX5_restore_54 rfl rfl rfl ?_
      refine j_get5 C0 (v := .ref (ad 1)) 0 (rfl : kd 0 = 5) fw_X5_restore_5 hw_X5_restore_3 (fun _ h9 => h9) (by decide) rfl dX5_restore_55 rfl ?_
      refine j_get3 C0 (v := .int (μ8 1 3)) 3 (rfl : kd 1 = 3) fw_X5_restore_3 hw_X5_restore_5 (fun _ h9 => h9) (by decide) rfl dX5_restore_58 rfl ?_
      exact j_iret C0 hlk hret dX5_restore_61 hX
  · have hX := hX.2 c3
    refine j_bipush C0 (-2) dX5_restore_9 (by decide) rfl ?_
    exact j_iret C0 hlk hret dX5_restore_11 hX
theorem c_X5_restore {l : Launch} {D : va_G} {Y : Nat → ClassId} {ad : Nat → Nat} (a1 : Int32) {μ : Mem} {K : Int32 → Mem → Prop}  (hX : x_X5_restore a1 μ K) : ConI l yX5_restore wsX5_restore rm_X5_restore [.ref (ad 0), .int a1] D Y ad μ K := conI_of (cc := cX5_restore) (maxL := 2) (ret := (some .int)) (own := RX5) _ (by decide +kernel) rfl rfl (Nat.le_of_ble_eq_true rfl) (fun p e s m args below meth c C0 hlk hret => j_sub (l' := [(0, .ref (ad 0)), (1, .int a1)]) [0, 1] rfl (w_X5_restore C0 hlk hret a1 μ K  hX))
