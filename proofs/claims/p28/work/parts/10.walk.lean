/-! PhaseTones$Wheel.takeOver(LPhaseTones$Wheel;)V -/
abbrev rm_X4_takeOver : Room := rmf 1 20
theorem fw_X4_takeOver_4 : ∀ w ∈ wsX40, w ∈ wsX4_takeOver := by decide +kernel
theorem hw_X4_takeOver_0 : Cond.fieldLink RX4 25 RX4 (TX4 0).2.1 (TX4 0).2.2.1 ∈ wsX4_takeOver := by decide +kernel
theorem hw_X4_takeOver_1 : Cond.fieldLink RX4 9 RX4 (TX4 1).2.1 (TX4 1).2.2.1 ∈ wsX4_takeOver := by decide +kernel
theorem hw_X4_takeOver_2 : Cond.fieldLink RX4 28 RX4 (TX4 2).2.1 (TX4 2).2.2.1 ∈ wsX4_takeOver := by decide +kernel
theorem hw_X4_takeOver_3 : Cond.fieldLink RX4 15 RX4 (TX4 3).2.1 (TX4 3).2.2.1 ∈ wsX4_takeOver := by decide +kernel
theorem hw_X4_takeOver_4 : Cond.fieldLink RX4 31 RX4 (TX4 4).2.1 (TX4 4).2.2.1 ∈ wsX4_takeOver := by decide +kernel
theorem hw_X4_takeOver_5 : Cond.fieldLink RX4 35 RX4 (TX4 5).2.1 (TX4 5).2.2.1 ∈ wsX4_takeOver := by decide +kernel
theorem hw_X4_takeOver_6 : Cond.fieldLink RX4 18 RX4 (TX4 6).2.1 (TX4 6).2.2.1 ∈ wsX4_takeOver := by decide +kernel
theorem hw_X4_takeOver_7 : Cond.methodLink RX4 38 arraycopyName ∈ wsX4_takeOver := by decide +kernel
theorem hw_X4_takeOver_8 : Cond.native arraycopyName ∈ wsX4_takeOver := by decide +kernel
theorem hw_X4_takeOver_9 : Cond.static arraycopyName ∈ wsX4_takeOver := by decide +kernel
theorem hw_X4_takeOver_10 : Cond.initialized "java/lang/System" ∈ wsX4_takeOver := by decide +kernel
theorem hw_X4_takeOver_11 : Cond.fieldLink RX4 22 RX4 (TX4 7).2.1 (TX4 7).2.2.1 ∈ wsX4_takeOver := by decide +kernel
theorem hw_X4_takeOver_12 : Cond.fieldLink RX4 44 RX4 (TX4 8).2.1 (TX4 8).2.2.1 ∈ wsX4_takeOver := by decide +kernel
theorem hw_X4_takeOver_13 : Cond.fieldLink RX4 47 RX4 (TX4 9).2.1 (TX4 9).2.2.1 ∈ wsX4_takeOver := by decide +kernel
def x_X4_takeOver (o0 : Nat) (o1 : Nat) (μ : Mem) (K : Mem → Prop) : Prop :=
  ∀ μ1 : Mem, μ1 = um μ o0 (upd (μ o0) 0 (μ o1 0)) → ∀ μ2 : Mem, μ2 = um μ1 o0 (upd (μ1 o0) 1 (μ1 o1 1)) → ∀ μ3 : Mem, μ3 = um μ2 o0 (upd (μ2 o0) 2 (μ2 o1 2)) → ∀ μ4 : Mem, μ4 = um μ3 o0 (upd (μ3 o0) 3 (μ3 o1 3)) → zb (μ4 o1 4) ∧ ∀ μ6 : Mem, μ6 = um μ4 o0 (upd (μ4 o0) 4 (μ4 o1 4)) → ∀ μ7 : Mem, μ7 = um μ6 o0 (upd (μ6 o0) 5 (μ6 o1 5)) → ∀ μ8 : Mem, μ8 = um μ7 (o0 + 1) (va_cpy (μ7 (o1 + 1)) (μ7 (o0 + 1)) 0 0 4) → ∀ μ9 : Mem, μ9 = um μ8 (o0 + 2) (va_cpy (μ8 (o1 + 2)) (μ8 (o0 + 2)) 0 0 4) → ∀ μ10 : Mem, μ10 = um μ9 o0 (upd (μ9 o0) 8 (μ9 o1 8)) → ∀ μ11 : Mem, μ11 = um μ10 o0 (upd (μ10 o0) 9 (μ10 o1 9)) → K μ11
set_option maxRecDepth 20000 in
theorem w_X4_takeOver {p : Program} {l : Launch} {e : Env} {s : State} {m : MethodId} {args : Array Value} {below : List Frame} {meth : Method} {c : Code} {D : va_G} {Y : Nat → ClassId} {ad : Nat → Nat} (C0 : CX D Y ad (PA ad) rm_X4_takeOver 0 0 p s args m c cX4_takeOver 2 RX4 wsX4_takeOver) (hlk : meth.locks = false) (hret : meth.sig.returnType = none) (o0 : Nat) (o1 : Nat) (μ : Mem) (K : Mem → Prop) (ho0 : kd o0 = 4) (ho1 : kd o1 = 4) (hX : x_X4_takeOver o0 o1 μ K) : J p l e rm_X4_takeOver s m args below meth c D Y ad (PA ad) 0 0 2 (MQ below (va_Qv K (BB D Y ad) (PA ad)) args s 0 0 (PA ad)) 0 [(0, .ref (ad o0)), (1, .ref (ad o1))] [] μ := by
  refine j_aload_n C0 0 dX4_takeOver_0 rfl rfl rfl ?_
  refine j_aload_n C0 1 dX4_takeOver_1 rfl rfl rfl ?_
  refine j_get4 C0 (v := .int (μ o1 0)) 0 ho1 fw_X4_takeOver_4 hw_X4_takeOver_0 (fun _ h9 => h9) (by decide) rfl dX4_takeOver_2 rfl ?_
  refine j_put4_0 C0 ho0 fw_X4_takeOver_4 hw_X4_takeOver_0 dX4_takeOver_5 rfl ?_
  refine j_nm (fun μ1 e_μ1 => ?_)
  have hX := hX μ1 e_μ1
  refine j_aload_n C0 0 dX4_takeOver_8 rfl rfl rfl ?_
  refine j_aload_n C0 1 dX4_takeOver_9 rfl rfl rfl ?_
  refine j_get4 C0 (v := .int (μ1 o1 1)) 1 ho1 fw_X4_takeOver_4 hw_X4_takeOver_1 (fun _ h9 => h9) (by decide) rfl dX4_takeOver_10 rfl ?_
  refine j_put4_1 C0 ho0 fw_X4_takeOver_4 hw_X4_takeOver_1 dX4_takeOver_13 rfl ?_
  refine j_nm (fun μ2 e_μ2 => ?_)
  have hX := hX μ2 e_μ2
  refine j_aload_n C0 0 dX4_takeOver_16 rfl rfl rfl ?_
  refine j_aload_n C0 1 dX4_takeOver_17 rfl rfl rfl ?_
  refine j_get4 C0 (v := .int (μ2 o1 2)) 2 ho1 fw_X4_takeOver_4 hw_X4_takeOver_2 (fun _ h9 => h9) (by decide) rfl dX4_takeOver_18 rfl ?_
  refine j_put4_2 C0 ho0 fw_X4_takeOver_4 hw_X4_takeOver_2 dX4_takeOver_21 rfl ?_
  refine j_nm (fun μ3 e_μ3 => ?_)
  have hX := hX μ3 e_μ3
  refine j_aload_n C0 0 dX4_takeOver_24 rfl rfl rfl ?_
  refine j_aload_n C0 1 dX4_takeOver_25 rfl rfl rfl ?_
  refine j_get4 C0 (v := .int (μ3 o1 3)) 3 ho1 fw_X4_takeOver_4 hw_X4_takeOver_3 (fun _ h9 => h9) (by decide) rfl dX4_takeOver_26 rfl ?_
  refine j_put4_3 C0 ho0 fw_X4_takeOver_4 hw_X4_takeOver_3 dX4_takeOver_29 rfl ?_
  refine j_nm (fun μ4 e_μ4 => ?_)
  have hX := hX μ4 e_μ4
  refine j_aload_n C0 0 dX4_takeOver_32 rfl rfl rfl ?_
  refine j_aload_n C0 1 dX4_takeOver_33 rfl rfl rfl ?_
  refine j_get4 C0 (v := .int (μ4 o1 4)) 4 ho1 fw_X4_takeOver_4 hw_X4_takeOver_4 (fun _ h9 => h9) (by decide) rfl dX4_takeOver_34 rfl ?_
  obtain ⟨z5, hX⟩ := hX
  refine j_put4_4 C0 ho0 fw_X4_takeOver_4 hw_X4_takeOver_4 z5 dX4_takeOver_37 rfl ?_
  refine j_nm (fun μ6 e_μ6 => ?_)
  have hX := hX μ6 e_μ6
  refine j_aload_n C0 0 dX4_takeOver_40 rfl rfl rfl ?_
  refine j_aload_n C0 1 dX4_takeOver_41 rfl rfl rfl ?_
  refine j_get4 C0 (v := .int (μ6 o1 5)) 5 ho1 fw_X4_takeOver_4 hw_X4_takeOver_5 (fun _ h9 => h9) (by decide) rfl dX4_takeOver_42 rfl ?_
  refine j_put4_5 C0 ho0 fw_X4_takeOver_4 hw_X4_takeOver_5 dX4_takeOver_45 rfl ?_
  refine j_nm (fun μ7 e_μ7 => ?_)
  have hX := hX μ7 e_μ7
  refine j_aload_n C0 1 dX4_takeOver_48 rfl rfl rfl ?_
  refine j_get4 C0 (v := .ref (ad (o1 + 1))) 6 ho1 fw_X4_takeOver_4 hw_X4_takeOver_6 (fun _ h9 => h9) (by decide) rfl dX4_takeOver_49 rfl ?_
  refine j_iconst C0 0 dX4_takeOver_52 (by decide) rfl ?_
  refine j_aload_n C0 0 dX4_takeOver_53 rfl rfl rfl ?_
  refine j_get4 C0 (v := .ref (ad (o0 + 1))) 6 ho0 fw_X4_takeOver_4 hw_X4_takeOver_6 (fun _ h9 => h9) (by decide) rfl dX4_takeOver_54 rfl ?_
  refine j_iconst C0 0 dX4_takeOver_57 (by decide) rfl ?_
  refine j_iconst C0 4 dX4_takeOver_58 (by decide) rfl ?_
  refine j_copyi C0 (n := 4) (n0 := 4) (kd_lt (kd_4e ho1) (by decide)) (kd_lt (kd_4e ho0) (by decide)) (ce12 (kd_4e ho1)) (ce12 (kd_4e ho0)) hw_X4_takeOver_7 hw_X4_takeOver_8 hw_X4_takeOver_9 hw_X4_takeOver_10 (by decide) (by decide) (by decide) (by decide) (by decide) ⟨Nat.le_of_ble_eq_true rfl, Nat.le_of_ble_eq_true rfl⟩ dX4_takeOver_59 rfl ?_
  refine j_nm (fun μ8 e_μ8 => ?_)
  have hX := hX μ8 e_μ8
  refine j_aload_n C0 1 dX4_takeOver_62 rfl rfl rfl ?_
  refine j_get4 C0 (v := .ref (ad (o1 + 2))) 7 ho1 fw_X4_takeOver_4 hw_X4_takeOver_11 (fun _ h9 => h9) (by decide) rfl dX4_takeOver_63 rfl ?_
  refine j_iconst C0 0 dX4_takeOver_66 (by decide) rfl ?_
  refine j_aload_n C0 0 dX4_takeOver_67 rfl rfl rfl ?_
  refine j_get4 C0 (v := .ref (ad (o0 + 2))) 7 ho0 fw_X4_takeOver_4 hw_X4_takeOver_11 (fun _ h9 => h9) (by decide) rfl dX4_takeOver_68 rfl ?_
  refine j_iconst C0 0 dX4_takeOver_71 (by decide) rfl ?_
  refine j_iconst C0 4 dX4_takeOver_72 (by decide) rfl ?_
  refine j_copyi C0 (n := 4) (n0 := 4) (kd_lt (kd_4l ho1) (by decide)) (kd_lt (kd_4l ho0) (by decide)) (ce12 (kd_4l ho1)) (ce12 (kd_4l ho0)) hw_X4_takeOver_7 hw_X4_takeOver_8 hw_X4_takeOver_9 hw_X4_takeOver_10 (by decide) (by decide) (by decide) (by decide) (by decide) ⟨Nat.le_of_ble_eq_true rfl, Nat.le_of_ble_eq_true rfl⟩ dX4_takeOver_73 rfl ?_
  refine j_nm (fun μ9 e_μ9 => ?_)
  have hX := hX μ9 e_μ9
  refine j_aload_n C0 0 dX4_takeOver_76 rfl rfl rfl ?_
  refine j_aload_n C0 1 dX4_takeOver_77 rfl rfl rfl ?_
  refine j_get4 C0 (v := .int (μ9 o1 8)) 8 ho1 fw_X4_takeOver_4 hw_X4_takeOver_12 (fun _ h9 => h9) (by decide) rfl dX4_takeOver_78 rfl ?_
  refine j_put4_8 C0 ho0 fw_X4_takeOver_4 hw_X4_takeOver_12 dX4_takeOver_81 rfl ?_
  refine j_nm (fun μ10 e_μ10 => ?_)
  have hX := hX μ10 e_μ10
  refine j_aload_n C0 0 dX4_takeOver_84 rfl rfl rfl ?_
  refine j_aload_n C0 1 dX4_takeOver_85 rfl rfl rfl ?_
  refine j_get4 C0 (v := .int (μ10 o1 9)) 9 ho1 fw_X4_takeOver_4 hw_X4_takeOver_13 (fun _ h9 => h9) (by decide) rfl dX4_takeOver_86 rfl ?_
  refine j_put4_9 C0 ho0 fw_X4_takeOver_4 hw_X4_takeOver_13 dX4_takeOver_89 rfl ?_
  refine j_nm (fun μ11 e_μ11 => ?_)
  have hX := hX μ11 e_μ11
  exact j_vret C0 hlk hret dX4_takeOver_92 hX
theorem c_X4_takeOver {l : Launch} {D : va_G} {Y : Nat → ClassId} {ad : Nat → Nat} (o0 : Nat) (o1 : Nat) {μ : Mem} {K : Mem → Prop} (ho0 : kd o0 = 4) (ho1 : kd o1 = 4) (hX : x_X4_takeOver o0 o1 μ K) : ConV l yX4_takeOver wsX4_takeOver rm_X4_takeOver [.ref (ad o0), .ref (ad o1)] D Y ad μ K := conV_of (cc := cX4_takeOver) (maxL := 2) (ret := none) (own := RX4) _ (by decide +kernel) rfl rfl (Nat.le_of_ble_eq_true rfl) (fun p e s m args below meth c C0 hlk hret => j_sub (l' := [(0, .ref (ad o0)), (1, .ref (ad o1))]) [0, 1] rfl (w_X4_takeOver C0 hlk hret o0 o1 μ K ho0 ho1 hX))
/-! PhaseTones$Wheel.changeStep(I)V -/
abbrev rm_X4_changeStep : Room := rmf 0 0
theorem fw_X4_changeStep_4 : ∀ w ∈ wsX40, w ∈ wsX4_changeStep := by decide +kernel
theorem hw_X4_changeStep_0 : Cond.fieldLink RX4 9 RX4 (TX4 1).2.1 (TX4 1).2.2.1 ∈ wsX4_changeStep := by decide +kernel
theorem hw_X4_changeStep_1 : Cond.fieldLink RX4 35 RX4 (TX4 5).2.1 (TX4 5).2.2.1 ∈ wsX4_changeStep := by decide +kernel
def x_X4_changeStep (o0 : Nat) (a1 : Int32) (μ : Mem) (K : Mem → Prop) : Prop :=
  ∀ μ1 : Mem, μ1 = um μ o0 (upd (μ o0) 1 a1) → ∀ μ2 : Mem, μ2 = um μ1 o0 (upd (μ1 o0) 5 0) → K μ2
set_option maxRecDepth 20000 in
theorem w_X4_changeStep {p : Program} {l : Launch} {e : Env} {s : State} {m : MethodId} {args : Array Value} {below : List Frame} {meth : Method} {c : Code} {D : va_G} {Y : Nat → ClassId} {ad : Nat → Nat} (C0 : CX D Y ad (PA ad) rm_X4_changeStep 0 0 p s args m c cX4_changeStep 2 RX4 wsX4_changeStep) (hlk : meth.locks = false) (hret : meth.sig.returnType = none) (o0 : Nat) (a1 : Int32) (μ : Mem) (K : Mem → Prop) (ho0 : kd o0 = 4) (hX : x_X4_changeStep o0 a1 μ K) : J p l e rm_X4_changeStep s m args below meth c D Y ad (PA ad) 0 0 2 (MQ below (va_Qv K (BB D Y ad) (PA ad)) args s 0 0 (PA ad)) 0 [(0, .ref (ad o0)), (1, .int a1)] [] μ := by
  refine j_aload_n C0 0 dX4_changeStep_0 rfl rfl rfl ?_
  refine j_iload_n C0 1 dX4_changeStep_1 rfl rfl rfl ?_
  refine j_put4_1 C0 ho0 fw_X4_changeStep_4 hw_X4_changeStep_0 dX4_changeStep_2 rfl ?_
  refine j_nm (fun μ1 e_μ1 => ?_)
  have hX := hX μ1 e_μ1
  refine j_aload_n C0 0 dX4_changeStep_5 rfl rfl rfl ?_
  refine j_iconst C0 0 dX4_changeStep_6 (by decide) rfl ?_
  refine j_put4_5 C0 ho0 fw_X4_changeStep_4 hw_X4_changeStep_1 dX4_changeStep_7 rfl ?_
  refine j_nm (fun μ2 e_μ2 => ?_)
  have hX := hX μ2 e_μ2
  exact j_vret C0 hlk hret dX4_changeStep_10 hX
theorem c_X4_changeStep {l : Launch} {D : va_G} {Y : Nat → ClassId} {ad : Nat → Nat} (o0 : Nat) (a1 : Int32) {μ : Mem} {K : Mem → Prop} (ho0 : kd o0 = 4) (hX : x_X4_changeStep o0 a1 μ K) : ConV l yX4_changeStep wsX4_changeStep rm_X4_changeStep [.ref (ad o0), .int a1] D Y ad μ K := conV_of (cc := cX4_changeStep) (maxL := 2) (ret := none) (own := RX4) _ (by decide +kernel) rfl rfl (Nat.le_of_ble_eq_true rfl) (fun p e s m args below meth c C0 hlk hret => j_sub (l' := [(0, .ref (ad o0)), (1, .int a1)]) [0, 1] rfl (w_X4_changeStep C0 hlk hret o0 a1 μ K ho0 hX))
/-! PhaseTones$Wheel.beginSweep()V -/
abbrev rm_X4_beginSweep : Room := rmf 0 0
theorem fw_X4_beginSweep_4 : ∀ w ∈ wsX40, w ∈ wsX4_beginSweep := by decide +kernel
theorem hw_X4_beginSweep_0 : Cond.fieldLink RX4 9 RX4 (TX4 1).2.1 (TX4 1).2.2.1 ∈ wsX4_beginSweep := by decide +kernel
theorem hw_X4_beginSweep_1 : Cond.fieldLink RX4 44 RX4 (TX4 8).2.1 (TX4 8).2.2.1 ∈ wsX4_beginSweep := by decide +kernel
theorem hw_X4_beginSweep_2 : Cond.fieldLink RX4 47 RX4 (TX4 9).2.1 (TX4 9).2.2.1 ∈ wsX4_beginSweep := by decide +kernel
def x_X4_beginSweep (o0 : Nat) (μ : Mem) (K : Mem → Prop) : Prop :=
  ∀ μ1 : Mem, μ1 = um μ o0 (upd (μ o0) 8 (μ o0 1)) → ∀ μ2 : Mem, μ2 = um μ1 o0 (upd (μ1 o0) 9 0) → K μ2
set_option maxRecDepth 20000 in
theorem w_X4_beginSweep {p : Program} {l : Launch} {e : Env} {s : State} {m : MethodId} {args : Array Value} {below : List Frame} {meth : Method} {c : Code} {D : va_G} {Y : Nat → ClassId} {ad : Nat → Nat} (C0 : CX D Y ad (PA ad) rm_X4_beginSweep 0 0 p s args m c cX4_beginSweep 1 RX4 wsX4_beginSweep) (hlk : meth.locks = false) (hret : meth.sig.returnType = none) (o0 : Nat) (μ : Mem) (K : Mem → Prop) (ho0 : kd o0 = 4) (hX : x_X4_beginSweep o0 μ K) : J p l e rm_X4_beginSweep s m args below meth c D Y ad (PA ad) 0 0 1 (MQ below (va_Qv K (BB D Y ad) (PA ad)) args s 0 0 (PA ad)) 0 [(0, .ref (ad o0))] [] μ := by
  refine j_aload_n C0 0 dX4_beginSweep_0 rfl rfl rfl ?_
  refine j_aload_n C0 0 dX4_beginSweep_1 rfl rfl rfl ?_
  refine j_get4 C0 (v := .int (μ o0 1)) 1 ho0 fw_X4_beginSweep_4 hw_X4_beginSweep_0 (fun _ h9 => h9) (by decide) rfl dX4_beginSweep_2 rfl ?_
  refine j_put4_8 C0 ho0 fw_X4_beginSweep_4 hw_X4_beginSweep_1 dX4_beginSweep_5 rfl ?_
  refine j_nm (fun μ1 e_μ1 => ?_)
  have hX := hX μ1 e_μ1
  refine j_aload_n C0 0 dX4_beginSweep_8 rfl rfl rfl ?_
  refine j_iconst C0 0 dX4_beginSweep_9 (by decide) rfl ?_
  refine j_put4_9 C0 ho0 fw_X4_beginSweep_4 hw_X4_beginSweep_2 dX4_beginSweep_10 rfl ?_
  refine j_nm (fun μ2 e_μ2 => ?_)
  have hX := hX μ2 e_μ2
  exact j_vret C0 hlk hret dX4_beginSweep_13 hX
theorem c_X4_beginSweep {l : Launch} {D : va_G} {Y : Nat → ClassId} {ad : Nat → Nat} (o0 : Nat) {μ : Mem} {K : Mem → Prop} (ho0 : kd o0 = 4) (hX : x_X4_beginSweep o0 μ K) : ConV l yX4_beginSweep wsX4_beginSweep rm_X4_beginSweep [.ref (ad o0)] D Y ad μ K := conV_of (cc := cX4_beginSweep) (maxL := 1) (ret := none) (own := RX4) _ (by decide +kernel) rfl rfl (Nat.le_of_ble_eq_true rfl) (fun p e s m args below meth c C0 hlk hret => j_sub (l' := [(0, .ref (ad o0))]) [0] rfl (w_X4_beginSweep C0 hlk hret o0 μ K ho0 hX))
/-! PhaseTones$Wheel.addSweep(II)Z -/
abbrev rm_X4_addSweep : Room := rmf 1 20
theorem fw_X4_addSweep_4 : ∀ w ∈ wsX40, w ∈ wsX4_addSweep := by decide +kernel
theorem hw_X4_addSweep_0 : Cond.fieldLink RX4 35 RX4 (TX4 5).2.1 (TX4 5).2.2.1 ∈ wsX4_addSweep := by decide +kernel
theorem hw_X4_addSweep_1 : Cond.fieldLink RX4 18 RX4 (TX4 6).2.1 (TX4 6).2.2.1 ∈ wsX4_addSweep := by decide +kernel
theorem hw_X4_addSweep_2 : Cond.fieldLink RX4 22 RX4 (TX4 7).2.1 (TX4 7).2.2.1 ∈ wsX4_addSweep := by decide +kernel
def x_X4_addSweep_L28 (K : Int32 → Mem → Prop) (o0 : Nat) (a1 : Int32) (a2 : Int32) (μ : Mem) : Prop :=
  vp_in (μ o0 5) 4 ∧ ∀ μ6 : Mem, μ6 = um μ (o0 + 1) (upd (μ (o0 + 1)) (μ o0 5).toNatClampNeg a1) → vp_in (μ6 o0 5) 4 ∧ ∀ μ8 : Mem, μ8 = um μ6 (o0 + 2) (upd (μ6 (o0 + 2)) (μ6 o0 5).toNatClampNeg a2) → ∀ μ9 : Mem, μ9 = um μ8 o0 (upd (μ8 o0) 5 ((μ8 o0 5) + 1)) → K 1 μ9
set_option maxRecDepth 20000 in
theorem w_X4_addSweep_L28 {p : Program} {l : Launch} {e : Env} {s : State} {m : MethodId} {args : Array Value} {below : List Frame} {meth : Method} {c : Code} {D : va_G} {Y : Nat → ClassId} {ad : Nat → Nat} (C0 : CX D Y ad (PA ad) rm_X4_addSweep 0 0 p s args m c cX4_addSweep 3 RX4 wsX4_addSweep) (hlk : meth.locks = false) (hret : meth.sig.returnType = (some .boolean)) (o0 : Nat) (a1 : Int32) (a2 : Int32) (μ : Mem) (K : Int32 → Mem → Prop) (ho0 : kd o0 = 4) (hX : x_X4_addSweep_L28 K o0 a1 a2 μ) : J p l e rm_X4_addSweep s m args below meth c D Y ad (PA ad) 0 0 3 (MQ below (va_Qi K (BB D Y ad) (PA ad)) args s 0 0 (PA ad)) 28 [(0, .ref (ad o0)), (1, .int a1), (2, .int a2)] [] μ := by
  refine j_aload_n C0 0 dX4_addSweep_28 rfl rfl rfl ?_
  refine j_get4 C0 (v := .ref (ad (o0 + 1))) 6 ho0 fw_X4_addSweep_4 hw_X4_addSweep_1 (fun _ h9 => h9) (by decide) rfl dX4_addSweep_29 rfl ?_
  refine j_aload_n C0 0 dX4_addSweep_32 rfl rfl rfl ?_
  refine j_get4 C0 (v := .int (μ o0 5)) 5 ho0 fw_X4_addSweep_4 hw_X4_addSweep_0 (fun _ h9 => h9) (by decide) rfl dX4_addSweep_33 rfl ?_
  refine j_iload_n C0 1 dX4_addSweep_36 rfl rfl rfl ?_
  obtain ⟨h5, hX⟩ := hX
  refine j_iast C0 (n := 4) (kd_lt (kd_4e ho0) (by decide)) (ce12 (kd_4e ho0)) h5 dX4_addSweep_37 rfl ?_
  refine j_nm (fun μ6 e_μ6 => ?_)
  have hX := hX μ6 e_μ6
  refine j_aload_n C0 0 dX4_addSweep_38 rfl rfl rfl ?_
  refine j_get4 C0 (v := .ref (ad (o0 + 2))) 7 ho0 fw_X4_addSweep_4 hw_X4_addSweep_2 (fun _ h9 => h9) (by decide) rfl dX4_addSweep_39 rfl ?_
  refine j_aload_n C0 0 dX4_addSweep_42 rfl rfl rfl ?_
  refine j_get4 C0 (v := .int (μ6 o0 5)) 5 ho0 fw_X4_addSweep_4 hw_X4_addSweep_0 (fun _ h9 => h9) (by decide) rfl dX4_addSweep_43 rfl ?_
  refine j_iload_n C0 2 dX4_addSweep_46 rfl rfl rfl ?_
  obtain ⟨h7, hX⟩ := hX
  refine j_iast C0 (n := 4) (kd_lt (kd_4l ho0) (by decide)) (ce12 (kd_4l ho0)) h7 dX4_addSweep_47 rfl ?_
  refine j_nm (fun μ8 e_μ8 => ?_)
  have hX := hX μ8 e_μ8
  refine j_aload_n C0 0 dX4_addSweep_48 rfl rfl rfl ?_
  refine j_dup C0 dX4_addSweep_49 rfl rfl ?_
  refine j_get4 C0 (v := .int (μ8 o0 5)) 5 ho0 fw_X4_addSweep_4 hw_X4_addSweep_0 (fun _ h9 => h9) (by decide) rfl dX4_addSweep_50 rfl ?_
  refine j_iconst C0 1 dX4_addSweep_53 (by decide) rfl ?_
  refine j_iadd C0 dX4_addSweep_54 rfl ?_
  refine j_put4_5 C0 ho0 fw_X4_addSweep_4 hw_X4_addSweep_0 dX4_addSweep_55 rfl ?_
  refine j_nm (fun μ9 e_μ9 => ?_)
  have hX := hX μ9 e_μ9
  refine j_iconst C0 1 dX4_addSweep_58 (by decide) rfl ?_
  exact j_zret C0 hlk hret dX4_addSweep_59 zb1 hX
def x_X4_addSweep (o0 : Nat) (a1 : Int32) (a2 : Int32) (μ : Mem) (K : Int32 → Mem → Prop) : Prop :=
  ((μ o0 5) < 0 → K 0 μ) ∧ (¬ ((μ o0 5) < 0) → ((μ o0 5) < 4 → ((μ o0 5) = 0 → x_X4_beginSweep o0 μ (fun μ4 => x_X4_addSweep_L28 K o0 a1 a2 μ4)) ∧ (¬ ((μ o0 5) = 0) → x_X4_addSweep_L28 K o0 a1 a2 μ)) ∧ (¬ ((μ o0 5) < 4) → K 0 μ))
set_option maxRecDepth 20000 in
theorem w_X4_addSweep {p : Program} {l : Launch} {e : Env} {s : State} {m : MethodId} {args : Array Value} {below : List Frame} {meth : Method} {c : Code} {D : va_G} {Y : Nat → ClassId} {ad : Nat → Nat} (C0 : CX D Y ad (PA ad) rm_X4_addSweep 0 0 p s args m c cX4_addSweep 3 RX4 wsX4_addSweep) (hlk : meth.locks = false) (hret : meth.sig.returnType = (some .boolean)) (o0 : Nat) (a1 : Int32) (a2 : Int32) (μ : Mem) (K : Int32 → Mem → Prop) (ho0 : kd o0 = 4) (hX : x_X4_addSweep o0 a1 a2 μ K) : J p l e rm_X4_addSweep s m args below meth c D Y ad (PA ad) 0 0 3 (MQ below (va_Qi K (BB D Y ad) (PA ad)) args s 0 0 (PA ad)) 0 [(0, .ref (ad o0)), (1, .int a1), (2, .int a2)] [] μ := by
  refine j_aload_n C0 0 dX4_addSweep_0 rfl rfl rfl ?_
  refine j_get4 C0 (v := .int (μ o0 5)) 5 ho0 fw_X4_addSweep_4 hw_X4_addSweep_0 (fun _ h9 => h9) (by decide) rfl dX4_addSweep_1 rfl ?_
  refine j_if_lt C0 (tgt := 15) dX4_addSweep_4 (by decide) rfl (fun c1 => ?_) (fun c1 => ?_)
  · have hX := hX.1 c1
    refine j_iconst C0 0 dX4_addSweep_15 (by decide) rfl ?_
    exact j_zret C0 hlk hret dX4_addSweep_16 zb0 hX
  · have hX := hX.2 c1
    refine j_aload_n C0 0 dX4_addSweep_7 rfl rfl rfl ?_
    refine j_get4 C0 (v := .int (μ o0 5)) 5 ho0 fw_X4_addSweep_4 hw_X4_addSweep_0 (fun _ h9 => h9) (by decide) rfl dX4_addSweep_8 rfl ?_
    refine j_iconst C0 4 dX4_addSweep_11 (by decide) rfl ?_
    refine j_icmp_lt C0 (tgt := 17) dX4_addSweep_12 (by decide) rfl (fun c2 => ?_) (fun c2 => ?_)
    · have hX := hX.1 c2
      refine j_aload_n C0 0 dX4_addSweep_17 rfl rfl rfl ?_
      refine j_get4 C0 (v := .int (μ o0 5)) 5 ho0 fw_X4_addSweep_4 hw_X4_addSweep_0 (fun _ h9 => h9) (by decide) rfl dX4_addSweep_18 rfl ?_
      refine j_if_ne C0 (tgt := 28) dX4_addSweep_21 (by decide) rfl (fun c3 => ?_) (fun c3 => ?_)
      · have hX := hX.1 c3
        refine j_aload_n C0 0 dX4_addSweep_24 rfl rfl rfl ?_
        refine j_callVv C0 0 [] (c_X4_beginSweep o0 ho0 hX) dX4_addSweep_25 gX4_addSweep_X4_beginSweep rfl (by decide +kernel) ⟨⟨Nat.le_of_ble_eq_true rfl, Nat.le_of_ble_eq_true rfl⟩, rfl, rfl⟩ (kd_lt ho0 (by decide)) (ce4 ho0) rfl rfl rfl (Nat.le_of_ble_eq_true rfl) rfl (fun μ4 hX => ?_)
        exact j_sub (l' := [(0, .ref (ad o0)), (1, .int a1), (2, .int a2)]) [0, 1, 2] rfl (w_X4_addSweep_L28 C0 hlk hret o0 a1 a2 μ4 K ho0 hX)
      · have hX := hX.2 c3
        exact j_sub (l' := [(0, .ref (ad o0)), (1, .int a1), (2, .int a2)]) [0, 1, 2] rfl (w_X4_addSweep_L28 C0 hlk hret o0 a1 a2 μ K ho0 hX)
    · have hX := hX.2 c2
      refine j_iconst C0 0 dX4_addSweep_15 (by decide) rfl ?_
      exact j_zret C0 hlk hret dX4_addSweep_16 zb0 hX
theorem c_X4_addSweep {l : Launch} {D : va_G} {Y : Nat → ClassId} {ad : Nat → Nat} (o0 : Nat) (a1 : Int32) (a2 : Int32) {μ : Mem} {K : Int32 → Mem → Prop} (ho0 : kd o0 = 4) (hX : x_X4_addSweep o0 a1 a2 μ K) : ConI l yX4_addSweep wsX4_addSweep rm_X4_addSweep [.ref (ad o0), .int a1, .int a2] D Y ad μ K := conI_of (cc := cX4_addSweep) (maxL := 3) (ret := (some .boolean)) (own := RX4) _ (by decide +kernel) rfl rfl (Nat.le_of_ble_eq_true rfl) (fun p e s m args below meth c C0 hlk hret => j_sub (l' := [(0, .ref (ad o0)), (1, .int a1), (2, .int a2)]) [0, 1, 2] rfl (w_X4_addSweep C0 hlk hret o0 a1 a2 μ K ho0 hX))
/-! PhaseTones$Wheel.dropFirstSweep()V -/
abbrev rm_X4_dropFirstSweep : Room := rmf 0 0
theorem fw_X4_dropFirstSweep_4 : ∀ w ∈ wsX40, w ∈ wsX4_dropFirstSweep := by decide +kernel
theorem hw_X4_dropFirstSweep_0 : Cond.fieldLink RX4 35 RX4 (TX4 5).2.1 (TX4 5).2.2.1 ∈ wsX4_dropFirstSweep := by decide +kernel
theorem hw_X4_dropFirstSweep_1 : Cond.fieldLink RX4 18 RX4 (TX4 6).2.1 (TX4 6).2.2.1 ∈ wsX4_dropFirstSweep := by decide +kernel
theorem hw_X4_dropFirstSweep_2 : Cond.fieldLink RX4 22 RX4 (TX4 7).2.1 (TX4 7).2.2.1 ∈ wsX4_dropFirstSweep := by decide +kernel
def xb_X4_dropFirstSweep_L12 (K : Mem → Prop) (B : Nat → Int32 → Mem → Prop) (o0 : Nat) (a1 : Int32) (μ : Mem) : Prop :=
  ((μ o0 5) ≤ a1 → K μ) ∧ (¬ ((μ o0 5) ≤ a1) → (4 ≤ (a1 + 1) → K μ) ∧ (¬ (4 ≤ (a1 + 1)) → vp_in (a1 + 1) 4 ∧ vp_in a1 4 ∧ ∀ μ6 : Mem, μ6 = um μ (o0 + 1) (upd (μ (o0 + 1)) a1.toNatClampNeg (μ (o0 + 1) (a1 + 1).toNatClampNeg)) → vp_in (a1 + 1) 4 ∧ vp_in a1 4 ∧ ∀ μ9 : Mem, μ9 = um μ6 (o0 + 2) (upd (μ6 (o0 + 2)) a1.toNatClampNeg (μ6 (o0 + 2) (a1 + 1).toNatClampNeg)) → ∀ v10 : Int32, v10 = a1 + 1 → B o0 v10 μ9))
def x_X4_dropFirstSweep_L12 (K : Mem → Prop) : Nat → Nat → Int32 → Mem → Prop
  | 0 => fun _ _ _ => False
  | n + 1 => fun o0 a1 μ => xb_X4_dropFirstSweep_L12 K (x_X4_dropFirstSweep_L12 K n) o0 a1 μ
set_option maxRecDepth 20000 in
theorem wb_X4_dropFirstSweep_L12 {p : Program} {l : Launch} {e : Env} {s : State} {m : MethodId} {args : Array Value} {below : List Frame} {meth : Method} {c : Code} {D : va_G} {Y : Nat → ClassId} {ad : Nat → Nat} (C0 : CX D Y ad (PA ad) rm_X4_dropFirstSweep 0 0 p s args m c cX4_dropFirstSweep 2 RX4 wsX4_dropFirstSweep) (hlk : meth.locks = false) (hret : meth.sig.returnType = none) (o0 : Nat) (a1 : Int32) (μ : Mem) (K : Mem → Prop) (B : Nat → Int32 → Mem → Prop) (hB : ∀ (o0 : Nat) (a1 : Int32) (μ : Mem), kd o0 = 4 → B o0 a1 μ → J p l e rm_X4_dropFirstSweep s m args below meth c D Y ad (PA ad) 0 0 2 (MQ below (va_Qv K (BB D Y ad) (PA ad)) args s 0 0 (PA ad)) 12 [(0, .ref (ad o0)), (1, .int a1)] [] μ) (ho0 : kd o0 = 4) (hX : xb_X4_dropFirstSweep_L12 K B o0 a1 μ) : J p l e rm_X4_dropFirstSweep s m args below meth c D Y ad (PA ad) 0 0 2 (MQ below (va_Qv K (BB D Y ad) (PA ad)) args s 0 0 (PA ad)) 12 [(0, .ref (ad o0)), (1, .int a1)] [] μ := by
  refine j_iload_n C0 1 dX4_dropFirstSweep_12 rfl rfl rfl ?_
  refine j_aload_n C0 0 dX4_dropFirstSweep_13 rfl rfl rfl ?_
  refine j_get4 C0 (v := .int (μ o0 5)) 5 ho0 fw_X4_dropFirstSweep_4 hw_X4_dropFirstSweep_0 (fun _ h9 => h9) (by decide) rfl dX4_dropFirstSweep_14 rfl ?_
  refine j_icmp_ge C0 (tgt := 61) dX4_dropFirstSweep_17 (by decide) rfl (fun c2 => ?_) (fun c2 => ?_)
  · have hX := hX.1 c2
    exact j_vret C0 hlk hret dX4_dropFirstSweep_61 hX
  · have hX := hX.2 c2
    refine j_iload_n C0 1 dX4_dropFirstSweep_20 rfl rfl rfl ?_
    refine j_iconst C0 1 dX4_dropFirstSweep_21 (by decide) rfl ?_
    refine j_iadd C0 dX4_dropFirstSweep_22 rfl ?_
    refine j_iconst C0 4 dX4_dropFirstSweep_23 (by decide) rfl ?_
    refine j_icmp_ge C0 (tgt := 61) dX4_dropFirstSweep_24 (by decide) rfl (fun c3 => ?_) (fun c3 => ?_)
    · have hX := hX.1 c3
      exact j_vret C0 hlk hret dX4_dropFirstSweep_61 hX
    · have hX := hX.2 c3
      refine j_aload_n C0 0 dX4_dropFirstSweep_27 rfl rfl rfl ?_
      refine j_get4 C0 (v := .ref (ad (o0 + 1))) 6 ho0 fw_X4_dropFirstSweep_4 hw_X4_dropFirstSweep_1 (fun _ h9 => h9) (by decide) rfl dX4_dropFirstSweep_28 rfl ?_
      refine j_iload_n C0 1 dX4_dropFirstSweep_31 rfl rfl rfl ?_
      refine j_aload_n C0 0 dX4_dropFirstSweep_32 rfl rfl rfl ?_
      refine j_get4 C0 (v := .ref (ad (o0 + 1))) 6 ho0 fw_X4_dropFirstSweep_4 hw_X4_dropFirstSweep_1 (fun _ h9 => h9) (by decide) rfl dX4_dropFirstSweep_33 rfl ?_
      refine j_iload_n C0 1 dX4_dropFirstSweep_36 rfl rfl rfl ?_
      refine j_iconst C0 1 dX4_dropFirstSweep_37 (by decide) rfl ?_
      refine j_iadd C0 dX4_dropFirstSweep_38 rfl ?_
      obtain ⟨h4, hX⟩ := hX
      refine j_iald C0 (n := 4) (kd_lt (kd_4e ho0) (by decide)) (ce12 (kd_4e ho0)) h4 dX4_dropFirstSweep_39 rfl ?_
      obtain ⟨h5, hX⟩ := hX
      refine j_iast C0 (n := 4) (kd_lt (kd_4e ho0) (by decide)) (ce12 (kd_4e ho0)) h5 dX4_dropFirstSweep_40 rfl ?_
      refine j_nm (fun μ6 e_μ6 => ?_)
      have hX := hX μ6 e_μ6
      refine j_aload_n C0 0 dX4_dropFirstSweep_41 rfl rfl rfl ?_
      refine j_get4 C0 (v := .ref (ad (o0 + 2))) 7 ho0 fw_X4_dropFirstSweep_4 hw_X4_dropFirstSweep_2 (fun _ h9 => h9) (by decide) rfl dX4_dropFirstSweep_42 rfl ?_
      refine j_iload_n C0 1 dX4_dropFirstSweep_45 rfl rfl rfl ?_
      refine j_aload_n C0 0 dX4_dropFirstSweep_46 rfl rfl rfl ?_
      refine j_get4 C0 (v := .ref (ad (o0 + 2))) 7 ho0 fw_X4_dropFirstSweep_4 hw_X4_dropFirstSweep_2 (fun _ h9 => h9) (by decide) rfl dX4_dropFirstSweep_47 rfl ?_
      refine j_iload_n C0 1 dX4_dropFirstSweep_50 rfl rfl rfl ?_
      refine j_iconst C0 1 dX4_dropFirstSweep_51 (by decide) rfl ?_
      refine j_iadd C0 dX4_dropFirstSweep_52 rfl ?_
      obtain ⟨h7, hX⟩ := hX
      refine j_iald C0 (n := 4) (kd_lt (kd_4l ho0) (by decide)) (ce12 (kd_4l ho0)) h7 dX4_dropFirstSweep_53 rfl ?_
      obtain ⟨h8, hX⟩ := hX
      refine j_iast C0 (n := 4) (kd_lt (kd_4l ho0) (by decide)) (ce12 (kd_4l ho0)) h8 dX4_dropFirstSweep_54 rfl ?_
      refine j_nm (fun μ9 e_μ9 => ?_)
      have hX := hX μ9 e_μ9
      obtain ⟨v10, e_v10⟩ : ∃ z : Int32, z = a1 + 1 := ⟨_, rfl⟩
      have hX := hX v10 e_v10
      refine j_iinc C0 1 v10 [(1, .int v10), (0, .ref (ad o0))] dX4_dropFirstSweep_55 rfl (by rw [e_v10]; rfl) (by decide) rfl rfl ?_
      refine j_goto C0 (tgt := 12) dX4_dropFirstSweep_58 (by decide) ?_
      exact j_sub (l' := [(0, .ref (ad o0)), (1, .int v10)]) [1, 0] rfl (hB o0 v10 μ9 ho0 hX)
theorem w_X4_dropFirstSweep_L12 {p : Program} {l : Launch} {e : Env} {s : State} {m : MethodId} {args : Array Value} {below : List Frame} {meth : Method} {c : Code} {D : va_G} {Y : Nat → ClassId} {ad : Nat → Nat} (C0 : CX D Y ad (PA ad) rm_X4_dropFirstSweep 0 0 p s args m c cX4_dropFirstSweep 2 RX4 wsX4_dropFirstSweep) (hlk : meth.locks = false) (hret : meth.sig.returnType = none) (K : Mem → Prop) : ∀ (n : Nat) (o0 : Nat) (a1 : Int32) (μ : Mem) (ho0 : kd o0 = 4) (hX : x_X4_dropFirstSweep_L12 K n o0 a1 μ), J p l e rm_X4_dropFirstSweep s m args below meth c D Y ad (PA ad) 0 0 2 (MQ below (va_Qv K (BB D Y ad) (PA ad)) args s 0 0 (PA ad)) 12 [(0, .ref (ad o0)), (1, .int a1)] [] μ
  | 0, o0, a1, μ, ho0, hX => hX.elim
  | n + 1, o0, a1, μ, ho0, hX => wb_X4_dropFirstSweep_L12 C0 hlk hret o0 a1 μ K (x_X4_dropFirstSweep_L12 K n) (fun o0 a1 μ ho0 hx => w_X4_dropFirstSweep_L12 C0 hlk hret K n o0 a1 μ ho0 hx) ho0 hX
def x_X4_dropFirstSweep (o0 : Nat) (μ : Mem) (K : Mem → Prop) : Prop :=
  ∀ μ1 : Mem, μ1 = um μ o0 (upd (μ o0) 5 ((μ o0 5) - 1)) → ∃ n : Nat, x_X4_dropFirstSweep_L12 K n o0 0 μ1
set_option maxRecDepth 20000 in
theorem w_X4_dropFirstSweep {p : Program} {l : Launch} {e : Env} {s : State} {m : MethodId} {args : Array Value} {below : List Frame} {meth : Method} {c : Code} {D : va_G} {Y : Nat → ClassId} {ad : Nat → Nat} (C0 : CX D Y ad (PA ad) rm_X4_dropFirstSweep 0 0 p s args m c cX4_dropFirstSweep 2 RX4 wsX4_dropFirstSweep) (hlk : meth.locks = false) (hret : meth.sig.returnType = none) (o0 : Nat) (μ : Mem) (K : Mem → Prop) (ho0 : kd o0 = 4) (hX : x_X4_dropFirstSweep o0 μ K) : J p l e rm_X4_dropFirstSweep s m args below meth c D Y ad (PA ad) 0 0 2 (MQ below (va_Qv K (BB D Y ad) (PA ad)) args s 0 0 (PA ad)) 0 [(0, .ref (ad o0))] [] μ := by
  refine j_aload_n C0 0 dX4_dropFirstSweep_0 rfl rfl rfl ?_
  refine j_dup C0 dX4_dropFirstSweep_1 rfl rfl ?_
  refine j_get4 C0 (v := .int (μ o0 5)) 5 ho0 fw_X4_dropFirstSweep_4 hw_X4_dropFirstSweep_0 (fun _ h9 => h9) (by decide) rfl dX4_dropFirstSweep_2 rfl ?_
  refine j_iconst C0 1 dX4_dropFirstSweep_5 (by decide) rfl ?_
  refine j_isub C0 dX4_dropFirstSweep_6 rfl ?_
  refine j_put4_5 C0 ho0 fw_X4_dropFirstSweep_4 hw_X4_dropFirstSweep_0 dX4_dropFirstSweep_7 rfl ?_
  refine j_nm (fun μ1 e_μ1 => ?_)
  have hX := hX μ1 e_μ1
  refine j_iconst C0 0 dX4_dropFirstSweep_10 (by decide) rfl ?_
  refine j_istore_n C0 [(1, .int 0), (0, .ref (ad o0))] dX4_dropFirstSweep_11 rfl (by decide) rfl rfl ?_
  obtain ⟨n, hX⟩ := hX
  exact j_sub (l' := [(0, .ref (ad o0)), (1, .int 0)]) [1, 0] rfl (w_X4_dropFirstSweep_L12 C0 hlk hret K n o0 0 μ1 ho0 hX)
theorem c_X4_dropFirstSweep {l : Launch} {D : va_G} {Y : Nat → ClassId} {ad : Nat → Nat} (o0 : Nat) {μ : Mem} {K : Mem → Prop} (ho0 : kd o0 = 4) (hX : x_X4_dropFirstSweep o0 μ K) : ConV l yX4_dropFirstSweep wsX4_dropFirstSweep rm_X4_dropFirstSweep [.ref (ad o0)] D Y ad μ K := conV_of (cc := cX4_dropFirstSweep) (maxL := 2) (ret := none) (own := RX4) _ (by decide +kernel) rfl rfl (Nat.le_of_ble_eq_true rfl) (fun p e s m args below meth c C0 hlk hret => j_sub (l' := [(0, .ref (ad o0))]) [0] rfl (w_X4_dropFirstSweep C0 hlk hret o0 μ K ho0 hX))
/-! PhaseTones$Wheel.goOnSweeping()V -/
abbrev rm_X4_goOnSweeping : Room := rmf 1 21
theorem fw_X4_goOnSweeping_4 : ∀ w ∈ wsX40, w ∈ wsX4_goOnSweeping := by decide +kernel
theorem hw_X4_goOnSweeping_0 : Cond.fieldLink RX4 22 RX4 (TX4 7).2.1 (TX4 7).2.2.1 ∈ wsX4_goOnSweeping := by decide +kernel
theorem hw_X4_goOnSweeping_1 : Cond.fieldLink RX4 47 RX4 (TX4 9).2.1 (TX4 9).2.2.1 ∈ wsX4_goOnSweeping := by decide +kernel
theorem hw_X4_goOnSweeping_2 : Cond.fieldLink RX4 44 RX4 (TX4 8).2.1 (TX4 8).2.2.1 ∈ wsX4_goOnSweeping := by decide +kernel
theorem hw_X4_goOnSweeping_3 : Cond.fieldLink RX4 18 RX4 (TX4 6).2.1 (TX4 6).2.2.1 ∈ wsX4_goOnSweeping := by decide +kernel
theorem hw_X4_goOnSweeping_4 : Cond.fieldLink RX4 9 RX4 (TX4 1).2.1 (TX4 1).2.2.1 ∈ wsX4_goOnSweeping := by decide +kernel
def x_X4_goOnSweeping (o0 : Nat) (μ : Mem) (K : Mem → Prop) : Prop :=
  ∀ v1 : Int32, v1 = (μ (o0 + 2) 0) → (0 < v1 → ∀ μ3 : Mem, μ3 = um μ o0 (upd (μ o0) 9 ((μ o0 9) + 1)) → ¬ v1 = 0 ∧ ∀ μ5 : Mem, μ5 = um μ3 o0 (upd (μ3 o0) 1 ((μ3 o0 8) + ((((μ3 (o0 + 1) 0) - (μ3 o0 8)) * (μ3 o0 9)) / v1))) → ((μ5 o0 9) < v1 → K μ5) ∧ (¬ ((μ5 o0 9) < v1) → x_X4_dropFirstSweep o0 μ5 (fun μ7 => x_X4_beginSweep o0 μ7 (fun μ8 => K μ8)))) ∧ (¬ (0 < v1) → K μ)
set_option maxRecDepth 20000 in
theorem w_X4_goOnSweeping {p : Program} {l : Launch} {e : Env} {s : State} {m : MethodId} {args : Array Value} {below : List Frame} {meth : Method} {c : Code} {D : va_G} {Y : Nat → ClassId} {ad : Nat → Nat} (C0 : CX D Y ad (PA ad) rm_X4_goOnSweeping 0 0 p s args m c cX4_goOnSweeping 2 RX4 wsX4_goOnSweeping) (hlk : meth.locks = false) (hret : meth.sig.returnType = none) (o0 : Nat) (μ : Mem) (K : Mem → Prop) (ho0 : kd o0 = 4) (hX : x_X4_goOnSweeping o0 μ K) : J p l e rm_X4_goOnSweeping s m args below meth c D Y ad (PA ad) 0 0 2 (MQ below (va_Qv K (BB D Y ad) (PA ad)) args s 0 0 (PA ad)) 0 [(0, .ref (ad o0))] [] μ := by
  refine j_aload_n C0 0 dX4_goOnSweeping_0 rfl rfl rfl ?_
  refine j_get4 C0 (v := .ref (ad (o0 + 2))) 7 ho0 fw_X4_goOnSweeping_4 hw_X4_goOnSweeping_0 (fun _ h9 => h9) (by decide) rfl dX4_goOnSweeping_1 rfl ?_
  refine j_iconst C0 0 dX4_goOnSweeping_4 (by decide) rfl ?_
  refine j_iald C0 (n := 4) (kd_lt (kd_4l ho0) (by decide)) (ce12 (kd_4l ho0)) (vp_lit (i := 0) (by decide)) dX4_goOnSweeping_5 rfl ?_
  refine j_val (μ (o0 + 2) 0) rfl ?_
  refine j_topi (fun v1 e_v1 => ?_)
  have hX := hX v1 e_v1
  refine j_istore_n C0 [(1, .int v1), (0, .ref (ad o0))] dX4_goOnSweeping_6 rfl (by decide) rfl rfl ?_
  refine j_iload_n C0 0 dX4_goOnSweeping_7 rfl rfl rfl ?_
  refine j_if_gt C0 (tgt := 12) dX4_goOnSweeping_8 (by decide) rfl (fun c2 => ?_) (fun c2 => ?_)
  · have hX := hX.1 c2
    refine j_aload_n C0 1 dX4_goOnSweeping_12 rfl rfl rfl ?_
    refine j_dup C0 dX4_goOnSweeping_13 rfl rfl ?_
    refine j_get4 C0 (v := .int (μ o0 9)) 9 ho0 fw_X4_goOnSweeping_4 hw_X4_goOnSweeping_1 (fun _ h9 => h9) (by decide) rfl dX4_goOnSweeping_14 rfl ?_
    refine j_iconst C0 1 dX4_goOnSweeping_17 (by decide) rfl ?_
    refine j_iadd C0 dX4_goOnSweeping_18 rfl ?_
    refine j_put4_9 C0 ho0 fw_X4_goOnSweeping_4 hw_X4_goOnSweeping_1 dX4_goOnSweeping_19 rfl ?_
    refine j_nm (fun μ3 e_μ3 => ?_)
    have hX := hX μ3 e_μ3
    refine j_aload_n C0 1 dX4_goOnSweeping_22 rfl rfl rfl ?_
    refine j_aload_n C0 1 dX4_goOnSweeping_23 rfl rfl rfl ?_
    refine j_get4 C0 (v := .int (μ3 o0 8)) 8 ho0 fw_X4_goOnSweeping_4 hw_X4_goOnSweeping_2 (fun _ h9 => h9) (by decide) rfl dX4_goOnSweeping_24 rfl ?_
    refine j_aload_n C0 1 dX4_goOnSweeping_27 rfl rfl rfl ?_
    refine j_get4 C0 (v := .ref (ad (o0 + 1))) 6 ho0 fw_X4_goOnSweeping_4 hw_X4_goOnSweeping_3 (fun _ h9 => h9) (by decide) rfl dX4_goOnSweeping_28 rfl ?_
    refine j_iconst C0 0 dX4_goOnSweeping_31 (by decide) rfl ?_
    refine j_iald C0 (n := 4) (kd_lt (kd_4e ho0) (by decide)) (ce12 (kd_4e ho0)) (vp_lit (i := 0) (by decide)) dX4_goOnSweeping_32 rfl ?_
    refine j_val (μ3 (o0 + 1) 0) rfl ?_
    refine j_aload_n C0 1 dX4_goOnSweeping_33 rfl rfl rfl ?_
    refine j_get4 C0 (v := .int (μ3 o0 8)) 8 ho0 fw_X4_goOnSweeping_4 hw_X4_goOnSweeping_2 (fun _ h9 => h9) (by decide) rfl dX4_goOnSweeping_34 rfl ?_
    refine j_isub C0 dX4_goOnSweeping_37 rfl ?_
    refine j_aload_n C0 1 dX4_goOnSweeping_38 rfl rfl rfl ?_
    refine j_get4 C0 (v := .int (μ3 o0 9)) 9 ho0 fw_X4_goOnSweeping_4 hw_X4_goOnSweeping_1 (fun _ h9 => h9) (by decide) rfl dX4_goOnSweeping_39 rfl ?_
    refine j_imul C0 dX4_goOnSweeping_42 rfl ?_
    refine j_iload_n C0 0 dX4_goOnSweeping_43 rfl rfl rfl ?_
    obtain ⟨h4, hX⟩ := hX
    refine j_idiv C0 dX4_goOnSweeping_44 h4 rfl ?_
    refine j_iadd C0 dX4_goOnSweeping_45 rfl ?_
    refine j_put4_1 C0 ho0 fw_X4_goOnSweeping_4 hw_X4_goOnSweeping_4 dX4_goOnSweeping_46 rfl ?_
    refine j_nm (fun μ5 e_μ5 => ?_)
    have hX := hX μ5 e_μ5
    refine j_aload_n C0 1 dX4_goOnSweeping_49 rfl rfl rfl ?_
    refine j_get4 C0 (v := .int (μ5 o0 9)) 9 ho0 fw_X4_goOnSweeping_4 hw_X4_goOnSweeping_1 (fun _ h9 => h9) (by decide) rfl dX4_goOnSweeping_50 rfl ?_
    refine j_iload_n C0 0 dX4_goOnSweeping_53 rfl rfl rfl ?_
    refine j_icmp_lt C0 (tgt := 65) dX4_goOnSweeping_54 (by decide) rfl (fun c6 => ?_) (fun c6 => ?_)
    · have hX := hX.1 c6
      exact j_vret C0 hlk hret dX4_goOnSweeping_65 hX
    · have hX := hX.2 c6
      refine j_aload_n C0 1 dX4_goOnSweeping_57 rfl rfl rfl ?_
      refine j_callVv C0 0 [] (c_X4_dropFirstSweep o0 ho0 hX) dX4_goOnSweeping_58 gX4_goOnSweeping_X4_dropFirstSweep rfl (by decide +kernel) ⟨⟨Nat.le_of_ble_eq_true rfl, Nat.le_of_ble_eq_true rfl⟩, rfl, rfl⟩ (kd_lt ho0 (by decide)) (ce4 ho0) rfl rfl rfl (Nat.le_of_ble_eq_true rfl) rfl (fun μ7 hX => ?_)
      refine j_aload_n C0 1 dX4_goOnSweeping_61 rfl rfl rfl ?_
      refine j_callVv C0 0 [] (c_X4_beginSweep o0 ho0 hX) dX4_goOnSweeping_62 gX4_goOnSweeping_X4_beginSweep rfl (by decide +kernel) ⟨⟨Nat.le_of_ble_eq_true rfl, Nat.le_of_ble_eq_true rfl⟩, rfl, rfl⟩ (kd_lt ho0 (by decide)) (ce4 ho0) rfl rfl rfl (Nat.le_of_ble_eq_true rfl) rfl (fun μ8 hX => ?_)
      exact j_vret C0 hlk hret dX4_goOnSweeping_65 hX
  · have hX := hX.2 c2
    exact j_vret C0 hlk hret dX4_goOnSweeping_11 hX
theorem c_X4_goOnSweeping {l : Launch} {D : va_G} {Y : Nat → ClassId} {ad : Nat → Nat} (o0 : Nat) {μ : Mem} {K : Mem → Prop} (ho0 : kd o0 = 4) (hX : x_X4_goOnSweeping o0 μ K) : ConV l yX4_goOnSweeping wsX4_goOnSweeping rm_X4_goOnSweeping [.ref (ad o0)] D Y ad μ K := conV_of (cc := cX4_goOnSweeping) (maxL := 2) (ret := none) (own := RX4) _ (by decide +kernel) rfl rfl (Nat.le_of_ble_eq_true rfl) (fun p e s m args below meth c C0 hlk hret => j_sub (l' := [(0, .ref (ad o0))]) [0] rfl (w_X4_goOnSweeping C0 hlk hret o0 μ K ho0 hX))
/-! PhaseTones$Wheel.goOn()V -/
abbrev rm_X4_goOn : Room := rmf 2 42
theorem fw_X4_goOn_4 : ∀ w ∈ wsX40, w ∈ wsX4_goOn := by decide +kernel
theorem hw_X4_goOn_0 : Cond.fieldLink RX4 25 RX4 (TX4 0).2.1 (TX4 0).2.2.1 ∈ wsX4_goOn := by decide +kernel
theorem hw_X4_goOn_1 : Cond.fieldLink RX4 9 RX4 (TX4 1).2.1 (TX4 1).2.2.1 ∈ wsX4_goOn := by decide +kernel
theorem hw_X4_goOn_2 : Cond.constant RX4 53 (65536) ∈ wsX4_goOn := by decide +kernel
theorem hw_X4_goOn_3 : Cond.fieldLink RX4 35 RX4 (TX4 5).2.1 (TX4 5).2.2.1 ∈ wsX4_goOn := by decide +kernel
def x_X4_goOn (o0 : Nat) (μ : Mem) (K : Mem → Prop) : Prop :=
  ∀ μ1 : Mem, μ1 = um μ o0 (upd (μ o0) 0 (((μ o0 0) + (μ o0 1)) - ((μ o0 0) + (μ o0 1)) / 65536 * 65536)) → ((μ1 o0 5) ≤ 0 → K μ1) ∧ (¬ ((μ1 o0 5) ≤ 0) → x_X4_goOnSweeping o0 μ1 (fun μ3 => K μ3))
set_option maxRecDepth 20000 in
theorem w_X4_goOn {p : Program} {l : Launch} {e : Env} {s : State} {m : MethodId} {args : Array Value} {below : List Frame} {meth : Method} {c : Code} {D : va_G} {Y : Nat → ClassId} {ad : Nat → Nat} (C0 : CX D Y ad (PA ad) rm_X4_goOn 0 0 p s args m c cX4_goOn 1 RX4 wsX4_goOn) (hlk : meth.locks = false) (hret : meth.sig.returnType = none) (o0 : Nat) (μ : Mem) (K : Mem → Prop) (ho0 : kd o0 = 4) (hX : x_X4_goOn o0 μ K) : J p l e rm_X4_goOn s m args below meth c D Y ad (PA ad) 0 0 1 (MQ below (va_Qv K (BB D Y ad) (PA ad)) args s 0 0 (PA ad)) 0 [(0, .ref (ad o0))] [] μ := by
  refine j_aload_n C0 0 dX4_goOn_0 rfl rfl rfl ?_
  refine j_aload_n C0 0 dX4_goOn_1 rfl rfl rfl ?_
  refine j_get4 C0 (v := .int (μ o0 0)) 0 ho0 fw_X4_goOn_4 hw_X4_goOn_0 (fun _ h9 => h9) (by decide) rfl dX4_goOn_2 rfl ?_
  refine j_aload_n C0 0 dX4_goOn_5 rfl rfl rfl ?_
  refine j_get4 C0 (v := .int (μ o0 1)) 1 ho0 fw_X4_goOn_4 hw_X4_goOn_1 (fun _ h9 => h9) (by decide) rfl dX4_goOn_6 rfl ?_
  refine j_iadd C0 dX4_goOn_9 rfl ?_
  refine j_ldc C0 65536 dX4_goOn_10 hw_X4_goOn_2 rfl ?_
  refine j_irem C0 dX4_goOn_12 (by decide) rfl ?_
  refine j_put4_0 C0 ho0 fw_X4_goOn_4 hw_X4_goOn_0 dX4_goOn_13 rfl ?_
  refine j_nm (fun μ1 e_μ1 => ?_)
  have hX := hX μ1 e_μ1
  refine j_aload_n C0 0 dX4_goOn_16 rfl rfl rfl ?_
  refine j_get4 C0 (v := .int (μ1 o0 5)) 5 ho0 fw_X4_goOn_4 hw_X4_goOn_3 (fun _ h9 => h9) (by decide) rfl dX4_goOn_17 rfl ?_
  refine j_if_le C0 (tgt := 27) dX4_goOn_20 (by decide) rfl (fun c2 => ?_) (fun c2 => ?_)
  · have hX := hX.1 c2
    exact j_vret C0 hlk hret dX4_goOn_27 hX
  · have hX := hX.2 c2
    refine j_aload_n C0 0 dX4_goOn_23 rfl rfl rfl ?_
    refine j_callVv C0 0 [] (c_X4_goOnSweeping o0 ho0 hX) dX4_goOn_24 gX4_goOn_X4_goOnSweeping rfl (by decide +kernel) ⟨⟨Nat.le_of_ble_eq_true rfl, Nat.le_of_ble_eq_true rfl⟩, rfl, rfl⟩ (kd_lt ho0 (by decide)) (ce4 ho0) rfl rfl rfl (Nat.le_of_ble_eq_true rfl) rfl (fun μ3 hX => ?_)
    exact j_vret C0 hlk hret dX4_goOn_27 hX
theorem c_X4_goOn {l : Launch} {D : va_G} {Y : Nat → ClassId} {ad : Nat → Nat} (o0 : Nat) {μ : Mem} {K : Mem → Prop} (ho0 : kd o0 = 4) (hX : x_X4_goOn o0 μ K) : ConV l yX4_goOn wsX4_goOn rm_X4_goOn [.ref (ad o0)] D Y ad μ K := conV_of (cc := cX4_goOn) (maxL := 1) (ret := none) (own := RX4) _ (by decide +kernel) rfl rfl (Nat.le_of_ble_eq_true rfl) (fun p e s m args below meth c C0 hlk hret => j_sub (l' := [(0, .ref (ad o0))]) [0] rfl (w_X4_goOn C0 hlk hret o0 μ K ho0 hX))
/-! PhaseTones$Wheel.image()I -/
abbrev rm_X4_image : Room := rmf 0 0
theorem fw_X4_image_4 : ∀ w ∈ wsX40, w ∈ wsX4_image := by decide +kernel
theorem hw_X4_image_0 : Cond.fieldLink RX4 9 RX4 (TX4 1).2.1 (TX4 1).2.2.1 ∈ wsX4_image := by decide +kernel
theorem hw_X4_image_1 : Cond.constant RX4 60 (32768) ∈ wsX4_image := by decide +kernel
theorem hw_X4_image_2 : Cond.constant RX4 53 (65536) ∈ wsX4_image := by decide +kernel
def x_X4_image (o0 : Nat) (μ : Mem) (K : Int32 → Mem → Prop) : Prop :=
  (32768 < (μ o0 1) → K ((65536 : Int32) - (μ o0 1)) μ) ∧ (¬ (32768 < (μ o0 1)) → K (μ o0 1) μ)
set_option maxRecDepth 20000 in
theorem w_X4_image {p : Program} {l : Launch} {e : Env} {s : State} {m : MethodId} {args : Array Value} {below : List Frame} {meth : Method} {c : Code} {D : va_G} {Y : Nat → ClassId} {ad : Nat → Nat} (C0 : CX D Y ad (PA ad) rm_X4_image 0 0 p s args m c cX4_image 1 RX4 wsX4_image) (hlk : meth.locks = false) (hret : meth.sig.returnType = (some .int)) (o0 : Nat) (μ : Mem) (K : Int32 → Mem → Prop) (ho0 : kd o0 = 4) (hX : x_X4_image o0 μ K) : J p l e rm_X4_image s m args below meth c D Y ad (PA ad) 0 0 1 (MQ below (va_Qi K (BB D Y ad) (PA ad)) args s 0 0 (PA ad)) 0 [(0, .ref (ad o0))] [] μ := by
  refine j_aload_n C0 0 dX4_image_0 rfl rfl rfl ?_
  refine j_get4 C0 (v := .int (μ o0 1)) 1 ho0 fw_X4_image_4 hw_X4_image_0 (fun _ h9 => h9) (by decide) rfl dX4_image_1 rfl ?_
  refine j_ldc C0 32768 dX4_image_4 hw_X4_image_1 rfl ?_
  refine j_icmp_gt C0 (tgt := 16) dX4_image_6 (by decide) rfl (fun c1 => ?_) (fun c1 => ?_)
  · have hX := hX.1 c1
    refine j_ldc C0 65536 dX4_image_16 hw_X4_image_2 rfl ?_
    refine j_aload_n C0 0 dX4_image_18 rfl rfl rfl ?_
    refine j_get4 C0 (v := .int (μ o0 1)) 1 ho0 fw_X4_image_4 hw_X4_image_0 (fun _ h9 => h9) (by decide) rfl dX4_image_19 rfl ?_
    refine j_isub C0 dX4_image_22 rfl ?_
    exact j_iret C0 hlk hret dX4_image_23 hX
  · have hX := hX.2 c1
    refine j_aload_n C0 0 dX4_image_9 rfl rfl rfl ?_
    refine j_get4 C0 (v := .int (μ o0 1)) 1 ho0 fw_X4_image_4 hw_X4_image_0 (fun _ h9 => h9) (by decide) rfl dX4_image_10 rfl ?_
    refine j_goto C0 (tgt := 23) dX4_image_13 (by decide) ?_
    exact j_iret C0 hlk hret dX4_image_23 hX
theorem c_X4_image {l : Launch} {D : va_G} {Y : Nat → ClassId} {ad : Nat → Nat} (o0 : Nat) {μ : Mem} {K : Int32 → Mem → Prop} (ho0 : kd o0 = 4) (hX : x_X4_image o0 μ K) : ConI l yX4_image wsX4_image rm_X4_image [.ref (ad o0)] D Y ad μ K := conI_of (cc := cX4_image) (maxL := 1) (ret := (some .int)) (own := RX4) _ (by decide +kernel) rfl rfl (Nat.le_of_ble_eq_true rfl) (fun p e s m args below meth c C0 hlk hret => j_sub (l' := [(0, .ref (ad o0))]) [0] rfl (w_X4_image C0 hlk hret o0 μ K ho0 hX))
/-! PhaseTones$Wheel.samplesOfARound()I -/
abbrev rm_X4_samplesOfARound : Room := rmf 0 0
theorem fw_X4_samplesOfARound_4 : ∀ w ∈ wsX40, w ∈ wsX4_samplesOfARound := by decide +kernel
theorem hw_X4_samplesOfARound_0 : Cond.fieldLink RX4 9 RX4 (TX4 1).2.1 (TX4 1).2.2.1 ∈ wsX4_samplesOfARound := by decide +kernel
theorem hw_X4_samplesOfARound_1 : Cond.constant RX4 53 (65536) ∈ wsX4_samplesOfARound := by decide +kernel
def x_X4_samplesOfARound (o0 : Nat) (μ : Mem) (K : Int32 → Mem → Prop) : Prop :=
  ((μ o0 1) = 0 → K 1 μ) ∧ (¬ ((μ o0 1) = 0) → ∀ v2 : Int32, v2 = ((μ o0 1) &&& (-(μ o0 1))) → ¬ v2 = 0 ∧ K ((65536 : Int32) / v2) μ)
set_option maxRecDepth 20000 in
theorem w_X4_samplesOfARound {p : Program} {l : Launch} {e : Env} {s : State} {m : MethodId} {args : Array Value} {below : List Frame} {meth : Method} {c : Code} {D : va_G} {Y : Nat → ClassId} {ad : Nat → Nat} (C0 : CX D Y ad (PA ad) rm_X4_samplesOfARound 0 0 p s args m c cX4_samplesOfARound 2 RX4 wsX4_samplesOfARound) (hlk : meth.locks = false) (hret : meth.sig.returnType = (some .int)) (o0 : Nat) (μ : Mem) (K : Int32 → Mem → Prop) (ho0 : kd o0 = 4) (hX : x_X4_samplesOfARound o0 μ K) : J p l e rm_X4_samplesOfARound s m args below meth c D Y ad (PA ad) 0 0 2 (MQ below (va_Qi K (BB D Y ad) (PA ad)) args s 0 0 (PA ad)) 0 [(0, .ref (ad o0))] [] μ := by
  refine j_aload_n C0 0 dX4_samplesOfARound_0 rfl rfl rfl ?_
  refine j_get4 C0 (v := .int (μ o0 1)) 1 ho0 fw_X4_samplesOfARound_4 hw_X4_samplesOfARound_0 (fun _ h9 => h9) (by decide) rfl dX4_samplesOfARound_1 rfl ?_
  refine j_if_ne C0 (tgt := 9) dX4_samplesOfARound_4 (by decide) rfl (fun c1 => ?_) (fun c1 => ?_)
  · have hX := hX.1 c1
    refine j_iconst C0 1 dX4_samplesOfARound_7 (by decide) rfl ?_
    exact j_iret C0 hlk hret dX4_samplesOfARound_8 hX
  · have hX := hX.2 c1
    refine j_aload_n C0 0 dX4_samplesOfARound_9 rfl rfl rfl ?_
    refine j_get4 C0 (v := .int (μ o0 1)) 1 ho0 fw_X4_samplesOfARound_4 hw_X4_samplesOfARound_0 (fun _ h9 => h9) (by decide) rfl dX4_samplesOfARound_10 rfl ?_
    refine j_aload_n C0 0 dX4_samplesOfARound_13 rfl rfl rfl ?_
    refine j_get4 C0 (v := .int (μ o0 1)) 1 ho0 fw_X4_samplesOfARound_4 hw_X4_samplesOfARound_0 (fun _ h9 => h9) (by decide) rfl dX4_samplesOfARound_14 rfl ?_
    refine j_ineg C0 dX4_samplesOfARound_17 rfl ?_
    refine j_iand C0 dX4_samplesOfARound_18 rfl ?_
    refine j_topi (fun v2 e_v2 => ?_)
    have hX := hX v2 e_v2
    refine j_istore_n C0 [(1, .int v2), (0, .ref (ad o0))] dX4_samplesOfARound_19 rfl (by decide) rfl rfl ?_
    refine j_ldc C0 65536 dX4_samplesOfARound_20 hw_X4_samplesOfARound_1 rfl ?_
    refine j_iload_n C0 0 dX4_samplesOfARound_22 rfl rfl rfl ?_
    obtain ⟨h3, hX⟩ := hX
    refine j_idiv C0 dX4_samplesOfARound_23 h3 rfl ?_
    exact j_iret C0 hlk hret dX4_samplesOfARound_24 hX
theorem c_X4_samplesOfARound {l : Launch} {D : va_G} {Y : Nat → ClassId} {ad : Nat → Nat} (o0 : Nat) {μ : Mem} {K : Int32 → Mem → Prop} (ho0 : kd o0 = 4) (hX : x_X4_samplesOfARound o0 μ K) : ConI l yX4_samplesOfARound wsX4_samplesOfARound rm_X4_samplesOfARound [.ref (ad o0)] D Y ad μ K := conI_of (cc := cX4_samplesOfARound) (maxL := 2) (ret := (some .int)) (own := RX4) _ (by decide +kernel) rfl rfl (Nat.le_of_ble_eq_true rfl) (fun p e s m args below meth c C0 hlk hret => j_sub (l' := [(0, .ref (ad o0))]) [0] rfl (w_X4_samplesOfARound C0 hlk hret o0 μ K ho0 hX))
/-! PhaseTones$Wheel.samplesOfSweeps()I -/
abbrev rm_X4_samplesOfSweeps : Room := rmf 0 0
theorem fw_X4_samplesOfSweeps_4 : ∀ w ∈ wsX40, w ∈ wsX4_samplesOfSweeps := by decide +kernel
theorem hw_X4_samplesOfSweeps_0 : Cond.fieldLink RX4 35 RX4 (TX4 5).2.1 (TX4 5).2.2.1 ∈ wsX4_samplesOfSweeps := by decide +kernel
theorem hw_X4_samplesOfSweeps_1 : Cond.fieldLink RX4 47 RX4 (TX4 9).2.1 (TX4 9).2.2.1 ∈ wsX4_samplesOfSweeps := by decide +kernel
theorem hw_X4_samplesOfSweeps_2 : Cond.fieldLink RX4 22 RX4 (TX4 7).2.1 (TX4 7).2.2.1 ∈ wsX4_samplesOfSweeps := by decide +kernel
def x_X4_samplesOfSweeps_L32 (K : Int32 → Mem → Prop) (o0 : Nat) (a1 : Int32) (μ : Mem) : Prop :=
  ((μ o0 5) ≤ 0 → K 0 μ) ∧ (¬ ((μ o0 5) ≤ 0) → K (a1 - (μ o0 9)) μ)
set_option maxRecDepth 20000 in
theorem w_X4_samplesOfSweeps_L32 {p : Program} {l : Launch} {e : Env} {s : State} {m : MethodId} {args : Array Value} {below : List Frame} {meth : Method} {c : Code} {D : va_G} {Y : Nat → ClassId} {ad : Nat → Nat} (C0 : CX D Y ad (PA ad) rm_X4_samplesOfSweeps 0 0 p s args m c cX4_samplesOfSweeps 3 RX4 wsX4_samplesOfSweeps) (hlk : meth.locks = false) (hret : meth.sig.returnType = (some .int)) (o0 : Nat) (a1 : Int32) (μ : Mem) (K : Int32 → Mem → Prop) (ho0 : kd o0 = 4) (hX : x_X4_samplesOfSweeps_L32 K o0 a1 μ) : J p l e rm_X4_samplesOfSweeps s m args below meth c D Y ad (PA ad) 0 0 3 (MQ below (va_Qi K (BB D Y ad) (PA ad)) args s 0 0 (PA ad)) 32 [(0, .ref (ad o0)), (1, .int a1)] [] μ := by
  refine j_aload_n C0 0 dX4_samplesOfSweeps_32 rfl rfl rfl ?_
  refine j_get4 C0 (v := .int (μ o0 5)) 5 ho0 fw_X4_samplesOfSweeps_4 hw_X4_samplesOfSweeps_0 (fun _ h9 => h9) (by decide) rfl dX4_samplesOfSweeps_33 rfl ?_
  refine j_if_le C0 (tgt := 48) dX4_samplesOfSweeps_36 (by decide) rfl (fun c2 => ?_) (fun c2 => ?_)
  · have hX := hX.1 c2
    refine j_iconst C0 0 dX4_samplesOfSweeps_48 (by decide) rfl ?_
    exact j_iret C0 hlk hret dX4_samplesOfSweeps_49 hX
  · have hX := hX.2 c2
    refine j_iload_n C0 1 dX4_samplesOfSweeps_39 rfl rfl rfl ?_
    refine j_aload_n C0 0 dX4_samplesOfSweeps_40 rfl rfl rfl ?_
    refine j_get4 C0 (v := .int (μ o0 9)) 9 ho0 fw_X4_samplesOfSweeps_4 hw_X4_samplesOfSweeps_1 (fun _ h9 => h9) (by decide) rfl dX4_samplesOfSweeps_41 rfl ?_
    refine j_isub C0 dX4_samplesOfSweeps_44 rfl ?_
    refine j_goto C0 (tgt := 49) dX4_samplesOfSweeps_45 (by decide) ?_
    exact j_iret C0 hlk hret dX4_samplesOfSweeps_49 hX
def xb_X4_samplesOfSweeps_L4 (K : Int32 → Mem → Prop) (B : Nat → Int32 → Int32 → Mem → Prop) (o0 : Nat) (a1 : Int32) (a2 : Int32) (μ : Mem) : Prop :=
  ((μ o0 5) ≤ a2 → x_X4_samplesOfSweeps_L32 K o0 a1 μ) ∧ (¬ ((μ o0 5) ≤ a2) → (4 ≤ a2 → x_X4_samplesOfSweeps_L32 K o0 a1 μ) ∧ (¬ (4 ≤ a2) → vp_in a2 4 ∧ ∀ v5 : Int32, v5 = (a1 + (μ (o0 + 2) a2.toNatClampNeg)) → ∀ v6 : Int32, v6 = a2 + 1 → B o0 v5 v6 μ))
def x_X4_samplesOfSweeps_L4 (K : Int32 → Mem → Prop) : Nat → Nat → Int32 → Int32 → Mem → Prop
  | 0 => fun _ _ _ _ => False
  | n + 1 => fun o0 a1 a2 μ => xb_X4_samplesOfSweeps_L4 K (x_X4_samplesOfSweeps_L4 K n) o0 a1 a2 μ
set_option maxRecDepth 20000 in
theorem wb_X4_samplesOfSweeps_L4 {p : Program} {l : Launch} {e : Env} {s : State} {m : MethodId} {args : Array Value} {below : List Frame} {meth : Method} {c : Code} {D : va_G} {Y : Nat → ClassId} {ad : Nat → Nat} (C0 : CX D Y ad (PA ad) rm_X4_samplesOfSweeps 0 0 p s args m c cX4_samplesOfSweeps 3 RX4 wsX4_samplesOfSweeps) (hlk : meth.locks = false) (hret : meth.sig.returnType = (some .int)) (o0 : Nat) (a1 : Int32) (a2 : Int32) (μ : Mem) (K : Int32 → Mem → Prop) (B : Nat → Int32 → Int32 → Mem → Prop) (hB : ∀ (o0 : Nat) (a1 : Int32) (a2 : Int32) (μ : Mem), kd o0 = 4 → B o0 a1 a2 μ → J p l e rm_X4_samplesOfSweeps s m args below meth c D Y ad (PA ad) 0 0 3 (MQ below (va_Qi K (BB D Y ad) (PA ad)) args s 0 0 (PA ad)) 4 [(0, .ref (ad o0)), (1, .int a1), (2, .int a2)] [] μ) (ho0 : kd o0 = 4) (hX : xb_X4_samplesOfSweeps_L4 K B o0 a1 a2 μ) : J p l e rm_X4_samplesOfSweeps s m args below meth c D Y ad (PA ad) 0 0 3 (MQ below (va_Qi K (BB D Y ad) (PA ad)) args s 0 0 (PA ad)) 4 [(0, .ref (ad o0)), (1, .int a1), (2, .int a2)] [] μ := by
  refine j_iload_n C0 2 dX4_samplesOfSweeps_4 rfl rfl rfl ?_
  refine j_aload_n C0 0 dX4_samplesOfSweeps_5 rfl rfl rfl ?_
  refine j_get4 C0 (v := .int (μ o0 5)) 5 ho0 fw_X4_samplesOfSweeps_4 hw_X4_samplesOfSweeps_0 (fun _ h9 => h9) (by decide) rfl dX4_samplesOfSweeps_6 rfl ?_
  refine j_icmp_ge C0 (tgt := 32) dX4_samplesOfSweeps_9 (by decide) rfl (fun c1 => ?_) (fun c1 => ?_)
  · have hX := hX.1 c1
    exact j_sub (l' := [(0, .ref (ad o0)), (1, .int a1)]) [0, 1] rfl (w_X4_samplesOfSweeps_L32 C0 hlk hret o0 a1 μ K ho0 hX)
  · have hX := hX.2 c1
    refine j_iload_n C0 2 dX4_samplesOfSweeps_12 rfl rfl rfl ?_
    refine j_iconst C0 4 dX4_samplesOfSweeps_13 (by decide) rfl ?_
    refine j_icmp_ge C0 (tgt := 32) dX4_samplesOfSweeps_14 (by decide) rfl (fun c3 => ?_) (fun c3 => ?_)
    · have hX := hX.1 c3
      exact j_sub (l' := [(0, .ref (ad o0)), (1, .int a1)]) [0, 1] rfl (w_X4_samplesOfSweeps_L32 C0 hlk hret o0 a1 μ K ho0 hX)
    · have hX := hX.2 c3
      refine j_iload_n C0 1 dX4_samplesOfSweeps_17 rfl rfl rfl ?_
      refine j_aload_n C0 0 dX4_samplesOfSweeps_18 rfl rfl rfl ?_
      refine j_get4 C0 (v := .ref (ad (o0 + 2))) 7 ho0 fw_X4_samplesOfSweeps_4 hw_X4_samplesOfSweeps_2 (fun _ h9 => h9) (by decide) rfl dX4_samplesOfSweeps_19 rfl ?_
      refine j_iload_n C0 2 dX4_samplesOfSweeps_22 rfl rfl rfl ?_
      obtain ⟨h4, hX⟩ := hX
      refine j_iald C0 (n := 4) (kd_lt (kd_4l ho0) (by decide)) (ce12 (kd_4l ho0)) h4 dX4_samplesOfSweeps_23 rfl ?_
      refine j_iadd C0 dX4_samplesOfSweeps_24 rfl ?_
      refine j_topi (fun v5 e_v5 => ?_)
      have hX := hX v5 e_v5
      refine j_istore_n C0 [(1, .int v5), (0, .ref (ad o0)), (2, .int a2)] dX4_samplesOfSweeps_25 rfl (by decide) rfl rfl ?_
      obtain ⟨v6, e_v6⟩ : ∃ z : Int32, z = a2 + 1 := ⟨_, rfl⟩
      have hX := hX v6 e_v6
      refine j_iinc C0 2 v6 [(2, .int v6), (1, .int v5), (0, .ref (ad o0))] dX4_samplesOfSweeps_26 rfl (by rw [e_v6]; rfl) (by decide) rfl rfl ?_
      refine j_goto C0 (tgt := 4) dX4_samplesOfSweeps_29 (by decide) ?_
      exact j_sub (l' := [(0, .ref (ad o0)), (1, .int v5), (2, .int v6)]) [2, 1, 0] rfl (hB o0 v5 v6 μ ho0 hX)
theorem w_X4_samplesOfSweeps_L4 {p : Program} {l : Launch} {e : Env} {s : State} {m : MethodId} {args : Array Value} {below : List Frame} {meth : Method} {c : Code} {D : va_G} {Y : Nat → ClassId} {ad : Nat → Nat} (C0 : CX D Y ad (PA ad) rm_X4_samplesOfSweeps 0 0 p s args m c cX4_samplesOfSweeps 3 RX4 wsX4_samplesOfSweeps) (hlk : meth.locks = false) (hret : meth.sig.returnType = (some .int)) (K : Int32 → Mem → Prop) : ∀ (n : Nat) (o0 : Nat) (a1 : Int32) (a2 : Int32) (μ : Mem) (ho0 : kd o0 = 4) (hX : x_X4_samplesOfSweeps_L4 K n o0 a1 a2 μ), J p l e rm_X4_samplesOfSweeps s m args below meth c D Y ad (PA ad) 0 0 3 (MQ below (va_Qi K (BB D Y ad) (PA ad)) args s 0 0 (PA ad)) 4 [(0, .ref (ad o0)), (1, .int a1), (2, .int a2)] [] μ
  | 0, o0, a1, a2, μ, ho0, hX => hX.elim
  | n + 1, o0, a1, a2, μ, ho0, hX => wb_X4_samplesOfSweeps_L4 C0 hlk hret o0 a1 a2 μ K (x_X4_samplesOfSweeps_L4 K n) (fun o0 a1 a2 μ ho0 hx => w_X4_samplesOfSweeps_L4 C0 hlk hret K n o0 a1 a2 μ ho0 hx) ho0 hX
def x_X4_samplesOfSweeps (o0 : Nat) (μ : Mem) (K : Int32 → Mem → Prop) : Prop :=
  ∃ n : Nat, x_X4_samplesOfSweeps_L4 K n o0 0 0 μ
set_option maxRecDepth 20000 in
theorem w_X4_samplesOfSweeps {p : Program} {l : Launch} {e : Env} {s : State} {m : MethodId} {args : Array Value} {below : List Frame} {meth : Method} {c : Code} {D : va_G} {Y : Nat → ClassId} {ad : Nat → Nat} (C0 : CX D Y ad (PA ad) rm_X4_samplesOfSweeps 0 0 p s args m c cX4_samplesOfSweeps 3 RX4 wsX4_samplesOfSweeps) (hlk : meth.locks = false) (hret : meth.sig.returnType = (some .int)) (o0 : Nat) (μ : Mem) (K : Int32 → Mem → Prop) (ho0 : kd o0 = 4) (hX : x_X4_samplesOfSweeps o0 μ K) : J p l e rm_X4_samplesOfSweeps s m args below meth c D Y ad (PA ad) 0 0 3 (MQ below (va_Qi K (BB D Y ad) (PA ad)) args s 0 0 (PA ad)) 0 [(0, .ref (ad o0))] [] μ := by
  refine j_iconst C0 0 dX4_samplesOfSweeps_0 (by decide) rfl ?_
  refine j_istore_n C0 [(1, .int 0), (0, .ref (ad o0))] dX4_samplesOfSweeps_1 rfl (by decide) rfl rfl ?_
  refine j_iconst C0 0 dX4_samplesOfSweeps_2 (by decide) rfl ?_
  refine j_istore_n C0 [(2, .int 0), (1, .int 0), (0, .ref (ad o0))] dX4_samplesOfSweeps_3 rfl (by decide) rfl rfl ?_
  obtain ⟨n, hX⟩ := hX
  exact j_sub (l' := [(0, .ref (ad o0)), (1, .int 0), (2, .int 0)]) [2, 1, 0] rfl (w_X4_samplesOfSweeps_L4 C0 hlk hret K n o0 0 0 μ ho0 hX)
theorem c_X4_samplesOfSweeps {l : Launch} {D : va_G} {Y : Nat → ClassId} {ad : Nat → Nat} (o0 : Nat) {μ : Mem} {K : Int32 → Mem → Prop} (ho0 : kd o0 = 4) (hX : x_X4_samplesOfSweeps o0 μ K) : ConI l yX4_samplesOfSweeps wsX4_samplesOfSweeps rm_X4_samplesOfSweeps [.ref (ad o0)] D Y ad μ K := conI_of (cc := cX4_samplesOfSweeps) (maxL := 3) (ret := (some .int)) (own := RX4) _ (by decide +kernel) rfl rfl (Nat.le_of_ble_eq_true rfl) (fun p e s m args below meth c C0 hlk hret => j_sub (l' := [(0, .ref (ad o0))]) [0] rfl (w_X4_samplesOfSweeps C0 hlk hret o0 μ K ho0 hX))
/-! PhaseTones$Wheel.lastStep()I -/
abbrev rm_X4_lastStep : Room := rmf 0 0
theorem fw_X4_lastStep_4 : ∀ w ∈ wsX40, w ∈ wsX4_lastStep := by decide +kernel
theorem hw_X4_lastStep_0 : Cond.fieldLink RX4 35 RX4 (TX4 5).2.1 (TX4 5).2.2.1 ∈ wsX4_lastStep := by decide +kernel
theorem hw_X4_lastStep_1 : Cond.fieldLink RX4 9 RX4 (TX4 1).2.1 (TX4 1).2.2.1 ∈ wsX4_lastStep := by decide +kernel
theorem hw_X4_lastStep_2 : Cond.fieldLink RX4 18 RX4 (TX4 6).2.1 (TX4 6).2.2.1 ∈ wsX4_lastStep := by decide +kernel
def x_X4_lastStep (o0 : Nat) (μ : Mem) (K : Int32 → Mem → Prop) : Prop :=
  ((μ o0 5) ≤ 0 → K (μ o0 1) μ) ∧ (¬ ((μ o0 5) ≤ 0) → (4 < (μ o0 5) → K (μ o0 1) μ) ∧ (¬ (4 < (μ o0 5)) → vp_in ((μ o0 5) - 1) 4 ∧ K (μ (o0 + 1) ((μ o0 5) - 1).toNatClampNeg) μ))
set_option maxRecDepth 20000 in
theorem w_X4_lastStep {p : Program} {l : Launch} {e : Env} {s : State} {m : MethodId} {args : Array Value} {below : List Frame} {meth : Method} {c : Code} {D : va_G} {Y : Nat → ClassId} {ad : Nat → Nat} (C0 : CX D Y ad (PA ad) rm_X4_lastStep 0 0 p s args m c cX4_lastStep 1 RX4 wsX4_lastStep) (hlk : meth.locks = false) (hret : meth.sig.returnType = (some .int)) (o0 : Nat) (μ : Mem) (K : Int32 → Mem → Prop) (ho0 : kd o0 = 4) (hX : x_X4_lastStep o0 μ K) : J p l e rm_X4_lastStep s m args below meth c D Y ad (PA ad) 0 0 1 (MQ below (va_Qi K (BB D Y ad) (PA ad)) args s 0 0 (PA ad)) 0 [(0, .ref (ad o0))] [] μ := by
  refine j_aload_n C0 0 dX4_lastStep_0 rfl rfl rfl ?_
  refine j_get4 C0 (v := .int (μ o0 5)) 5 ho0 fw_X4_lastStep_4 hw_X4_lastStep_0 (fun _ h9 => h9) (by decide) rfl dX4_lastStep_1 rfl ?_
  refine j_if_le C0 (tgt := 29) dX4_lastStep_4 (by decide) rfl (fun c1 => ?_) (fun c1 => ?_)
  · have hX := hX.1 c1
    refine j_aload_n C0 0 dX4_lastStep_29 rfl rfl rfl ?_
    refine j_get4 C0 (v := .int (μ o0 1)) 1 ho0 fw_X4_lastStep_4 hw_X4_lastStep_1 (fun _ h9 => h9) (by decide) rfl dX4_lastStep_30 rfl ?_
    exact j_iret C0 hlk hret dX4_lastStep_33 hX
  · have hX := hX.2 c1
    refine j_aload_n C0 0 dX4_lastStep_7 rfl rfl rfl ?_
    refine j_get4 C0 (v := .int (μ o0 5)) 5 ho0 fw_X4_lastStep_4 hw_X4_lastStep_0 (fun _ h9 => h9) (by decide) rfl dX4_lastStep_8 rfl ?_
    refine j_iconst C0 4 dX4_lastStep_11 (by decide) rfl ?_
    refine j_icmp_gt C0 (tgt := 29) dX4_lastStep_12 (by decide) rfl (fun c2 => ?_) (fun c2 => ?_)
    · have hX := hX.1 c2
      refine j_aload_n C0 0 dX4_lastStep_29 rfl rfl rfl ?_
      refine j_get4 C0 (v := .int (μ o0 1)) 1 ho0 fw_X4_lastStep_4 hw_X4_lastStep_1 (fun _ h9 => h9) (by decide) rfl dX4_lastStep_30 rfl ?_
      exact j_iret C0 hlk hret dX4_lastStep_33 hX
    · have hX := hX.2 c2
      refine j_aload_n C0 0 dX4_lastStep_15 rfl rfl rfl ?_
      refine j_get4 C0 (v := .ref (ad (o0 + 1))) 6 ho0 fw_X4_lastStep_4 hw_X4_lastStep_2 (fun _ h9 => h9) (by decide) rfl dX4_lastStep_16 rfl ?_
      refine j_aload_n C0 0 dX4_lastStep_19 rfl rfl rfl ?_
      refine j_get4 C0 (v := .int (μ o0 5)) 5 ho0 fw_X4_lastStep_4 hw_X4_lastStep_0 (fun _ h9 => h9) (by decide) rfl dX4_lastStep_20 rfl ?_
      refine j_iconst C0 1 dX4_lastStep_23 (by decide) rfl ?_
      refine j_isub C0 dX4_lastStep_24 rfl ?_
      obtain ⟨h3, hX⟩ := hX
      refine j_iald C0 (n := 4) (kd_lt (kd_4e ho0) (by decide)) (ce12 (kd_4e ho0)) h3 dX4_lastStep_25 rfl ?_
      refine j_goto C0 (tgt := 33) dX4_lastStep_26 (by decide) ?_
      exact j_iret C0 hlk hret dX4_lastStep_33 hX
theorem c_X4_lastStep {l : Launch} {D : va_G} {Y : Nat → ClassId} {ad : Nat → Nat} (o0 : Nat) {μ : Mem} {K : Int32 → Mem → Prop} (ho0 : kd o0 = 4) (hX : x_X4_lastStep o0 μ K) : ConI l yX4_lastStep wsX4_lastStep rm_X4_lastStep [.ref (ad o0)] D Y ad μ K := conI_of (cc := cX4_lastStep) (maxL := 1) (ret := (some .int)) (own := RX4) _ (by decide +kernel) rfl rfl (Nat.le_of_ble_eq_true rfl) (fun p e s m args below meth c C0 hlk hret => j_sub (l' := [(0, .ref (ad o0))]) [0] rfl (w_X4_lastStep C0 hlk hret o0 μ K ho0 hX))
/-! PhaseTones$Wheel.goRound()I -/
abbrev rm_X4_goRound : Room := rmf 3 62
theorem fw_X4_goRound_4 : ∀ w ∈ wsX40, w ∈ wsX4_goRound := by decide +kernel
theorem hw_X4_goRound_0 : Cond.fieldLink RX4 35 RX4 (TX4 5).2.1 (TX4 5).2.2.1 ∈ wsX4_goRound := by decide +kernel
theorem hw_X4_goRound_1 : Cond.fieldLink RX4 9 RX4 (TX4 1).2.1 (TX4 1).2.2.1 ∈ wsX4_goRound := by decide +kernel
theorem hw_X4_goRound_2 : Cond.constant RX4 65 (65535) ∈ wsX4_goRound := by decide +kernel
theorem hw_X4_goRound_3 : Cond.fieldLink RX4 25 RX4 (TX4 0).2.1 (TX4 0).2.2.1 ∈ wsX4_goRound := by decide +kernel
theorem hw_X4_goRound_4 : Cond.constant RX4 61 (70000) ∈ wsX4_goRound := by decide +kernel
def x_X4_goRound_L40 (K : Int32 → Mem → Prop) (o0 : Nat) (a1 : Int32) (μ : Mem) : Prop :=
  ((μ o0 1) = 0 → K (-6) μ) ∧ (¬ ((μ o0 1) = 0) → ¬ (μ o0 1) = 0 ∧ ∀ v4 : Int32, v4 = (a1 + ((((65535 : Int32) - (μ o0 0)) / (μ o0 1)) + 1)) → (70000 < v4 → K (-6) μ) ∧ (¬ (70000 < v4) → K v4 μ))
set_option maxRecDepth 20000 in
theorem w_X4_goRound_L40 {p : Program} {l : Launch} {e : Env} {s : State} {m : MethodId} {args : Array Value} {below : List Frame} {meth : Method} {c : Code} {D : va_G} {Y : Nat → ClassId} {ad : Nat → Nat} (C0 : CX D Y ad (PA ad) rm_X4_goRound 0 0 p s args m c cX4_goRound 3 RX4 wsX4_goRound) (hlk : meth.locks = false) (hret : meth.sig.returnType = (some .int)) (o0 : Nat) (a1 : Int32) (μ : Mem) (K : Int32 → Mem → Prop) (ho0 : kd o0 = 4) (hX : x_X4_goRound_L40 K o0 a1 μ) : J p l e rm_X4_goRound s m args below meth c D Y ad (PA ad) 0 0 3 (MQ below (va_Qi K (BB D Y ad) (PA ad)) args s 0 0 (PA ad)) 40 [(0, .ref (ad o0)), (1, .int a1)] [] μ := by
  refine j_aload_n C0 0 dX4_goRound_40 rfl rfl rfl ?_
  refine j_get4 C0 (v := .int (μ o0 1)) 1 ho0 fw_X4_goRound_4 hw_X4_goRound_1 (fun _ h9 => h9) (by decide) rfl dX4_goRound_41 rfl ?_
  refine j_if_ne C0 (tgt := 50) dX4_goRound_44 (by decide) rfl (fun c2 => ?_) (fun c2 => ?_)
  · have hX := hX.1 c2
    refine j_bipush C0 (-6) dX4_goRound_47 (by decide) rfl ?_
    exact j_iret C0 hlk hret dX4_goRound_49 hX
  · have hX := hX.2 c2
    refine j_iload_n C0 1 dX4_goRound_50 rfl rfl rfl ?_
    refine j_ldc C0 65535 dX4_goRound_51 hw_X4_goRound_2 rfl ?_
    refine j_aload_n C0 0 dX4_goRound_53 rfl rfl rfl ?_
    refine j_get4 C0 (v := .int (μ o0 0)) 0 ho0 fw_X4_goRound_4 hw_X4_goRound_3 (fun _ h9 => h9) (by decide) rfl dX4_goRound_54 rfl ?_
    refine j_isub C0 dX4_goRound_57 rfl ?_
    refine j_aload_n C0 0 dX4_goRound_58 rfl rfl rfl ?_
    refine j_get4 C0 (v := .int (μ o0 1)) 1 ho0 fw_X4_goRound_4 hw_X4_goRound_1 (fun _ h9 => h9) (by decide) rfl dX4_goRound_59 rfl ?_
    obtain ⟨h3, hX⟩ := hX
    refine j_idiv C0 dX4_goRound_62 h3 rfl ?_
    refine j_iconst C0 1 dX4_goRound_63 (by decide) rfl ?_
    refine j_iadd C0 dX4_goRound_64 rfl ?_
    refine j_iadd C0 dX4_goRound_65 rfl ?_
    refine j_topi (fun v4 e_v4 => ?_)
    have hX := hX v4 e_v4
    refine j_istore_n C0 [(1, .int v4), (0, .ref (ad o0))] dX4_goRound_66 rfl (by decide) rfl rfl ?_
    refine j_iload_n C0 0 dX4_goRound_67 rfl rfl rfl ?_
    refine j_ldc C0 70000 dX4_goRound_68 hw_X4_goRound_4 rfl ?_
    refine j_icmp_gt C0 (tgt := 77) dX4_goRound_70 (by decide) rfl (fun c5 => ?_) (fun c5 => ?_)
    · have hX := hX.1 c5
      refine j_bipush C0 (-6) dX4_goRound_77 (by decide) rfl ?_
      exact j_iret C0 hlk hret dX4_goRound_79 hX
    · have hX := hX.2 c5
      refine j_iload_n C0 0 dX4_goRound_73 rfl rfl rfl ?_
      refine j_goto C0 (tgt := 79) dX4_goRound_74 (by decide) ?_
      exact j_iret C0 hlk hret dX4_goRound_79 hX
def xb_X4_goRound_L2 (K : Int32 → Mem → Prop) (B : Nat → Int32 → Mem → Prop) (o0 : Nat) (a1 : Int32) (μ : Mem) : Prop :=
  ((μ o0 5) ≤ 0 → x_X4_goRound_L40 K o0 a1 μ) ∧ (¬ ((μ o0 5) ≤ 0) → (70000 ≤ a1 → x_X4_goRound_L40 K o0 a1 μ) ∧ (¬ (70000 ≤ a1) → ∀ v7 : Int32, v7 = (μ o0 0) → x_X4_goOn o0 μ (fun μ8 => ∀ v9 : Int32, v9 = a1 + 1 → (v7 ≤ (μ8 o0 0) → B o0 v9 μ8) ∧ (¬ (v7 ≤ (μ8 o0 0)) → K v9 μ8))))
def x_X4_goRound_L2 (K : Int32 → Mem → Prop) : Nat → Nat → Int32 → Mem → Prop
  | 0 => fun _ _ _ => False
  | n + 1 => fun o0 a1 μ => xb_X4_goRound_L2 K (x_X4_goRound_L2 K n) o0 a1 μ
set_option maxRecDepth 20000 in
theorem wb_X4_goRound_L2 {p : Program} {l : Launch} {e : Env} {s : State} {m : MethodId} {args : Array Value} {below : List Frame} {meth : Method} {c : Code} {D : va_G} {Y : Nat → ClassId} {ad : Nat → Nat} (C0 : CX D Y ad (PA ad) rm_X4_goRound 0 0 p s args m c cX4_goRound 3 RX4 wsX4_goRound) (hlk : meth.locks = false) (hret : meth.sig.returnType = (some .int)) (o0 : Nat) (a1 : Int32) (μ : Mem) (K : Int32 → Mem → Prop) (B : Nat → Int32 → Mem → Prop) (hB : ∀ (o0 : Nat) (a1 : Int32) (μ : Mem), kd o0 = 4 → B o0 a1 μ → J p l e rm_X4_goRound s m args below meth c D Y ad (PA ad) 0 0 3 (MQ below (va_Qi K (BB D Y ad) (PA ad)) args s 0 0 (PA ad)) 2 [(0, .ref (ad o0)), (1, .int a1)] [] μ) (ho0 : kd o0 = 4) (hX : xb_X4_goRound_L2 K B o0 a1 μ) : J p l e rm_X4_goRound s m args below meth c D Y ad (PA ad) 0 0 3 (MQ below (va_Qi K (BB D Y ad) (PA ad)) args s 0 0 (PA ad)) 2 [(0, .ref (ad o0)), (1, .int a1)] [] μ := by
  refine j_aload_n C0 0 dX4_goRound_2 rfl rfl rfl ?_
  refine j_get4 C0 (v := .int (μ o0 5)) 5 ho0 fw_X4_goRound_4 hw_X4_goRound_0 (fun _ h9 => h9) (by decide) rfl dX4_goRound_3 rfl ?_
  refine j_if_le C0 (tgt := 40) dX4_goRound_6 (by decide) rfl (fun c1 => ?_) (fun c1 => ?_)
  · have hX := hX.1 c1
    exact j_sub (l' := [(0, .ref (ad o0)), (1, .int a1)]) [0, 1] rfl (w_X4_goRound_L40 C0 hlk hret o0 a1 μ K ho0 hX)
  · have hX := hX.2 c1
    refine j_iload_n C0 1 dX4_goRound_9 rfl rfl rfl ?_
    refine j_ldc C0 70000 dX4_goRound_10 hw_X4_goRound_4 rfl ?_
    refine j_icmp_ge C0 (tgt := 40) dX4_goRound_12 (by decide) rfl (fun c6 => ?_) (fun c6 => ?_)
    · have hX := hX.1 c6
      exact j_sub (l' := [(0, .ref (ad o0)), (1, .int a1)]) [0, 1] rfl (w_X4_goRound_L40 C0 hlk hret o0 a1 μ K ho0 hX)
    · have hX := hX.2 c6
      refine j_aload_n C0 0 dX4_goRound_15 rfl rfl rfl ?_
      refine j_get4 C0 (v := .int (μ o0 0)) 0 ho0 fw_X4_goRound_4 hw_X4_goRound_3 (fun _ h9 => h9) (by decide) rfl dX4_goRound_16 rfl ?_
      refine j_topi (fun v7 e_v7 => ?_)
      have hX := hX v7 e_v7
      refine j_istore_n C0 [(2, .int v7), (0, .ref (ad o0)), (1, .int a1)] dX4_goRound_19 rfl (by decide) rfl rfl ?_
      refine j_aload_n C0 1 dX4_goRound_20 rfl rfl rfl ?_
      refine j_callVv C0 0 [] (c_X4_goOn o0 ho0 hX) dX4_goRound_21 gX4_goRound_X4_goOn rfl (by decide +kernel) ⟨⟨Nat.le_of_ble_eq_true rfl, Nat.le_of_ble_eq_true rfl⟩, rfl, rfl⟩ (kd_lt ho0 (by decide)) (ce4 ho0) rfl rfl rfl (Nat.le_of_ble_eq_true rfl) rfl (fun μ8 hX => ?_)
      obtain ⟨v9, e_v9⟩ : ∃ z : Int32, z = a1 + 1 := ⟨_, rfl⟩
      have hX := hX v9 e_v9
      refine j_iinc C0 2 v9 [(1, .int v9), (2, .int v7), (0, .ref (ad o0))] dX4_goRound_24 rfl (by rw [e_v9]; rfl) (by decide) rfl rfl ?_
      refine j_aload_n C0 2 dX4_goRound_27 rfl rfl rfl ?_
      refine j_get4 C0 (v := .int (μ8 o0 0)) 0 ho0 fw_X4_goRound_4 hw_X4_goRound_3 (fun _ h9 => h9) (by decide) rfl dX4_goRound_28 rfl ?_
      refine j_iload_n C0 1 dX4_goRound_31 rfl rfl rfl ?_
      refine j_icmp_ge C0 (tgt := 37) dX4_goRound_32 (by decide) rfl (fun c10 => ?_) (fun c10 => ?_)
      · have hX := hX.1 c10
        refine j_goto C0 (tgt := 2) dX4_goRound_37 (by decide) ?_
        exact j_sub (l' := [(0, .ref (ad o0)), (1, .int v9)]) [2, 0] rfl (hB o0 v9 μ8 ho0 hX)
      · have hX := hX.2 c10
        refine j_iload_n C0 0 dX4_goRound_35 rfl rfl rfl ?_
        exact j_iret C0 hlk hret dX4_goRound_36 hX
theorem w_X4_goRound_L2 {p : Program} {l : Launch} {e : Env} {s : State} {m : MethodId} {args : Array Value} {below : List Frame} {meth : Method} {c : Code} {D : va_G} {Y : Nat → ClassId} {ad : Nat → Nat} (C0 : CX D Y ad (PA ad) rm_X4_goRound 0 0 p s args m c cX4_goRound 3 RX4 wsX4_goRound) (hlk : meth.locks = false) (hret : meth.sig.returnType = (some .int)) (K : Int32 → Mem → Prop) : ∀ (n : Nat) (o0 : Nat) (a1 : Int32) (μ : Mem) (ho0 : kd o0 = 4) (hX : x_X4_goRound_L2 K n o0 a1 μ), J p l e rm_X4_goRound s m args below meth c D Y ad (PA ad) 0 0 3 (MQ below (va_Qi K (BB D Y ad) (PA ad)) args s 0 0 (PA ad)) 2 [(0, .ref (ad o0)), (1, .int a1)] [] μ
  | 0, o0, a1, μ, ho0, hX => hX.elim
  | n + 1, o0, a1, μ, ho0, hX => wb_X4_goRound_L2 C0 hlk hret o0 a1 μ K (x_X4_goRound_L2 K n) (fun o0 a1 μ ho0 hx => w_X4_goRound_L2 C0 hlk hret K n o0 a1 μ ho0 hx) ho0 hX
def x_X4_goRound (o0 : Nat) (μ : Mem) (K : Int32 → Mem → Prop) : Prop :=
  ∃ n : Nat, x_X4_goRound_L2 K n o0 0 μ
set_option maxRecDepth 20000 in
theorem w_X4_goRound {p : Program} {l : Launch} {e : Env} {s : State} {m : MethodId} {args : Array Value} {below : List Frame} {meth : Method} {c : Code} {D : va_G} {Y : Nat → ClassId} {ad : Nat → Nat} (C0 : CX D Y ad (PA ad) rm_X4_goRound 0 0 p s args m c cX4_goRound 3 RX4 wsX4_goRound) (hlk : meth.locks = false) (hret : meth.sig.returnType = (some .int)) (o0 : Nat) (μ : Mem) (K : Int32 → Mem → Prop) (ho0 : kd o0 = 4) (hX : x_X4_goRound o0 μ K) : J p l e rm_X4_goRound s m args below meth c D Y ad (PA ad) 0 0 3 (MQ below (va_Qi K (BB D Y ad) (PA ad)) args s 0 0 (PA ad)) 0 [(0, .ref (ad o0))] [] μ := by
  refine j_iconst C0 0 dX4_goRound_0 (by decide) rfl ?_
  refine j_istore_n C0 [(1, .int 0), (0, .ref (ad o0))] dX4_goRound_1 rfl (by decide) rfl rfl ?_
  obtain ⟨n, hX⟩ := hX
  exact j_sub (l' := [(0, .ref (ad o0)), (1, .int 0)]) [1, 0] rfl (w_X4_goRound_L2 C0 hlk hret K n o0 0 μ ho0 hX)
theorem c_X4_goRound {l : Launch} {D : va_G} {Y : Nat → ClassId} {ad : Nat → Nat} (o0 : Nat) {μ : Mem} {K : Int32 → Mem → Prop} (ho0 : kd o0 = 4) (hX : x_X4_goRound o0 μ K) : ConI l yX4_goRound wsX4_goRound rm_X4_goRound [.ref (ad o0)] D Y ad μ K := conI_of (cc := cX4_goRound) (maxL := 3) (ret := (some .int)) (own := RX4) _ (by decide +kernel) rfl rfl (Nat.le_of_ble_eq_true rfl) (fun p e s m args below meth c C0 hlk hret => j_sub (l' := [(0, .ref (ad o0))]) [0] rfl (w_X4_goRound C0 hlk hret o0 μ K ho0 hX))
/-! PhaseTones$Sound.takeOver(LPhaseTones$Sound;)V -/
abbrev rm_X3_takeOver : Room := rmf 2 41
theorem fw_X3_takeOver_3 : ∀ w ∈ wsX30, w ∈ wsX3_takeOver := by decide +kernel
theorem hw_X3_takeOver_0 : Cond.fieldLink RX3 9 RX3 (TX3 0).2.1 (TX3 0).2.2.1 ∈ wsX3_takeOver := by decide +kernel
theorem hw_X3_takeOver_1 : Cond.fieldLink RX3 15 RX3 (TX3 1).2.1 (TX3 1).2.2.1 ∈ wsX3_takeOver := by decide +kernel
theorem hw_X3_takeOver_2 : Cond.methodLink RX3 33 arraycopyName ∈ wsX3_takeOver := by decide +kernel
theorem hw_X3_takeOver_3 : Cond.native arraycopyName ∈ wsX3_takeOver := by decide +kernel
theorem hw_X3_takeOver_4 : Cond.static arraycopyName ∈ wsX3_takeOver := by decide +kernel
theorem hw_X3_takeOver_5 : Cond.initialized "java/lang/System" ∈ wsX3_takeOver := by decide +kernel
theorem hw_X3_takeOver_6 : Cond.fieldLink RX3 43 RX3 (TX3 3).2.1 (TX3 3).2.2.1 ∈ wsX3_takeOver := by decide +kernel
theorem hw_X3_takeOver_7 : Cond.fieldLink RX3 46 RX3 (TX3 4).2.1 (TX3 4).2.2.1 ∈ wsX3_takeOver := by decide +kernel
theorem hw_X3_takeOver_8 : Cond.fieldLink RX3 49 RX3 (TX3 5).2.1 (TX3 5).2.2.1 ∈ wsX3_takeOver := by decide +kernel
theorem hw_X3_takeOver_9 : Cond.fieldLink RX3 52 RX3 (TX3 6).2.1 (TX3 6).2.2.1 ∈ wsX3_takeOver := by decide +kernel
theorem hw_X3_takeOver_10 : Cond.fieldLink RX3 25 RX3 (TX3 7).2.1 (TX3 7).2.2.1 ∈ wsX3_takeOver := by decide +kernel
theorem hw_X3_takeOver_11 : Cond.fieldLink RX3 21 RX3 (TX3 2).2.1 (TX3 2).2.2.1 ∈ wsX3_takeOver := by decide +kernel
def xb_X3_takeOver_L25 (K : Mem → Prop) (B : Nat → Nat → Int32 → Mem → Prop) (o0 : Nat) (o1 : Nat) (a2 : Int32) (μ : Mem) : Prop :=
  (4 ≤ a2 → ∀ μ4 : Mem, μ4 = um μ o0 (upd (μ o0) 3 (μ o1 3)) → ∀ μ5 : Mem, μ5 = um μ4 o0 (upd (μ4 o0) 4 (μ4 o1 4)) → ∀ μ6 : Mem, μ6 = um μ5 o0 (upd (μ5 o0) 5 (μ5 o1 5)) → ∀ μ7 : Mem, μ7 = um μ6 o0 (upd (μ6 o0) 6 (μ6 o1 6)) → ∀ μ8 : Mem, μ8 = um μ7 (o0 + 3) (va_cpy (μ7 (o1 + 3)) (μ7 (o0 + 3)) 0 0 32) → K μ8) ∧ (¬ (4 ≤ a2) → vp_in a2 4 ∧ vp_in a2 4 ∧ x_X4_takeOver (o0 + 4 + 3 * a2.toNatClampNeg) (o1 + 4 + 3 * a2.toNatClampNeg) μ (fun μ11 => ∀ v12 : Int32, v12 = a2 + 1 → B o0 o1 v12 μ11))
def x_X3_takeOver_L25 (K : Mem → Prop) : Nat → Nat → Nat → Int32 → Mem → Prop
  | 0 => fun _ _ _ _ => False
  | n + 1 => fun o0 o1 a2 μ => xb_X3_takeOver_L25 K (x_X3_takeOver_L25 K n) o0 o1 a2 μ
set_option maxRecDepth 20000 in
theorem wb_X3_takeOver_L25 {p : Program} {l : Launch} {e : Env} {s : State} {m : MethodId} {args : Array Value} {below : List Frame} {meth : Method} {c : Code} {D : va_G} {Y : Nat → ClassId} {ad : Nat → Nat} (C0 : CX D Y ad (PA ad) rm_X3_takeOver 0 0 p s args m c cX3_takeOver 3 RX3 wsX3_takeOver) (hlk : meth.locks = false) (hret : meth.sig.returnType = none) (o0 : Nat) (o1 : Nat) (a2 : Int32) (μ : Mem) (K : Mem → Prop) (B : Nat → Nat → Int32 → Mem → Prop) (hB : ∀ (o0 : Nat) (o1 : Nat) (a2 : Int32) (μ : Mem), kd o0 = 3 → kd o1 = 3 → B o0 o1 a2 μ → J p l e rm_X3_takeOver s m args below meth c D Y ad (PA ad) 0 0 3 (MQ below (va_Qv K (BB D Y ad) (PA ad)) args s 0 0 (PA ad)) 25 [(0, .ref (ad o0)), (1, .ref (ad o1)), (2, .int a2)] [] μ) (ho0 : kd o0 = 3) (ho1 : kd o1 = 3) (hX : xb_X3_takeOver_L25 K B o0 o1 a2 μ) : J p l e rm_X3_takeOver s m args below meth c D Y ad (PA ad) 0 0 3 (MQ below (va_Qv K (BB D Y ad) (PA ad)) args s 0 0 (PA ad)) 25 [(0, .ref (ad o0)), (1, .ref (ad o1)), (2, .int a2)] [] μ := by
  refine j_iload_n C0 2 dX3_takeOver_25 rfl rfl rfl ?_
  refine j_iconst C0 4 dX3_takeOver_26 (by decide) rfl ?_
  refine j_icmp_ge C0 (tgt := 51) dX3_takeOver_27 (by decide) rfl (fun c3 => ?_) (fun c3 => ?_)
  · have hX := hX.1 c3
    refine j_aload_n C0 0 dX3_takeOver_51 rfl rfl rfl ?_
    refine j_aload_n C0 1 dX3_takeOver_52 rfl rfl rfl ?_
    refine j_get3 C0 (v := .int (μ o1 3)) 3 ho1 fw_X3_takeOver_3 hw_X3_takeOver_6 (fun _ h9 => h9) (by decide) rfl dX3_takeOver_53 rfl ?_
    refine j_put3_3 C0 ho0 fw_X3_takeOver_3 hw_X3_takeOver_6 dX3_takeOver_56 rfl ?_
    refine j_nm (fun μ4 e_μ4 => ?_)
    have hX := hX μ4 e_μ4
    refine j_aload_n C0 0 dX3_takeOver_59 rfl rfl rfl ?_
    refine j_aload_n C0 1 dX3_takeOver_60 rfl rfl rfl ?_
    refine j_get3 C0 (v := .int (μ4 o1 4)) 4 ho1 fw_X3_takeOver_3 hw_X3_takeOver_7 (fun _ h9 => h9) (by decide) rfl dX3_takeOver_61 rfl ?_
    refine j_put3_4 C0 ho0 fw_X3_takeOver_3 hw_X3_takeOver_7 dX3_takeOver_64 rfl ?_
    refine j_nm (fun μ5 e_μ5 => ?_)
    have hX := hX μ5 e_μ5
    refine j_aload_n C0 0 dX3_takeOver_67 rfl rfl rfl ?_
    refine j_aload_n C0 1 dX3_takeOver_68 rfl rfl rfl ?_
    refine j_get3 C0 (v := .int (μ5 o1 5)) 5 ho1 fw_X3_takeOver_3 hw_X3_takeOver_8 (fun _ h9 => h9) (by decide) rfl dX3_takeOver_69 rfl ?_
    refine j_put3_5 C0 ho0 fw_X3_takeOver_3 hw_X3_takeOver_8 dX3_takeOver_72 rfl ?_
    refine j_nm (fun μ6 e_μ6 => ?_)
    have hX := hX μ6 e_μ6
    refine j_aload_n C0 0 dX3_takeOver_75 rfl rfl rfl ?_
    refine j_aload_n C0 1 dX3_takeOver_76 rfl rfl rfl ?_
    refine j_get3 C0 (v := .int (μ6 o1 6)) 6 ho1 fw_X3_takeOver_3 hw_X3_takeOver_9 (fun _ h9 => h9) (by decide) rfl dX3_takeOver_77 rfl ?_
    refine j_put3_6 C0 ho0 fw_X3_takeOver_3 hw_X3_takeOver_9 dX3_takeOver_80 rfl ?_
    refine j_nm (fun μ7 e_μ7 => ?_)
    have hX := hX μ7 e_μ7
    refine j_aload_n C0 1 dX3_takeOver_83 rfl rfl rfl ?_
    refine j_get3 C0 (v := .ref (ad (o1 + 3))) 7 ho1 fw_X3_takeOver_3 hw_X3_takeOver_10 (fun _ h9 => h9) (by decide) rfl dX3_takeOver_84 rfl ?_
    refine j_iconst C0 0 dX3_takeOver_87 (by decide) rfl ?_
    refine j_aload_n C0 0 dX3_takeOver_88 rfl rfl rfl ?_
    refine j_get3 C0 (v := .ref (ad (o0 + 3))) 7 ho0 fw_X3_takeOver_3 hw_X3_takeOver_10 (fun _ h9 => h9) (by decide) rfl dX3_takeOver_89 rfl ?_
    refine j_iconst C0 0 dX3_takeOver_92 (by decide) rfl ?_
    refine j_bipush C0 32 dX3_takeOver_93 (by decide) rfl ?_
    refine j_copyi C0 (n := 32) (n0 := 32) (kd_lt (kd_3l ho1) (by decide)) (kd_lt (kd_3l ho0) (by decide)) (ce11 (kd_3l ho1)) (ce11 (kd_3l ho0)) hw_X3_takeOver_2 hw_X3_takeOver_3 hw_X3_takeOver_4 hw_X3_takeOver_5 (by decide) (by decide) (by decide) (by decide) (by decide) ⟨Nat.le_of_ble_eq_true rfl, Nat.le_of_ble_eq_true rfl⟩ dX3_takeOver_95 rfl ?_
    refine j_nm (fun μ8 e_μ8 => ?_)
    have hX := hX μ8 e_μ8
    exact j_vret C0 hlk hret dX3_takeOver_98 hX
  · have hX := hX.2 c3
    refine j_aload_n C0 0 dX3_takeOver_30 rfl rfl rfl ?_
    refine j_get3 C0 (v := .ref (ad (o0 + 2))) 2 ho0 fw_X3_takeOver_3 hw_X3_takeOver_11 (fun _ h9 => h9) (by decide) rfl dX3_takeOver_31 rfl ?_
    refine j_iload_n C0 2 dX3_takeOver_34 rfl rfl rfl ?_
    obtain ⟨h9, hX⟩ := hX
    refine j_aald C0 (n := 4) (t0 := 4) (o0 + 4 + 3 * a2.toNatClampNeg) (kd_lt (kd_3w ho0) (by decide)) (ce15 (kd_3w ho0)) rfl rfl h9 dX3_takeOver_35 rfl ?_
    refine j_aload_n C0 1 dX3_takeOver_36 rfl rfl rfl ?_
    refine j_get3 C0 (v := .ref (ad (o1 + 2))) 2 ho1 fw_X3_takeOver_3 hw_X3_takeOver_11 (fun _ h9 => h9) (by decide) rfl dX3_takeOver_37 rfl ?_
    refine j_iload_n C0 2 dX3_takeOver_40 rfl rfl rfl ?_
    obtain ⟨h10, hX⟩ := hX
    refine j_aald C0 (n := 4) (t0 := 4) (o1 + 4 + 3 * a2.toNatClampNeg) (kd_lt (kd_3w ho1) (by decide)) (ce15 (kd_3w ho1)) rfl rfl h10 dX3_takeOver_41 rfl ?_
    refine j_callVv C0 1 [.ref (ad (o1 + 4 + 3 * a2.toNatClampNeg))] (c_X4_takeOver (o0 + 4 + 3 * a2.toNatClampNeg) (o1 + 4 + 3 * a2.toNatClampNeg) (kd_3e (o := o0) ho0 (vp_lt h9)) (kd_3e (o := o1) ho1 (vp_lt h10)) hX) dX3_takeOver_42 gX3_takeOver_X4_takeOver rfl (by decide +kernel) ⟨⟨Nat.le_of_ble_eq_true rfl, Nat.le_of_ble_eq_true rfl⟩, rfl, rfl⟩ (kd_lt (kd_3e (o := o0) ho0 (vp_lt h9)) (by decide)) (ce4 (kd_3e (o := o0) ho0 (vp_lt h9))) rfl rfl rfl (Nat.le_of_ble_eq_true rfl) rfl (fun μ11 hX => ?_)
    obtain ⟨v12, e_v12⟩ : ∃ z : Int32, z = a2 + 1 := ⟨_, rfl⟩
    have hX := hX v12 e_v12
    refine j_iinc C0 2 v12 [(2, .int v12), (0, .ref (ad o0)), (1, .ref (ad o1))] dX3_takeOver_45 rfl (by rw [e_v12]; rfl) (by decide) rfl rfl ?_
    refine j_goto C0 (tgt := 25) dX3_takeOver_48 (by decide) ?_
    exact j_sub (l' := [(0, .ref (ad o0)), (1, .ref (ad o1)), (2, .int v12)]) [1, 2, 0] rfl (hB o0 o1 v12 μ11 ho0 ho1 hX)
theorem w_X3_takeOver_L25 {p : Program} {l : Launch} {e : Env} {s : State} {m : MethodId} {args : Array Value} {below : List Frame} {meth : Method} {c : Code} {D : va_G} {Y : Nat → ClassId} {ad : Nat → Nat} (C0 : CX D Y ad (PA ad) rm_X3_takeOver 0 0 p s args m c cX3_takeOver 3 RX3 wsX3_takeOver) (hlk : meth.locks = false) (hret : meth.sig.returnType = none) (K : Mem → Prop) : ∀ (n : Nat) (o0 : Nat) (o1 : Nat) (a2 : Int32) (μ : Mem) (ho0 : kd o0 = 3) (ho1 : kd o1 = 3) (hX : x_X3_takeOver_L25 K n o0 o1 a2 μ), J p l e rm_X3_takeOver s m args below meth c D Y ad (PA ad) 0 0 3 (MQ below (va_Qv K (BB D Y ad) (PA ad)) args s 0 0 (PA ad)) 25 [(0, .ref (ad o0)), (1, .ref (ad o1)), (2, .int a2)] [] μ
  | 0, o0, o1, a2, μ, ho0, ho1, hX => hX.elim
  | n + 1, o0, o1, a2, μ, ho0, ho1, hX => wb_X3_takeOver_L25 C0 hlk hret o0 o1 a2 μ K (x_X3_takeOver_L25 K n) (fun o0 o1 a2 μ ho0 ho1 hx => w_X3_takeOver_L25 C0 hlk hret K n o0 o1 a2 μ ho0 ho1 hx) ho0 ho1 hX
def x_X3_takeOver (o0 : Nat) (o1 : Nat) (μ : Mem) (K : Mem → Prop) : Prop :=
  ∀ μ1 : Mem, μ1 = um μ o0 (upd (μ o0) 0 (μ o1 0)) → ∀ μ2 : Mem, μ2 = um μ1 (o0 + 1) (va_cpy (μ1 (o1 + 1)) (μ1 (o0 + 1)) 0 0 64) → ∃ n : Nat, x_X3_takeOver_L25 K n o0 o1 0 μ2
set_option maxRecDepth 20000 in
theorem w_X3_takeOver {p : Program} {l : Launch} {e : Env} {s : State} {m : MethodId} {args : Array Value} {below : List Frame} {meth : Method} {c : Code} {D : va_G} {Y : Nat → ClassId} {ad : Nat → Nat} (C0 : CX D Y ad (PA ad) rm_X3_takeOver 0 0 p s args m c cX3_takeOver 3 RX3 wsX3_takeOver) (hlk : meth.locks = false) (hret : meth.sig.returnType = none) (o0 : Nat) (o1 : Nat) (μ : Mem) (K : Mem → Prop) (ho0 : kd o0 = 3) (ho1 : kd o1 = 3) (hX : x_X3_takeOver o0 o1 μ K) : J p l e rm_X3_takeOver s m args below meth c D Y ad (PA ad) 0 0 3 (MQ below (va_Qv K (BB D Y ad) (PA ad)) args s 0 0 (PA ad)) 0 [(0, .ref (ad o0)), (1, .ref (ad o1))] [] μ := by
  refine j_aload_n C0 0 dX3_takeOver_0 rfl rfl rfl ?_
  refine j_aload_n C0 1 dX3_takeOver_1 rfl rfl rfl ?_
  refine j_get3 C0 (v := .int (μ o1 0)) 0 ho1 fw_X3_takeOver_3 hw_X3_takeOver_0 (fun _ h9 => h9) (by decide) rfl dX3_takeOver_2 rfl ?_
  refine j_put3_0 C0 ho0 fw_X3_takeOver_3 hw_X3_takeOver_0 dX3_takeOver_5 rfl ?_
  refine j_nm (fun μ1 e_μ1 => ?_)
  have hX := hX μ1 e_μ1
  refine j_aload_n C0 1 dX3_takeOver_8 rfl rfl rfl ?_
  refine j_get3 C0 (v := .ref (ad (o1 + 1))) 1 ho1 fw_X3_takeOver_3 hw_X3_takeOver_1 (fun _ h9 => h9) (by decide) rfl dX3_takeOver_9 rfl ?_
  refine j_iconst C0 0 dX3_takeOver_12 (by decide) rfl ?_
  refine j_aload_n C0 0 dX3_takeOver_13 rfl rfl rfl ?_
  refine j_get3 C0 (v := .ref (ad (o0 + 1))) 1 ho0 fw_X3_takeOver_3 hw_X3_takeOver_1 (fun _ h9 => h9) (by decide) rfl dX3_takeOver_14 rfl ?_
  refine j_iconst C0 0 dX3_takeOver_17 (by decide) rfl ?_
  refine j_bipush C0 64 dX3_takeOver_18 (by decide) rfl ?_
  refine j_copyi C0 (n := 64) (n0 := 64) (kd_lt (kd_3v ho1) (by decide)) (kd_lt (kd_3v ho0) (by decide)) (ce10 (kd_3v ho1)) (ce10 (kd_3v ho0)) hw_X3_takeOver_2 hw_X3_takeOver_3 hw_X3_takeOver_4 hw_X3_takeOver_5 (by decide) (by decide) (by decide) (by decide) (by decide) ⟨Nat.le_of_ble_eq_true rfl, Nat.le_of_ble_eq_true rfl⟩ dX3_takeOver_20 rfl ?_
  refine j_nm (fun μ2 e_μ2 => ?_)
  have hX := hX μ2 e_μ2
  refine j_iconst C0 0 dX3_takeOver_23 (by decide) rfl ?_
  refine j_istore_n C0 [(2, .int 0), (0, .ref (ad o0)), (1, .ref (ad o1))] dX3_takeOver_24 rfl (by decide) rfl rfl ?_
  obtain ⟨n, hX⟩ := hX
  exact j_sub (l' := [(0, .ref (ad o0)), (1, .ref (ad o1)), (2, .int 0)]) [1, 2, 0] rfl (w_X3_takeOver_L25 C0 hlk hret K n o0 o1 0 μ2 ho0 ho1 hX)
theorem c_X3_takeOver {l : Launch} {D : va_G} {Y : Nat → ClassId} {ad : Nat → Nat} (o0 : Nat) (o1 : Nat) {μ : Mem} {K : Mem → Prop} (ho0 : kd o0 = 3) (ho1 : kd o1 = 3) (hX : x_X3_takeOver o0 o1 μ K) : ConV l yX3_takeOver wsX3_takeOver rm_X3_takeOver [.ref (ad o0), .ref (ad o1)] D Y ad μ K := conV_of (cc := cX3_takeOver) (maxL := 3) (ret := none) (own := RX3) _ (by decide +kernel) rfl rfl (Nat.le_of_ble_eq_true rfl) (fun p e s m args below meth c C0 hlk hret => j_sub (l' := [(0, .ref (ad o0)), (1, .ref (ad o1))]) [0, 1] rfl (w_X3_takeOver C0 hlk hret o0 o1 μ K ho0 ho1 hX))
/-! PhaseTones$Sound.valueGivenBy(LPhaseTones$Wheel;)I -/
abbrev rm_X3_valueGivenBy : Room := rmf 0 0
theorem fw_X3_valueGivenBy_3 : ∀ w ∈ wsX30, w ∈ wsX3_valueGivenBy := by decide +kernel
theorem fw_X3_valueGivenBy_4 : ∀ w ∈ wsX40, w ∈ wsX3_valueGivenBy := by decide +kernel
theorem hw_X3_valueGivenBy_0 : Cond.fieldLink RX3 55 RX4 (TX4 2).2.1 (TX4 2).2.2.1 ∈ wsX3_valueGivenBy := by decide +kernel
theorem hw_X3_valueGivenBy_1 : Cond.fieldLink RX3 58 RX4 (TX4 0).2.1 (TX4 0).2.2.1 ∈ wsX3_valueGivenBy := by decide +kernel
theorem hw_X3_valueGivenBy_2 : Cond.fieldLink RX3 15 RX3 (TX3 1).2.1 (TX3 1).2.2.1 ∈ wsX3_valueGivenBy := by decide +kernel
theorem hw_X3_valueGivenBy_3 : Cond.fieldLink RX3 61 RX4 (TX4 3).2.1 (TX4 3).2.2.1 ∈ wsX3_valueGivenBy := by decide +kernel
def x_X3_valueGivenBy (o0 : Nat) (o1 : Nat) (μ : Mem) (K : Int32 → Mem → Prop) : Prop :=
  ∀ v1 : Int32, v1 = (((μ o1 2) * 16) + ((μ o1 0) / 4096)) → (v1 < 0 → K 0 μ) ∧ (¬ (v1 < 0) → (64 ≤ v1 → K 0 μ) ∧ (¬ (64 ≤ v1) → vp_in v1 64 ∧ K ((μ (o0 + 1) v1.toNatClampNeg) * (μ o1 3)) μ))
set_option maxRecDepth 20000 in
theorem w_X3_valueGivenBy {p : Program} {l : Launch} {e : Env} {s : State} {m : MethodId} {args : Array Value} {below : List Frame} {meth : Method} {c : Code} {D : va_G} {Y : Nat → ClassId} {ad : Nat → Nat} (C0 : CX D Y ad (PA ad) rm_X3_valueGivenBy 0 0 p s args m c cX3_valueGivenBy 3 RX3 wsX3_valueGivenBy) (hlk : meth.locks = false) (hret : meth.sig.returnType = (some .int)) (o0 : Nat) (o1 : Nat) (μ : Mem) (K : Int32 → Mem → Prop) (ho0 : kd o0 = 3) (ho1 : kd o1 = 4) (hX : x_X3_valueGivenBy o0 o1 μ K) : J p l e rm_X3_valueGivenBy s m args below meth c D Y ad (PA ad) 0 0 3 (MQ below (va_Qi K (BB D Y ad) (PA ad)) args s 0 0 (PA ad)) 0 [(0, .ref (ad o0)), (1, .ref (ad o1))] [] μ := by
  refine j_aload_n C0 1 dX3_valueGivenBy_0 rfl rfl rfl ?_
  refine j_get4 C0 (v := .int (μ o1 2)) 2 ho1 fw_X3_valueGivenBy_4 hw_X3_valueGivenBy_0 (fun _ h9 => h9) (by decide) rfl dX3_valueGivenBy_1 rfl ?_
  refine j_bipush C0 16 dX3_valueGivenBy_4 (by decide) rfl ?_
  refine j_imul C0 dX3_valueGivenBy_6 rfl ?_
  refine j_aload_n C0 1 dX3_valueGivenBy_7 rfl rfl rfl ?_
  refine j_get4 C0 (v := .int (μ o1 0)) 0 ho1 fw_X3_valueGivenBy_4 hw_X3_valueGivenBy_1 (fun _ h9 => h9) (by decide) rfl dX3_valueGivenBy_8 rfl ?_
  refine j_sipush C0 4096 dX3_valueGivenBy_11 (by decide) rfl ?_
  refine j_idiv C0 dX3_valueGivenBy_14 (by decide) rfl ?_
  refine j_iadd C0 dX3_valueGivenBy_15 rfl ?_
  refine j_topi (fun v1 e_v1 => ?_)
  have hX := hX v1 e_v1
  refine j_istore_n C0 [(2, .int v1), (0, .ref (ad o0)), (1, .ref (ad o1))] dX3_valueGivenBy_16 rfl (by decide) rfl rfl ?_
  refine j_iload_n C0 0 dX3_valueGivenBy_17 rfl rfl rfl ?_
  refine j_if_lt C0 (tgt := 41) dX3_valueGivenBy_18 (by decide) rfl (fun c2 => ?_) (fun c2 => ?_)
  · have hX := hX.1 c2
    refine j_iconst C0 0 dX3_valueGivenBy_41 (by decide) rfl ?_
    exact j_iret C0 hlk hret dX3_valueGivenBy_42 hX
  · have hX := hX.2 c2
    refine j_iload_n C0 0 dX3_valueGivenBy_21 rfl rfl rfl ?_
    refine j_bipush C0 64 dX3_valueGivenBy_22 (by decide) rfl ?_
    refine j_icmp_ge C0 (tgt := 41) dX3_valueGivenBy_24 (by decide) rfl (fun c3 => ?_) (fun c3 => ?_)
    · have hX := hX.1 c3
      refine j_iconst C0 0 dX3_valueGivenBy_41 (by decide) rfl ?_
      exact j_iret C0 hlk hret dX3_valueGivenBy_42 hX
    · have hX := hX.2 c3
      refine j_aload_n C0 1 dX3_valueGivenBy_27 rfl rfl rfl ?_
      refine j_get3 C0 (v := .ref (ad (o0 + 1))) 1 ho0 fw_X3_valueGivenBy_3 hw_X3_valueGivenBy_2 (fun _ h9 => h9) (by decide) rfl dX3_valueGivenBy_28 rfl ?_
      refine j_iload_n C0 0 dX3_valueGivenBy_31 rfl rfl rfl ?_
      obtain ⟨h4, hX⟩ := hX
      refine j_iald C0 (n := 64) (kd_lt (kd_3v ho0) (by decide)) (ce10 (kd_3v ho0)) h4 dX3_valueGivenBy_32 rfl ?_
      refine j_aload_n C0 2 dX3_valueGivenBy_33 rfl rfl rfl ?_
      refine j_get4 C0 (v := .int (μ o1 3)) 3 ho1 fw_X3_valueGivenBy_4 hw_X3_valueGivenBy_3 (fun _ h9 => h9) (by decide) rfl dX3_valueGivenBy_34 rfl ?_
      refine j_imul C0 dX3_valueGivenBy_37 rfl ?_
      refine j_goto C0 (tgt := 42) dX3_valueGivenBy_38 (by decide) ?_
      exact j_iret C0 hlk hret dX3_valueGivenBy_42 hX
theorem c_X3_valueGivenBy {l : Launch} {D : va_G} {Y : Nat → ClassId} {ad : Nat → Nat} (o0 : Nat) (o1 : Nat) {μ : Mem} {K : Int32 → Mem → Prop} (ho0 : kd o0 = 3) (ho1 : kd o1 = 4) (hX : x_X3_valueGivenBy o0 o1 μ K) : ConI l yX3_valueGivenBy wsX3_valueGivenBy rm_X3_valueGivenBy [.ref (ad o0), .ref (ad o1)] D Y ad μ K := conI_of (cc := cX3_valueGivenBy) (maxL := 3) (ret := (some .int)) (own := RX3) _ (by decide +kernel) rfl rfl (Nat.le_of_ble_eq_true rfl) (fun p e s m args below meth c C0 hlk hret => j_sub (l' := [(0, .ref (ad o0)), (1, .ref (ad o1))]) [0, 1] rfl (w_X3_valueGivenBy C0 hlk hret o0 o1 μ K ho0 ho1 hX))
/-! PhaseTones$Sound.sumOfOn()I -/
abbrev rm_X3_sumOfOn : Room := rmf 1 22
theorem fw_X3_sumOfOn_3 : ∀ w ∈ wsX30, w ∈ wsX3_sumOfOn := by decide +kernel
theorem fw_X3_sumOfOn_4 : ∀ w ∈ wsX40, w ∈ wsX3_sumOfOn := by decide +kernel
theorem hw_X3_sumOfOn_0 : Cond.fieldLink RX3 21 RX3 (TX3 2).2.1 (TX3 2).2.2.1 ∈ wsX3_sumOfOn := by decide +kernel
theorem hw_X3_sumOfOn_1 : Cond.fieldLink RX3 29 RX4 (TX4 4).2.1 (TX4 4).2.2.1 ∈ wsX3_sumOfOn := by decide +kernel
def x_X3_sumOfOn_L34 (K : Int32 → Mem → Prop) (B : Nat → Int32 → Int32 → Mem → Prop) (o0 : Nat) (a1 : Int32) (a2 : Int32) (μ : Mem) : Prop :=
  ∀ v4 : Int32, v4 = a2 + 1 → B o0 a1 v4 μ
set_option maxRecDepth 20000 in
theorem w_X3_sumOfOn_L34 {p : Program} {l : Launch} {e : Env} {s : State} {m : MethodId} {args : Array Value} {below : List Frame} {meth : Method} {c : Code} {D : va_G} {Y : Nat → ClassId} {ad : Nat → Nat} (C0 : CX D Y ad (PA ad) rm_X3_sumOfOn 0 0 p s args m c cX3_sumOfOn 3 RX3 wsX3_sumOfOn) (hlk : meth.locks = false) (hret : meth.sig.returnType = (some .int)) (o0 : Nat) (a1 : Int32) (a2 : Int32) (μ : Mem) (K : Int32 → Mem → Prop) (B : Nat → Int32 → Int32 → Mem → Prop) (hB : ∀ (o0 : Nat) (a1 : Int32) (a2 : Int32) (μ : Mem), kd o0 = 3 → B o0 a1 a2 μ → J p l e rm_X3_sumOfOn s m args below meth c D Y ad (PA ad) 0 0 3 (MQ below (va_Qi K (BB D Y ad) (PA ad)) args s 0 0 (PA ad)) 4 [(0, .ref (ad o0)), (1, .int a1), (2, .int a2)] [] μ) (ho0 : kd o0 = 3) (hX : x_X3_sumOfOn_L34 K B o0 a1 a2 μ) : J p l e rm_X3_sumOfOn s m args below meth c D Y ad (PA ad) 0 0 3 (MQ below (va_Qi K (BB D Y ad) (PA ad)) args s 0 0 (PA ad)) 34 [(0, .ref (ad o0)), (1, .int a1), (2, .int a2)] [] μ := by
  obtain ⟨v4, e_v4⟩ : ∃ z : Int32, z = a2 + 1 := ⟨_, rfl⟩
  have hX := hX v4 e_v4
  refine j_iinc C0 2 v4 [(2, .int v4), (0, .ref (ad o0)), (1, .int a1)] dX3_sumOfOn_34 rfl (by rw [e_v4]; rfl) (by decide) rfl rfl ?_
  refine j_goto C0 (tgt := 4) dX3_sumOfOn_37 (by decide) ?_
  exact j_sub (l' := [(0, .ref (ad o0)), (1, .int a1), (2, .int v4)]) [1, 2, 0] rfl (hB o0 a1 v4 μ ho0 hX)
def xb_X3_sumOfOn_L4 (K : Int32 → Mem → Prop) (B : Nat → Int32 → Int32 → Mem → Prop) (o0 : Nat) (a1 : Int32) (a2 : Int32) (μ : Mem) : Prop :=
  (4 ≤ a2 → K a1 μ) ∧ (¬ (4 ≤ a2) → vp_in a2 4 ∧ ((μ (o0 + 4 + 3 * a2.toNatClampNeg) 4) = 0 → x_X3_sumOfOn_L34 K B o0 a1 a2 μ) ∧ (¬ ((μ (o0 + 4 + 3 * a2.toNatClampNeg) 4) = 0) → vp_in a2 4 ∧ x_X3_valueGivenBy o0 (o0 + 4 + 3 * a2.toNatClampNeg) μ (fun r7 μ6 => ∀ v8 : Int32, v8 = (a1 + r7) → x_X3_sumOfOn_L34 K B o0 v8 a2 μ6)))
def x_X3_sumOfOn_L4 (K : Int32 → Mem → Prop) : Nat → Nat → Int32 → Int32 → Mem → Prop
  | 0 => fun _ _ _ _ => False
  | n + 1 => fun o0 a1 a2 μ => xb_X3_sumOfOn_L4 K (x_X3_sumOfOn_L4 K n) o0 a1 a2 μ
set_option maxRecDepth 20000 in
theorem wb_X3_sumOfOn_L4 {p : Program} {l : Launch} {e : Env} {s : State} {m : MethodId} {args : Array Value} {below : List Frame} {meth : Method} {c : Code} {D : va_G} {Y : Nat → ClassId} {ad : Nat → Nat} (C0 : CX D Y ad (PA ad) rm_X3_sumOfOn 0 0 p s args m c cX3_sumOfOn 3 RX3 wsX3_sumOfOn) (hlk : meth.locks = false) (hret : meth.sig.returnType = (some .int)) (o0 : Nat) (a1 : Int32) (a2 : Int32) (μ : Mem) (K : Int32 → Mem → Prop) (B : Nat → Int32 → Int32 → Mem → Prop) (hB : ∀ (o0 : Nat) (a1 : Int32) (a2 : Int32) (μ : Mem), kd o0 = 3 → B o0 a1 a2 μ → J p l e rm_X3_sumOfOn s m args below meth c D Y ad (PA ad) 0 0 3 (MQ below (va_Qi K (BB D Y ad) (PA ad)) args s 0 0 (PA ad)) 4 [(0, .ref (ad o0)), (1, .int a1), (2, .int a2)] [] μ) (ho0 : kd o0 = 3) (hX : xb_X3_sumOfOn_L4 K B o0 a1 a2 μ) : J p l e rm_X3_sumOfOn s m args below meth c D Y ad (PA ad) 0 0 3 (MQ below (va_Qi K (BB D Y ad) (PA ad)) args s 0 0 (PA ad)) 4 [(0, .ref (ad o0)), (1, .int a1), (2, .int a2)] [] μ := by
  refine j_iload_n C0 2 dX3_sumOfOn_4 rfl rfl rfl ?_
  refine j_iconst C0 4 dX3_sumOfOn_5 (by decide) rfl ?_
  refine j_icmp_ge C0 (tgt := 40) dX3_sumOfOn_6 (by decide) rfl (fun c1 => ?_) (fun c1 => ?_)
  · have hX := hX.1 c1
    refine j_iload_n C0 1 dX3_sumOfOn_40 rfl rfl rfl ?_
    exact j_iret C0 hlk hret dX3_sumOfOn_41 hX
  · have hX := hX.2 c1
    refine j_aload_n C0 0 dX3_sumOfOn_9 rfl rfl rfl ?_
    refine j_get3 C0 (v := .ref (ad (o0 + 2))) 2 ho0 fw_X3_sumOfOn_3 hw_X3_sumOfOn_0 (fun _ h9 => h9) (by decide) rfl dX3_sumOfOn_10 rfl ?_
    refine j_iload_n C0 2 dX3_sumOfOn_13 rfl rfl rfl ?_
    obtain ⟨h2, hX⟩ := hX
    refine j_aald C0 (n := 4) (t0 := 4) (o0 + 4 + 3 * a2.toNatClampNeg) (kd_lt (kd_3w ho0) (by decide)) (ce15 (kd_3w ho0)) rfl rfl h2 dX3_sumOfOn_14 rfl ?_
    refine j_get4 C0 (v := .int (μ (o0 + 4 + 3 * a2.toNatClampNeg) 4)) 4 (kd_3e (o := o0) ho0 (vp_lt h2)) fw_X3_sumOfOn_4 hw_X3_sumOfOn_1 (fun _ h9 => h9) (by decide) rfl dX3_sumOfOn_15 rfl ?_
    refine j_if_eq C0 (tgt := 34) dX3_sumOfOn_18 (by decide) rfl (fun c3 => ?_) (fun c3 => ?_)
    · have hX := hX.1 c3
      exact j_sub (l' := [(0, .ref (ad o0)), (1, .int a1), (2, .int a2)]) [0, 1, 2] rfl (w_X3_sumOfOn_L34 C0 hlk hret o0 a1 a2 μ K B hB ho0 hX)
    · have hX := hX.2 c3
      refine j_iload_n C0 1 dX3_sumOfOn_21 rfl rfl rfl ?_
      refine j_aload_n C0 0 dX3_sumOfOn_22 rfl rfl rfl ?_
      refine j_aload_n C0 0 dX3_sumOfOn_23 rfl rfl rfl ?_
      refine j_get3 C0 (v := .ref (ad (o0 + 2))) 2 ho0 fw_X3_sumOfOn_3 hw_X3_sumOfOn_0 (fun _ h9 => h9) (by decide) rfl dX3_sumOfOn_24 rfl ?_
      refine j_iload_n C0 2 dX3_sumOfOn_27 rfl rfl rfl ?_
      obtain ⟨h5, hX⟩ := hX
      refine j_aald C0 (n := 4) (t0 := 4) (o0 + 4 + 3 * a2.toNatClampNeg) (kd_lt (kd_3w ho0) (by decide)) (ce15 (kd_3w ho0)) rfl rfl h5 dX3_sumOfOn_28 rfl ?_
      refine j_callVi C0 1 [.ref (ad (o0 + 4 + 3 * a2.toNatClampNeg))] (c_X3_valueGivenBy o0 (o0 + 4 + 3 * a2.toNatClampNeg) ho0 (kd_3e (o := o0) ho0 (vp_lt h5)) hX) dX3_sumOfOn_29 gX3_sumOfOn_X3_valueGivenBy rfl (by decide +kernel) ⟨⟨Nat.le_of_ble_eq_true rfl, Nat.le_of_ble_eq_true rfl⟩, rfl, rfl⟩ (kd_lt ho0 (by decide)) (ce3 ho0) rfl rfl rfl (Nat.le_of_ble_eq_true rfl) rfl (fun r7 μ6 hX => ?_)
      refine j_iadd C0 dX3_sumOfOn_32 rfl ?_
      refine j_topi (fun v8 e_v8 => ?_)
      have hX := hX v8 e_v8
      refine j_istore_n C0 [(1, .int v8), (0, .ref (ad o0)), (2, .int a2)] dX3_sumOfOn_33 rfl (by decide) rfl rfl ?_
      exact j_sub (l' := [(0, .ref (ad o0)), (1, .int v8), (2, .int a2)]) [1, 0, 2] rfl (w_X3_sumOfOn_L34 C0 hlk hret o0 v8 a2 μ6 K B hB ho0 hX)
theorem w_X3_sumOfOn_L4 {p : Program} {l : Launch} {e : Env} {s : State} {m : MethodId} {args : Array Value} {below : List Frame} {meth : Method} {c : Code} {D : va_G} {Y : Nat → ClassId} {ad : Nat → Nat} (C0 : CX D Y ad (PA ad) rm_X3_sumOfOn 0 0 p s args m c cX3_sumOfOn 3 RX3 wsX3_sumOfOn) (hlk : meth.locks = false) (hret : meth.sig.returnType = (some .int)) (K : Int32 → Mem → Prop) : ∀ (n : Nat) (o0 : Nat) (a1 : Int32) (a2 : Int32) (μ : Mem) (ho0 : kd o0 = 3) (hX : x_X3_sumOfOn_L4 K n o0 a1 a2 μ), J p l e rm_X3_sumOfOn s m args below meth c D Y ad (PA ad) 0 0 3 (MQ below (va_Qi K (BB D Y ad) (PA ad)) args s 0 0 (PA ad)) 4 [(0, .ref (ad o0)), (1, .int a1), (2, .int a2)] [] μ
  | 0, o0, a1, a2, μ, ho0, hX => hX.elim
  | n + 1, o0, a1, a2, μ, ho0, hX => wb_X3_sumOfOn_L4 C0 hlk hret o0 a1 a2 μ K (x_X3_sumOfOn_L4 K n) (fun o0 a1 a2 μ ho0 hx => w_X3_sumOfOn_L4 C0 hlk hret K n o0 a1 a2 μ ho0 hx) ho0 hX
def x_X3_sumOfOn (o0 : Nat) (μ : Mem) (K : Int32 → Mem → Prop) : Prop :=
  ∃ n : Nat, x_X3_sumOfOn_L4 K n o0 0 0 μ
set_option maxRecDepth 20000 in
theorem w_X3_sumOfOn {p : Program} {l : Launch} {e : Env} {s : State} {m : MethodId} {args : Array Value} {below : List Frame} {meth : Method} {c : Code} {D : va_G} {Y : Nat → ClassId} {ad : Nat → Nat} (C0 : CX D Y ad (PA ad) rm_X3_sumOfOn 0 0 p s args m c cX3_sumOfOn 3 RX3 wsX3_sumOfOn) (hlk : meth.locks = false) (hret : meth.sig.returnType = (some .int)) (o0 : Nat) (μ : Mem) (K : Int32 → Mem → Prop) (ho0 : kd o0 = 3) (hX : x_X3_sumOfOn o0 μ K) : J p l e rm_X3_sumOfOn s m args below meth c D Y ad (PA ad) 0 0 3 (MQ below (va_Qi K (BB D Y ad) (PA ad)) args s 0 0 (PA ad)) 0 [(0, .ref (ad o0))] [] μ := by
  refine j_iconst C0 0 dX3_sumOfOn_0 (by decide) rfl ?_
  refine j_istore_n C0 [(1, .int 0), (0, .ref (ad o0))] dX3_sumOfOn_1 rfl (by decide) rfl rfl ?_
  refine j_iconst C0 0 dX3_sumOfOn_2 (by decide) rfl ?_
  refine j_istore_n C0 [(2, .int 0), (1, .int 0), (0, .ref (ad o0))] dX3_sumOfOn_3 rfl (by decide) rfl rfl ?_
  obtain ⟨n, hX⟩ := hX
  exact j_sub (l' := [(0, .ref (ad o0)), (1, .int 0), (2, .int 0)]) [2, 1, 0] rfl (w_X3_sumOfOn_L4 C0 hlk hret K n o0 0 0 μ ho0 hX)
theorem c_X3_sumOfOn {l : Launch} {D : va_G} {Y : Nat → ClassId} {ad : Nat → Nat} (o0 : Nat) {μ : Mem} {K : Int32 → Mem → Prop} (ho0 : kd o0 = 3) (hX : x_X3_sumOfOn o0 μ K) : ConI l yX3_sumOfOn wsX3_sumOfOn rm_X3_sumOfOn [.ref (ad o0)] D Y ad μ K := conI_of (cc := cX3_sumOfOn) (maxL := 3) (ret := (some .int)) (own := RX3) _ (by decide +kernel) rfl rfl (Nat.le_of_ble_eq_true rfl) (fun p e s m args below meth c C0 hlk hret => j_sub (l' := [(0, .ref (ad o0))]) [0] rfl (w_X3_sumOfOn C0 hlk hret o0 μ K ho0 hX))
/-! PhaseTones$Sound.maskOfOn()I -/
abbrev rm_X3_maskOfOn : Room := rmf 0 0
theorem fw_X3_maskOfOn_3 : ∀ w ∈ wsX30, w ∈ wsX3_maskOfOn := by decide +kernel
theorem fw_X3_maskOfOn_4 : ∀ w ∈ wsX40, w ∈ wsX3_maskOfOn := by decide +kernel
theorem hw_X3_maskOfOn_0 : Cond.fieldLink RX3 21 RX3 (TX3 2).2.1 (TX3 2).2.2.1 ∈ wsX3_maskOfOn := by decide +kernel
theorem hw_X3_maskOfOn_1 : Cond.fieldLink RX3 29 RX4 (TX4 4).2.1 (TX4 4).2.2.1 ∈ wsX3_maskOfOn := by decide +kernel
def x_X3_maskOfOn_L27 (K : Int32 → Mem → Prop) (B : Nat → Int32 → Int32 → Mem → Prop) (o0 : Nat) (a1 : Int32) (a2 : Int32) (μ : Mem) : Prop :=
  ∀ v4 : Int32, v4 = a2 + 1 → B o0 a1 v4 μ
set_option maxRecDepth 20000 in
theorem w_X3_maskOfOn_L27 {p : Program} {l : Launch} {e : Env} {s : State} {m : MethodId} {args : Array Value} {below : List Frame} {meth : Method} {c : Code} {D : va_G} {Y : Nat → ClassId} {ad : Nat → Nat} (C0 : CX D Y ad (PA ad) rm_X3_maskOfOn 0 0 p s args m c cX3_maskOfOn 3 RX3 wsX3_maskOfOn) (hlk : meth.locks = false) (hret : meth.sig.returnType = (some .int)) (o0 : Nat) (a1 : Int32) (a2 : Int32) (μ : Mem) (K : Int32 → Mem → Prop) (B : Nat → Int32 → Int32 → Mem → Prop) (hB : ∀ (o0 : Nat) (a1 : Int32) (a2 : Int32) (μ : Mem), kd o0 = 3 → B o0 a1 a2 μ → J p l e rm_X3_maskOfOn s m args below meth c D Y ad (PA ad) 0 0 3 (MQ below (va_Qi K (BB D Y ad) (PA ad)) args s 0 0 (PA ad)) 4 [(0, .ref (ad o0)), (1, .int a1), (2, .int a2)] [] μ) (ho0 : kd o0 = 3) (hX : x_X3_maskOfOn_L27 K B o0 a1 a2 μ) : J p l e rm_X3_maskOfOn s m args below meth c D Y ad (PA ad) 0 0 3 (MQ below (va_Qi K (BB D Y ad) (PA ad)) args s 0 0 (PA ad)) 27 [(0, .ref (ad o0)), (1, .int a1), (2, .int a2)] [] μ := by
  obtain ⟨v4, e_v4⟩ : ∃ z : Int32, z = a2 + 1 := ⟨_, rfl⟩
  have hX := hX v4 e_v4
  refine j_iinc C0 2 v4 [(2, .int v4), (0, .ref (ad o0)), (1, .int a1)] dX3_maskOfOn_27 rfl (by rw [e_v4]; rfl) (by decide) rfl rfl ?_
  refine j_goto C0 (tgt := 4) dX3_maskOfOn_30 (by decide) ?_
  exact j_sub (l' := [(0, .ref (ad o0)), (1, .int a1), (2, .int v4)]) [1, 2, 0] rfl (hB o0 a1 v4 μ ho0 hX)
def xb_X3_maskOfOn_L4 (K : Int32 → Mem → Prop) (B : Nat → Int32 → Int32 → Mem → Prop) (o0 : Nat) (a1 : Int32) (a2 : Int32) (μ : Mem) : Prop :=
  (4 ≤ a2 → K a1 μ) ∧ (¬ (4 ≤ a2) → vp_in a2 4 ∧ ((μ (o0 + 4 + 3 * a2.toNatClampNeg) 4) = 0 → x_X3_maskOfOn_L27 K B o0 a1 a2 μ) ∧ (¬ ((μ (o0 + 4 + 3 * a2.toNatClampNeg) 4) = 0) → ∀ v5 : Int32, v5 = (a1 ||| ((1 : Int32) <<< (a2 &&& 31))) → x_X3_maskOfOn_L27 K B o0 v5 a2 μ))
def x_X3_maskOfOn_L4 (K : Int32 → Mem → Prop) : Nat → Nat → Int32 → Int32 → Mem → Prop
  | 0 => fun _ _ _ _ => False
  | n + 1 => fun o0 a1 a2 μ => xb_X3_maskOfOn_L4 K (x_X3_maskOfOn_L4 K n) o0 a1 a2 μ
set_option maxRecDepth 20000 in
theorem wb_X3_maskOfOn_L4 {p : Program} {l : Launch} {e : Env} {s : State} {m : MethodId} {args : Array Value} {below : List Frame} {meth : Method} {c : Code} {D : va_G} {Y : Nat → ClassId} {ad : Nat → Nat} (C0 : CX D Y ad (PA ad) rm_X3_maskOfOn 0 0 p s args m c cX3_maskOfOn 3 RX3 wsX3_maskOfOn) (hlk : meth.locks = false) (hret : meth.sig.returnType = (some .int)) (o0 : Nat) (a1 : Int32) (a2 : Int32) (μ : Mem) (K : Int32 → Mem → Prop) (B : Nat → Int32 → Int32 → Mem → Prop) (hB : ∀ (o0 : Nat) (a1 : Int32) (a2 : Int32) (μ : Mem), kd o0 = 3 → B o0 a1 a2 μ → J p l e rm_X3_maskOfOn s m args below meth c D Y ad (PA ad) 0 0 3 (MQ below (va_Qi K (BB D Y ad) (PA ad)) args s 0 0 (PA ad)) 4 [(0, .ref (ad o0)), (1, .int a1), (2, .int a2)] [] μ) (ho0 : kd o0 = 3) (hX : xb_X3_maskOfOn_L4 K B o0 a1 a2 μ) : J p l e rm_X3_maskOfOn s m args below meth c D Y ad (PA ad) 0 0 3 (MQ below (va_Qi K (BB D Y ad) (PA ad)) args s 0 0 (PA ad)) 4 [(0, .ref (ad o0)), (1, .int a1), (2, .int a2)] [] μ := by
  refine j_iload_n C0 2 dX3_maskOfOn_4 rfl rfl rfl ?_
  refine j_iconst C0 4 dX3_maskOfOn_5 (by decide) rfl ?_
  refine j_icmp_ge C0 (tgt := 33) dX3_maskOfOn_6 (by decide) rfl (fun c1 => ?_) (fun c1 => ?_)
  · have hX := hX.1 c1
    refine j_iload_n C0 1 dX3_maskOfOn_33 rfl rfl rfl ?_
    exact j_iret C0 hlk hret dX3_maskOfOn_34 hX
  · have hX := hX.2 c1
    refine j_aload_n C0 0 dX3_maskOfOn_9 rfl rfl rfl ?_
    refine j_get3 C0 (v := .ref (ad (o0 + 2))) 2 ho0 fw_X3_maskOfOn_3 hw_X3_maskOfOn_0 (fun _ h9 => h9) (by decide) rfl dX3_maskOfOn_10 rfl ?_
    refine j_iload_n C0 2 dX3_maskOfOn_13 rfl rfl rfl ?_
    obtain ⟨h2, hX⟩ := hX
    refine j_aald C0 (n := 4) (t0 := 4) (o0 + 4 + 3 * a2.toNatClampNeg) (kd_lt (kd_3w ho0) (by decide)) (ce15 (kd_3w ho0)) rfl rfl h2 dX3_maskOfOn_14 rfl ?_
    refine j_get4 C0 (v := .int (μ (o0 + 4 + 3 * a2.toNatClampNeg) 4)) 4 (kd_3e (o := o0) ho0 (vp_lt h2)) fw_X3_maskOfOn_4 hw_X3_maskOfOn_1 (fun _ h9 => h9) (by decide) rfl dX3_maskOfOn_15 rfl ?_
    refine j_if_eq C0 (tgt := 27) dX3_maskOfOn_18 (by decide) rfl (fun c3 => ?_) (fun c3 => ?_)
    · have hX := hX.1 c3
      exact j_sub (l' := [(0, .ref (ad o0)), (1, .int a1), (2, .int a2)]) [0, 1, 2] rfl (w_X3_maskOfOn_L27 C0 hlk hret o0 a1 a2 μ K B hB ho0 hX)
    · have hX := hX.2 c3
      refine j_iload_n C0 1 dX3_maskOfOn_21 rfl rfl rfl ?_
      refine j_iconst C0 1 dX3_maskOfOn_22 (by decide) rfl ?_
      refine j_iload_n C0 2 dX3_maskOfOn_23 rfl rfl rfl ?_
      refine j_ishl C0 dX3_maskOfOn_24 rfl ?_
      refine j_ior C0 dX3_maskOfOn_25 rfl ?_
      refine j_topi (fun v5 e_v5 => ?_)
      have hX := hX v5 e_v5
      refine j_istore_n C0 [(1, .int v5), (0, .ref (ad o0)), (2, .int a2)] dX3_maskOfOn_26 rfl (by decide) rfl rfl ?_
      exact j_sub (l' := [(0, .ref (ad o0)), (1, .int v5), (2, .int a2)]) [1, 0, 2] rfl (w_X3_maskOfOn_L27 C0 hlk hret o0 v5 a2 μ K B hB ho0 hX)
theorem w_X3_maskOfOn_L4 {p : Program} {l : Launch} {e : Env} {s : State} {m : MethodId} {args : Array Value} {below : List Frame} {meth : Method} {c : Code} {D : va_G} {Y : Nat → ClassId} {ad : Nat → Nat} (C0 : CX D Y ad (PA ad) rm_X3_maskOfOn 0 0 p s args m c cX3_maskOfOn 3 RX3 wsX3_maskOfOn) (hlk : meth.locks = false) (hret : meth.sig.returnType = (some .int)) (K : Int32 → Mem → Prop) : ∀ (n : Nat) (o0 : Nat) (a1 : Int32) (a2 : Int32) (μ : Mem) (ho0 : kd o0 = 3) (hX : x_X3_maskOfOn_L4 K n o0 a1 a2 μ), J p l e rm_X3_maskOfOn s m args below meth c D Y ad (PA ad) 0 0 3 (MQ below (va_Qi K (BB D Y ad) (PA ad)) args s 0 0 (PA ad)) 4 [(0, .ref (ad o0)), (1, .int a1), (2, .int a2)] [] μ
  | 0, o0, a1, a2, μ, ho0, hX => hX.elim
  | n + 1, o0, a1, a2, μ, ho0, hX => wb_X3_maskOfOn_L4 C0 hlk hret o0 a1 a2 μ K (x_X3_maskOfOn_L4 K n) (fun o0 a1 a2 μ ho0 hx => w_X3_maskOfOn_L4 C0 hlk hret K n o0 a1 a2 μ ho0 hx) ho0 hX
def x_X3_maskOfOn (o0 : Nat) (μ : Mem) (K : Int32 → Mem → Prop) : Prop :=
  ∃ n : Nat, x_X3_maskOfOn_L4 K n o0 0 0 μ
set_option maxRecDepth 20000 in
theorem w_X3_maskOfOn {p : Program} {l : Launch} {e : Env} {s : State} {m : MethodId} {args : Array Value} {below : List Frame} {meth : Method} {c : Code} {D : va_G} {Y : Nat → ClassId} {ad : Nat → Nat} (C0 : CX D Y ad (PA ad) rm_X3_maskOfOn 0 0 p s args m c cX3_maskOfOn 3 RX3 wsX3_maskOfOn) (hlk : meth.locks = false) (hret : meth.sig.returnType = (some .int)) (o0 : Nat) (μ : Mem) (K : Int32 → Mem → Prop) (ho0 : kd o0 = 3) (hX : x_X3_maskOfOn o0 μ K) : J p l e rm_X3_maskOfOn s m args below meth c D Y ad (PA ad) 0 0 3 (MQ below (va_Qi K (BB D Y ad) (PA ad)) args s 0 0 (PA ad)) 0 [(0, .ref (ad o0))] [] μ := by
  refine j_iconst C0 0 dX3_maskOfOn_0 (by decide) rfl ?_
  refine j_istore_n C0 [(1, .int 0), (0, .ref (ad o0))] dX3_maskOfOn_1 rfl (by decide) rfl rfl ?_
  refine j_iconst C0 0 dX3_maskOfOn_2 (by decide) rfl ?_
  refine j_istore_n C0 [(2, .int 0), (1, .int 0), (0, .ref (ad o0))] dX3_maskOfOn_3 rfl (by decide) rfl rfl ?_
  obtain ⟨n, hX⟩ := hX
  exact j_sub (l' := [(0, .ref (ad o0)), (1, .int 0), (2, .int 0)]) [2, 1, 0] rfl (w_X3_maskOfOn_L4 C0 hlk hret K n o0 0 0 μ ho0 hX)
theorem c_X3_maskOfOn {l : Launch} {D : va_G} {Y : Nat → ClassId} {ad : Nat → Nat} (o0 : Nat) {μ : Mem} {K : Int32 → Mem → Prop} (ho0 : kd o0 = 3) (hX : x_X3_maskOfOn o0 μ K) : ConI l yX3_maskOfOn wsX3_maskOfOn rm_X3_maskOfOn [.ref (ad o0)] D Y ad μ K := conI_of (cc := cX3_maskOfOn) (maxL := 3) (ret := (some .int)) (own := RX3) _ (by decide +kernel) rfl rfl (Nat.le_of_ble_eq_true rfl) (fun p e s m args below meth c C0 hlk hret => j_sub (l' := [(0, .ref (ad o0))]) [0] rfl (w_X3_maskOfOn C0 hlk hret o0 μ K ho0 hX))
/-! PhaseTones$Sound.samplesOfARoundOfAll()I -/
abbrev rm_X3_samplesOfARoundOfAll : Room := rmf 1 31
theorem fw_X3_samplesOfARoundOfAll_3 : ∀ w ∈ wsX30, w ∈ wsX3_samplesOfARoundOfAll := by decide +kernel
theorem fw_X3_samplesOfARoundOfAll_4 : ∀ w ∈ wsX40, w ∈ wsX3_samplesOfARoundOfAll := by decide +kernel
theorem hw_X3_samplesOfARoundOfAll_0 : Cond.fieldLink RX3 21 RX3 (TX3 2).2.1 (TX3 2).2.2.1 ∈ wsX3_samplesOfARoundOfAll := by decide +kernel
theorem hw_X3_samplesOfARoundOfAll_1 : Cond.fieldLink RX3 29 RX4 (TX4 4).2.1 (TX4 4).2.2.1 ∈ wsX3_samplesOfARoundOfAll := by decide +kernel
theorem hw_X3_samplesOfARoundOfAll_2 : Cond.methodLink RX3 72 Lib.Math.max.name ∈ wsX3_samplesOfARoundOfAll := by decide +kernel
theorem hw_X3_samplesOfARoundOfAll_3 : Cond.static Lib.Math.max.name ∈ wsX3_samplesOfARoundOfAll := by decide +kernel
theorem hw_X3_samplesOfARoundOfAll_4 : Cond.initialized "java/lang/Math" ∈ wsX3_samplesOfARoundOfAll := by decide +kernel
theorem hw_X3_samplesOfARoundOfAll_5 : Cond.code Lib.Math.max.name Lib.Math.max.code 2 (some .int) ∈ wsX3_samplesOfARoundOfAll := by decide +kernel
def x_X3_samplesOfARoundOfAll_L35 (K : Int32 → Mem → Prop) (B : Nat → Int32 → Int32 → Mem → Prop) (o0 : Nat) (a1 : Int32) (a2 : Int32) (μ : Mem) : Prop :=
  ∀ v4 : Int32, v4 = a2 + 1 → B o0 a1 v4 μ
set_option maxRecDepth 20000 in
theorem w_X3_samplesOfARoundOfAll_L35 {p : Program} {l : Launch} {e : Env} {s : State} {m : MethodId} {args : Array Value} {below : List Frame} {meth : Method} {c : Code} {D : va_G} {Y : Nat → ClassId} {ad : Nat → Nat} (C0 : CX D Y ad (PA ad) rm_X3_samplesOfARoundOfAll 0 0 p s args m c cX3_samplesOfARoundOfAll 3 RX3 wsX3_samplesOfARoundOfAll) (hlk : meth.locks = false) (hret : meth.sig.returnType = (some .int)) (o0 : Nat) (a1 : Int32) (a2 : Int32) (μ : Mem) (K : Int32 → Mem → Prop) (B : Nat → Int32 → Int32 → Mem → Prop) (hB : ∀ (o0 : Nat) (a1 : Int32) (a2 : Int32) (μ : Mem), kd o0 = 3 → B o0 a1 a2 μ → J p l e rm_X3_samplesOfARoundOfAll s m args below meth c D Y ad (PA ad) 0 0 3 (MQ below (va_Qi K (BB D Y ad) (PA ad)) args s 0 0 (PA ad)) 4 [(0, .ref (ad o0)), (1, .int a1), (2, .int a2)] [] μ) (ho0 : kd o0 = 3) (hX : x_X3_samplesOfARoundOfAll_L35 K B o0 a1 a2 μ) : J p l e rm_X3_samplesOfARoundOfAll s m args below meth c D Y ad (PA ad) 0 0 3 (MQ below (va_Qi K (BB D Y ad) (PA ad)) args s 0 0 (PA ad)) 35 [(0, .ref (ad o0)), (1, .int a1), (2, .int a2)] [] μ := by
  obtain ⟨v4, e_v4⟩ : ∃ z : Int32, z = a2 + 1 := ⟨_, rfl⟩
  have hX := hX v4 e_v4
  refine j_iinc C0 2 v4 [(2, .int v4), (0, .ref (ad o0)), (1, .int a1)] dX3_samplesOfARoundOfAll_35 rfl (by rw [e_v4]; rfl) (by decide) rfl rfl ?_
  refine j_goto C0 (tgt := 4) dX3_samplesOfARoundOfAll_38 (by decide) ?_
  exact j_sub (l' := [(0, .ref (ad o0)), (1, .int a1), (2, .int v4)]) [1, 2, 0] rfl (hB o0 a1 v4 μ ho0 hX)
def xb_X3_samplesOfARoundOfAll_L4 (K : Int32 → Mem → Prop) (B : Nat → Int32 → Int32 → Mem → Prop) (o0 : Nat) (a1 : Int32) (a2 : Int32) (μ : Mem) : Prop :=
  (4 ≤ a2 → K a1 μ) ∧ (¬ (4 ≤ a2) → vp_in a2 4 ∧ ((μ (o0 + 4 + 3 * a2.toNatClampNeg) 4) = 0 → x_X3_samplesOfARoundOfAll_L35 K B o0 a1 a2 μ) ∧ (¬ ((μ (o0 + 4 + 3 * a2.toNatClampNeg) 4) = 0) → vp_in a2 4 ∧ x_X4_samplesOfARound (o0 + 4 + 3 * a2.toNatClampNeg) μ (fun r7 μ6 => ∀ v8 : Int32, v8 = (if a1 < r7 then r7 else a1) → x_X3_samplesOfARoundOfAll_L35 K B o0 v8 a2 μ6)))
def x_X3_samplesOfARoundOfAll_L4 (K : Int32 → Mem → Prop) : Nat → Nat → Int32 → Int32 → Mem → Prop
  | 0 => fun _ _ _ _ => False
  | n + 1 => fun o0 a1 a2 μ => xb_X3_samplesOfARoundOfAll_L4 K (x_X3_samplesOfARoundOfAll_L4 K n) o0 a1 a2 μ
set_option maxRecDepth 20000 in
theorem wb_X3_samplesOfARoundOfAll_L4 {p : Program} {l : Launch} {e : Env} {s : State} {m : MethodId} {args : Array Value} {below : List Frame} {meth : Method} {c : Code} {D : va_G} {Y : Nat → ClassId} {ad : Nat → Nat} (C0 : CX D Y ad (PA ad) rm_X3_samplesOfARoundOfAll 0 0 p s args m c cX3_samplesOfARoundOfAll 3 RX3 wsX3_samplesOfARoundOfAll) (hlk : meth.locks = false) (hret : meth.sig.returnType = (some .int)) (o0 : Nat) (a1 : Int32) (a2 : Int32) (μ : Mem) (K : Int32 → Mem → Prop) (B : Nat → Int32 → Int32 → Mem → Prop) (hB : ∀ (o0 : Nat) (a1 : Int32) (a2 : Int32) (μ : Mem), kd o0 = 3 → B o0 a1 a2 μ → J p l e rm_X3_samplesOfARoundOfAll s m args below meth c D Y ad (PA ad) 0 0 3 (MQ below (va_Qi K (BB D Y ad) (PA ad)) args s 0 0 (PA ad)) 4 [(0, .ref (ad o0)), (1, .int a1), (2, .int a2)] [] μ) (ho0 : kd o0 = 3) (hX : xb_X3_samplesOfARoundOfAll_L4 K B o0 a1 a2 μ) : J p l e rm_X3_samplesOfARoundOfAll s m args below meth c D Y ad (PA ad) 0 0 3 (MQ below (va_Qi K (BB D Y ad) (PA ad)) args s 0 0 (PA ad)) 4 [(0, .ref (ad o0)), (1, .int a1), (2, .int a2)] [] μ := by
  refine j_iload_n C0 2 dX3_samplesOfARoundOfAll_4 rfl rfl rfl ?_
  refine j_iconst C0 4 dX3_samplesOfARoundOfAll_5 (by decide) rfl ?_
  refine j_icmp_ge C0 (tgt := 41) dX3_samplesOfARoundOfAll_6 (by decide) rfl (fun c1 => ?_) (fun c1 => ?_)
  · have hX := hX.1 c1
    refine j_iload_n C0 1 dX3_samplesOfARoundOfAll_41 rfl rfl rfl ?_
    exact j_iret C0 hlk hret dX3_samplesOfARoundOfAll_42 hX
  · have hX := hX.2 c1
    refine j_aload_n C0 0 dX3_samplesOfARoundOfAll_9 rfl rfl rfl ?_
    refine j_get3 C0 (v := .ref (ad (o0 + 2))) 2 ho0 fw_X3_samplesOfARoundOfAll_3 hw_X3_samplesOfARoundOfAll_0 (fun _ h9 => h9) (by decide) rfl dX3_samplesOfARoundOfAll_10 rfl ?_
    refine j_iload_n C0 2 dX3_samplesOfARoundOfAll_13 rfl rfl rfl ?_
    obtain ⟨h2, hX⟩ := hX
    refine j_aald C0 (n := 4) (t0 := 4) (o0 + 4 + 3 * a2.toNatClampNeg) (kd_lt (kd_3w ho0) (by decide)) (ce15 (kd_3w ho0)) rfl rfl h2 dX3_samplesOfARoundOfAll_14 rfl ?_
    refine j_get4 C0 (v := .int (μ (o0 + 4 + 3 * a2.toNatClampNeg) 4)) 4 (kd_3e (o := o0) ho0 (vp_lt h2)) fw_X3_samplesOfARoundOfAll_4 hw_X3_samplesOfARoundOfAll_1 (fun _ h9 => h9) (by decide) rfl dX3_samplesOfARoundOfAll_15 rfl ?_
    refine j_if_eq C0 (tgt := 35) dX3_samplesOfARoundOfAll_18 (by decide) rfl (fun c3 => ?_) (fun c3 => ?_)
    · have hX := hX.1 c3
      exact j_sub (l' := [(0, .ref (ad o0)), (1, .int a1), (2, .int a2)]) [0, 1, 2] rfl (w_X3_samplesOfARoundOfAll_L35 C0 hlk hret o0 a1 a2 μ K B hB ho0 hX)
    · have hX := hX.2 c3
      refine j_iload_n C0 1 dX3_samplesOfARoundOfAll_21 rfl rfl rfl ?_
      refine j_aload_n C0 0 dX3_samplesOfARoundOfAll_22 rfl rfl rfl ?_
      refine j_get3 C0 (v := .ref (ad (o0 + 2))) 2 ho0 fw_X3_samplesOfARoundOfAll_3 hw_X3_samplesOfARoundOfAll_0 (fun _ h9 => h9) (by decide) rfl dX3_samplesOfARoundOfAll_23 rfl ?_
      refine j_iload_n C0 2 dX3_samplesOfARoundOfAll_26 rfl rfl rfl ?_
      obtain ⟨h5, hX⟩ := hX
      refine j_aald C0 (n := 4) (t0 := 4) (o0 + 4 + 3 * a2.toNatClampNeg) (kd_lt (kd_3w ho0) (by decide)) (ce15 (kd_3w ho0)) rfl rfl h5 dX3_samplesOfARoundOfAll_27 rfl ?_
      refine j_callVi C0 0 [] (c_X4_samplesOfARound (o0 + 4 + 3 * a2.toNatClampNeg) (kd_3e (o := o0) ho0 (vp_lt h5)) hX) dX3_samplesOfARoundOfAll_28 gX3_samplesOfARoundOfAll_X4_samplesOfARound rfl (by decide +kernel) ⟨⟨Nat.le_of_ble_eq_true rfl, Nat.le_of_ble_eq_true rfl⟩, rfl, rfl⟩ (kd_lt (kd_3e (o := o0) ho0 (vp_lt h5)) (by decide)) (ce4 (kd_3e (o := o0) ho0 (vp_lt h5))) rfl rfl rfl (Nat.le_of_ble_eq_true rfl) rfl (fun r7 μ6 hX => ?_)
      refine j_mmax C0 hw_X3_samplesOfARoundOfAll_2 hw_X3_samplesOfARoundOfAll_3 hw_X3_samplesOfARoundOfAll_4 hw_X3_samplesOfARoundOfAll_5 ⟨Nat.le_of_ble_eq_true rfl, Nat.le_of_ble_eq_true rfl⟩ dX3_samplesOfARoundOfAll_31 rfl ?_
      refine j_topi (fun v8 e_v8 => ?_)
      have hX := hX v8 e_v8
      refine j_istore_n C0 [(1, .int v8), (0, .ref (ad o0)), (2, .int a2)] dX3_samplesOfARoundOfAll_34 rfl (by decide) rfl rfl ?_
      exact j_sub (l' := [(0, .ref (ad o0)), (1, .int v8), (2, .int a2)]) [1, 0, 2] rfl (w_X3_samplesOfARoundOfAll_L35 C0 hlk hret o0 v8 a2 μ6 K B hB ho0 hX)
theorem w_X3_samplesOfARoundOfAll_L4 {p : Program} {l : Launch} {e : Env} {s : State} {m : MethodId} {args : Array Value} {below : List Frame} {meth : Method} {c : Code} {D : va_G} {Y : Nat → ClassId} {ad : Nat → Nat} (C0 : CX D Y ad (PA ad) rm_X3_samplesOfARoundOfAll 0 0 p s args m c cX3_samplesOfARoundOfAll 3 RX3 wsX3_samplesOfARoundOfAll) (hlk : meth.locks = false) (hret : meth.sig.returnType = (some .int)) (K : Int32 → Mem → Prop) : ∀ (n : Nat) (o0 : Nat) (a1 : Int32) (a2 : Int32) (μ : Mem) (ho0 : kd o0 = 3) (hX : x_X3_samplesOfARoundOfAll_L4 K n o0 a1 a2 μ), J p l e rm_X3_samplesOfARoundOfAll s m args below meth c D Y ad (PA ad) 0 0 3 (MQ below (va_Qi K (BB D Y ad) (PA ad)) args s 0 0 (PA ad)) 4 [(0, .ref (ad o0)), (1, .int a1), (2, .int a2)] [] μ
  | 0, o0, a1, a2, μ, ho0, hX => hX.elim
  | n + 1, o0, a1, a2, μ, ho0, hX => wb_X3_samplesOfARoundOfAll_L4 C0 hlk hret o0 a1 a2 μ K (x_X3_samplesOfARoundOfAll_L4 K n) (fun o0 a1 a2 μ ho0 hx => w_X3_samplesOfARoundOfAll_L4 C0 hlk hret K n o0 a1 a2 μ ho0 hx) ho0 hX
def x_X3_samplesOfARoundOfAll (o0 : Nat) (μ : Mem) (K : Int32 → Mem → Prop) : Prop :=
  ∃ n : Nat, x_X3_samplesOfARoundOfAll_L4 K n o0 1 0 μ
set_option maxRecDepth 20000 in
theorem w_X3_samplesOfARoundOfAll {p : Program} {l : Launch} {e : Env} {s : State} {m : MethodId} {args : Array Value} {below : List Frame} {meth : Method} {c : Code} {D : va_G} {Y : Nat → ClassId} {ad : Nat → Nat} (C0 : CX D Y ad (PA ad) rm_X3_samplesOfARoundOfAll 0 0 p s args m c cX3_samplesOfARoundOfAll 3 RX3 wsX3_samplesOfARoundOfAll) (hlk : meth.locks = false) (hret : meth.sig.returnType = (some .int)) (o0 : Nat) (μ : Mem) (K : Int32 → Mem → Prop) (ho0 : kd o0 = 3) (hX : x_X3_samplesOfARoundOfAll o0 μ K) : J p l e rm_X3_samplesOfARoundOfAll s m args below meth c D Y ad (PA ad) 0 0 3 (MQ below (va_Qi K (BB D Y ad) (PA ad)) args s 0 0 (PA ad)) 0 [(0, .ref (ad o0))] [] μ := by
  refine j_iconst C0 1 dX3_samplesOfARoundOfAll_0 (by decide) rfl ?_
  refine j_istore_n C0 [(1, .int 1), (0, .ref (ad o0))] dX3_samplesOfARoundOfAll_1 rfl (by decide) rfl rfl ?_
  refine j_iconst C0 0 dX3_samplesOfARoundOfAll_2 (by decide) rfl ?_
  refine j_istore_n C0 [(2, .int 0), (1, .int 1), (0, .ref (ad o0))] dX3_samplesOfARoundOfAll_3 rfl (by decide) rfl rfl ?_
  obtain ⟨n, hX⟩ := hX
  exact j_sub (l' := [(0, .ref (ad o0)), (1, .int 1), (2, .int 0)]) [2, 1, 0] rfl (w_X3_samplesOfARoundOfAll_L4 C0 hlk hret K n o0 1 0 μ ho0 hX)
theorem c_X3_samplesOfARoundOfAll {l : Launch} {D : va_G} {Y : Nat → ClassId} {ad : Nat → Nat} (o0 : Nat) {μ : Mem} {K : Int32 → Mem → Prop} (ho0 : kd o0 = 3) (hX : x_X3_samplesOfARoundOfAll o0 μ K) : ConI l yX3_samplesOfARoundOfAll wsX3_samplesOfARoundOfAll rm_X3_samplesOfARoundOfAll [.ref (ad o0)] D Y ad μ K := conI_of (cc := cX3_samplesOfARoundOfAll) (maxL := 3) (ret := (some .int)) (own := RX3) _ (by decide +kernel) rfl rfl (Nat.le_of_ble_eq_true rfl) (fun p e s m args below meth c C0 hlk hret => j_sub (l' := [(0, .ref (ad o0))]) [0] rfl (w_X3_samplesOfARoundOfAll C0 hlk hret o0 μ K ho0 hX))
/-! PhaseTones$Sound.hasNoRoomFor(I)Z -/
abbrev rm_X3_hasNoRoomFor : Room := rmf 0 0
theorem fw_X3_hasNoRoomFor_3 : ∀ w ∈ wsX30, w ∈ wsX3_hasNoRoomFor := by decide +kernel
theorem hw_X3_hasNoRoomFor_0 : Cond.constant RX3 78 (999999) ∈ wsX3_hasNoRoomFor := by decide +kernel
theorem hw_X3_hasNoRoomFor_1 : Cond.fieldLink RX3 43 RX3 (TX3 3).2.1 (TX3 3).2.2.1 ∈ wsX3_hasNoRoomFor := by decide +kernel
def x_X3_hasNoRoomFor (o0 : Nat) (a1 : Int32) (μ : Mem) (K : Int32 → Mem → Prop) : Prop :=
  (a1 ≤ ((999999 : Int32) - (μ o0 3)) → K 0 μ) ∧ (¬ (a1 ≤ ((999999 : Int32) - (μ o0 3))) → K 1 μ)
set_option maxRecDepth 20000 in
theorem w_X3_hasNoRoomFor {p : Program} {l : Launch} {e : Env} {s : State} {m : MethodId} {args : Array Value} {below : List Frame} {meth : Method} {c : Code} {D : va_G} {Y : Nat → ClassId} {ad : Nat → Nat} (C0 : CX D Y ad (PA ad) rm_X3_hasNoRoomFor 0 0 p s args m c cX3_hasNoRoomFor 2 RX3 wsX3_hasNoRoomFor) (hlk : meth.locks = false) (hret : meth.sig.returnType = (some .boolean)) (o0 : Nat) (a1 : Int32) (μ : Mem) (K : Int32 → Mem → Prop) (ho0 : kd o0 = 3) (hX : x_X3_hasNoRoomFor o0 a1 μ K) : J p l e rm_X3_hasNoRoomFor s m args below meth c D Y ad (PA ad) 0 0 2 (MQ below (va_Qi K (BB D Y ad) (PA ad)) args s 0 0 (PA ad)) 0 [(0, .ref (ad o0)), (1, .int a1)] [] μ := by
  refine j_iload_n C0 1 dX3_hasNoRoomFor_0 rfl rfl rfl ?_
  refine j_ldc C0 999999 dX3_hasNoRoomFor_1 hw_X3_hasNoRoomFor_0 rfl ?_
  refine j_aload_n C0 0 dX3_hasNoRoomFor_3 rfl rfl rfl ?_
  refine j_get3 C0 (v := .int (μ o0 3)) 3 ho0 fw_X3_hasNoRoomFor_3 hw_X3_hasNoRoomFor_1 (fun _ h9 => h9) (by decide) rfl dX3_hasNoRoomFor_4 rfl ?_
  refine j_isub C0 dX3_hasNoRoomFor_7 rfl ?_
  refine j_icmp_le C0 (tgt := 15) dX3_hasNoRoomFor_8 (by decide) rfl (fun c1 => ?_) (fun c1 => ?_)
  · have hX := hX.1 c1
    refine j_iconst C0 0 dX3_hasNoRoomFor_15 (by decide) rfl ?_
    exact j_zret C0 hlk hret dX3_hasNoRoomFor_16 zb0 hX
  · have hX := hX.2 c1
    refine j_iconst C0 1 dX3_hasNoRoomFor_11 (by decide) rfl ?_
    refine j_goto C0 (tgt := 16) dX3_hasNoRoomFor_12 (by decide) ?_
    exact j_zret C0 hlk hret dX3_hasNoRoomFor_16 zb1 hX
theorem c_X3_hasNoRoomFor {l : Launch} {D : va_G} {Y : Nat → ClassId} {ad : Nat → Nat} (o0 : Nat) (a1 : Int32) {μ : Mem} {K : Int32 → Mem → Prop} (ho0 : kd o0 = 3) (hX : x_X3_hasNoRoomFor o0 a1 μ K) : ConI l yX3_hasNoRoomFor wsX3_hasNoRoomFor rm_X3_hasNoRoomFor [.ref (ad o0), .int a1] D Y ad μ K := conI_of (cc := cX3_hasNoRoomFor) (maxL := 2) (ret := (some .boolean)) (own := RX3) _ (by decide +kernel) rfl rfl (Nat.le_of_ble_eq_true rfl) (fun p e s m args below meth c C0 hlk hret => j_sub (l' := [(0, .ref (ad o0)), (1, .int a1)]) [0, 1] rfl (w_X3_hasNoRoomFor C0 hlk hret o0 a1 μ K ho0 hX))
/-! java/lang/Math.floorMod(II)I -/
abbrev rm_J9_floorMod_7cf53 : Room := rmf 0 0
def x_J9_floorMod_7cf53 (a0 : Int32) (a1 : Int32) (μ : Mem) (K : Int32 → Mem → Prop) : Prop :=
  ¬ a1 = 0 ∧ ∀ v2 : Int32, v2 = (a0 - a0 / a1 * a1) → (0 ≤ (a0 ^^^ a1) → K v2 μ) ∧ (¬ (0 ≤ (a0 ^^^ a1)) → (v2 = 0 → K v2 μ) ∧ (¬ (v2 = 0) → K (v2 + a1) μ))
set_option maxRecDepth 20000 in
theorem w_J9_floorMod_7cf53 {p : Program} {l : Launch} {e : Env} {s : State} {m : MethodId} {args : Array Value} {below : List Frame} {meth : Method} {c : Code} {D : va_G} {Y : Nat → ClassId} {ad : Nat → Nat} (C0 : CX D Y ad (PA ad) rm_J9_floorMod_7cf53 0 0 p s args m c cJ9_floorMod_7cf53 3 RJ9 wsJ9_floorMod_7cf53) (hlk : meth.locks = false) (hret : meth.sig.returnType = (some .int)) (a0 : Int32) (a1 : Int32) (μ : Mem) (K : Int32 → Mem → Prop)  (hX : x_J9_floorMod_7cf53 a0 a1 μ K) : J p l e rm_J9_floorMod_7cf53 s m args below meth c D Y ad (PA ad) 0 0 3 (MQ below (va_Qi K (BB D Y ad) (PA ad)) args s 0 0 (PA ad)) 0 [(0, .int a0), (1, .int a1)] [] μ := by
  refine j_iload_n C0 0 dJ9_floorMod_7cf53_0 rfl rfl rfl ?_
  refine j_iload_n C0 1 dJ9_floorMod_7cf53_1 rfl rfl rfl ?_
  obtain ⟨h1, hX⟩ := hX
  refine j_irem C0 dJ9_floorMod_7cf53_2 h1 rfl ?_
  refine j_topi (fun v2 e_v2 => ?_)
  have hX := hX v2 e_v2
  refine j_istore_n C0 [(2, .int v2), (0, .int a0), (1, .int a1)] dJ9_floorMod_7cf53_3 rfl (by decide) rfl rfl ?_
  refine j_iload_n C0 1 dJ9_floorMod_7cf53_4 rfl rfl rfl ?_
  refine j_iload_n C0 2 dJ9_floorMod_7cf53_5 rfl rfl rfl ?_
  refine j_ixor C0 dJ9_floorMod_7cf53_6 rfl ?_
  refine j_if_ge C0 (tgt := 18) dJ9_floorMod_7cf53_7 (by decide) rfl (fun c3 => ?_) (fun c3 => ?_)
  · have hX := hX.1 c3
    refine j_iload_n C0 0 dJ9_floorMod_7cf53_18 rfl rfl rfl ?_
    exact j_iret C0 hlk hret dJ9_floorMod_7cf53_19 hX
  · have hX := hX.2 c3
    refine j_iload_n C0 0 dJ9_floorMod_7cf53_10 rfl rfl rfl ?_
    refine j_if_eq C0 (tgt := 18) dJ9_floorMod_7cf53_11 (by decide) rfl (fun c4 => ?_) (fun c4 => ?_)
    · have hX := hX.1 c4
      refine j_iload_n C0 0 dJ9_floorMod_7cf53_18 rfl rfl rfl ?_
      exact j_iret C0 hlk hret dJ9_floorMod_7cf53_19 hX
    · have hX := hX.2 c4
      refine j_iload_n C0 0 dJ9_floorMod_7cf53_14 rfl rfl rfl ?_
      refine j_iload_n C0 2 dJ9_floorMod_7cf53_15 rfl rfl rfl ?_
      refine j_iadd C0 dJ9_floorMod_7cf53_16 rfl ?_
      exact j_iret C0 hlk hret dJ9_floorMod_7cf53_17 hX
theorem c_J9_floorMod_7cf53 {l : Launch} {D : va_G} {Y : Nat → ClassId} {ad : Nat → Nat} (a0 : Int32) (a1 : Int32) {μ : Mem} {K : Int32 → Mem → Prop}  (hX : x_J9_floorMod_7cf53 a0 a1 μ K) : ConI l yJ9_floorMod_7cf53 wsJ9_floorMod_7cf53 rm_J9_floorMod_7cf53 [.int a0, .int a1] D Y ad μ K := conI_of (cc := cJ9_floorMod_7cf53) (maxL := 3) (ret := (some .int)) (own := RJ9) _ (by decide +kernel) rfl rfl (Nat.le_of_ble_eq_true rfl) (fun p e s m args below meth c C0 hlk hret => j_sub (l' := [(0, .int a0), (1, .int a1)]) [0, 1] rfl (w_J9_floorMod_7cf53 C0 hlk hret a0 a1 μ K  hX))
/-! PhaseTones$Sound.mixtureAgo(I)I -/
abbrev rm_X3_mixtureAgo : Room := rmf 1 22
theorem fw_X3_mixtureAgo_3 : ∀ w ∈ wsX30, w ∈ wsX3_mixtureAgo := by decide +kernel
theorem hw_X3_mixtureAgo_0 : Cond.fieldLink RX3 25 RX3 (TX3 7).2.1 (TX3 7).2.2.1 ∈ wsX3_mixtureAgo := by decide +kernel
theorem hw_X3_mixtureAgo_1 : Cond.fieldLink RX3 43 RX3 (TX3 3).2.1 (TX3 3).2.2.1 ∈ wsX3_mixtureAgo := by decide +kernel
def x_X3_mixtureAgo (o0 : Nat) (a1 : Int32) (μ : Mem) (K : Int32 → Mem → Prop) : Prop :=
  x_J9_floorMod_7cf53 (((μ o0 3) - 1) - a1) 32 μ (fun r2 μ1 => vp_in r2 32 ∧ K (μ1 (o0 + 3) r2.toNatClampNeg) μ1)
set_option maxRecDepth 20000 in
theorem w_X3_mixtureAgo {p : Program} {l : Launch} {e : Env} {s : State} {m : MethodId} {args : Array Value} {below : List Frame} {meth : Method} {c : Code} {D : va_G} {Y : Nat → ClassId} {ad : Nat → Nat} (C0 : CX D Y ad (PA ad) rm_X3_mixtureAgo 0 0 p s args m c cX3_mixtureAgo 2 RX3 wsX3_mixtureAgo) (hlk : meth.locks = false) (hret : meth.sig.returnType = (some .int)) (o0 : Nat) (a1 : Int32) (μ : Mem) (K : Int32 → Mem → Prop) (ho0 : kd o0 = 3) (hX : x_X3_mixtureAgo o0 a1 μ K) : J p l e rm_X3_mixtureAgo s m args below meth c D Y ad (PA ad) 0 0 2 (MQ below (va_Qi K (BB D Y ad) (PA ad)) args s 0 0 (PA ad)) 0 [(0, .ref (ad o0)), (1, .int a1)] [] μ := by
  refine j_aload_n C0 0 dX3_mixtureAgo_0 rfl rfl rfl ?_
  refine j_get3 C0 (v := .ref (ad (o0 + 3))) 7 ho0 fw_X3_mixtureAgo_3 hw_X3_mixtureAgo_0 (fun _ h9 => h9) (by decide) rfl dX3_mixtureAgo_1 rfl ?_
  refine j_aload_n C0 0 dX3_mixtureAgo_4 rfl rfl rfl ?_
  refine j_get3 C0 (v := .int (μ o0 3)) 3 ho0 fw_X3_mixtureAgo_3 hw_X3_mixtureAgo_1 (fun _ h9 => h9) (by decide) rfl dX3_mixtureAgo_5 rfl ?_
  refine j_iconst C0 1 dX3_mixtureAgo_8 (by decide) rfl ?_
  refine j_isub C0 dX3_mixtureAgo_9 rfl ?_
  refine j_iload_n C0 1 dX3_mixtureAgo_10 rfl rfl rfl ?_
  refine j_isub C0 dX3_mixtureAgo_11 rfl ?_
  refine j_bipush C0 32 dX3_mixtureAgo_12 (by decide) rfl ?_
  refine j_callSi C0 2 [.int (((μ o0 3) - 1) - a1), .int 32] (c_J9_floorMod_7cf53 (((μ o0 3) - 1) - a1) 32  hX) dX3_mixtureAgo_14 gX3_mixtureAgo_J9_floorMod_7cf53 rfl (by decide +kernel) ⟨⟨Nat.le_of_ble_eq_true rfl, Nat.le_of_ble_eq_true rfl⟩, rfl, rfl⟩ rfl rfl (Nat.le_of_ble_eq_true rfl) rfl (fun r2 μ1 hX => ?_)
  obtain ⟨h3, hX⟩ := hX
  refine j_iald C0 (n := 32) (kd_lt (kd_3l ho0) (by decide)) (ce11 (kd_3l ho0)) h3 dX3_mixtureAgo_17 rfl ?_
  exact j_iret C0 hlk hret dX3_mixtureAgo_18 hX
theorem c_X3_mixtureAgo {l : Launch} {D : va_G} {Y : Nat → ClassId} {ad : Nat → Nat} (o0 : Nat) (a1 : Int32) {μ : Mem} {K : Int32 → Mem → Prop} (ho0 : kd o0 = 3) (hX : x_X3_mixtureAgo o0 a1 μ K) : ConI l yX3_mixtureAgo wsX3_mixtureAgo rm_X3_mixtureAgo [.ref (ad o0), .int a1] D Y ad μ K := conI_of (cc := cX3_mixtureAgo) (maxL := 2) (ret := (some .int)) (own := RX3) _ (by decide +kernel) rfl rfl (Nat.le_of_ble_eq_true rfl) (fun p e s m args below meth c C0 hlk hret => j_sub (l' := [(0, .ref (ad o0)), (1, .int a1)]) [0, 1] rfl (w_X3_mixtureAgo C0 hlk hret o0 a1 μ K ho0 hX))
/-! PhaseTones$Sound.keepMixture(I)V -/
abbrev rm_X3_keepMixture : Room := rmf 2 43
theorem fw_X3_keepMixture_3 : ∀ w ∈ wsX30, w ∈ wsX3_keepMixture := by decide +kernel
theorem hw_X3_keepMixture_0 : Cond.fieldLink RX3 43 RX3 (TX3 3).2.1 (TX3 3).2.2.1 ∈ wsX3_keepMixture := by decide +kernel
theorem hw_X3_keepMixture_1 : Cond.fieldLink RX3 49 RX3 (TX3 5).2.1 (TX3 5).2.2.1 ∈ wsX3_keepMixture := by decide +kernel
theorem hw_X3_keepMixture_2 : Cond.constant RX3 103 (1000003) ∈ wsX3_keepMixture := by decide +kernel
theorem hw_X3_keepMixture_3 : Cond.fieldLink RX3 25 RX3 (TX3 7).2.1 (TX3 7).2.2.1 ∈ wsX3_keepMixture := by decide +kernel
theorem hw_X3_keepMixture_4 : Cond.fieldLink RX3 52 RX3 (TX3 6).2.1 (TX3 6).2.2.1 ∈ wsX3_keepMixture := by decide +kernel
def x_X3_keepMixture_L26 (K : Mem → Prop) (o0 : Nat) (a1 : Int32) (μ : Mem) : Prop :=
  ∀ μ2 : Mem, μ2 = um μ o0 (upd (μ o0) 5 (((μ o0 5) + a1) - ((μ o0 5) + a1) / 1000003 * 1000003)) → x_J9_floorMod_7cf53 (μ2 o0 3) 32 μ2 (fun r4 μ3 => vp_in r4 32 ∧ ∀ μ6 : Mem, μ6 = um μ3 (o0 + 3) (upd (μ3 (o0 + 3)) r4.toNatClampNeg a1) → ∀ μ7 : Mem, μ7 = um μ6 o0 (upd (μ6 o0) 3 ((μ6 o0 3) + 1)) → K μ7)
set_option maxRecDepth 20000 in
theorem w_X3_keepMixture_L26 {p : Program} {l : Launch} {e : Env} {s : State} {m : MethodId} {args : Array Value} {below : List Frame} {meth : Method} {c : Code} {D : va_G} {Y : Nat → ClassId} {ad : Nat → Nat} (C0 : CX D Y ad (PA ad) rm_X3_keepMixture 0 0 p s args m c cX3_keepMixture 2 RX3 wsX3_keepMixture) (hlk : meth.locks = false) (hret : meth.sig.returnType = none) (o0 : Nat) (a1 : Int32) (μ : Mem) (K : Mem → Prop) (ho0 : kd o0 = 3) (hX : x_X3_keepMixture_L26 K o0 a1 μ) : J p l e rm_X3_keepMixture s m args below meth c D Y ad (PA ad) 0 0 2 (MQ below (va_Qv K (BB D Y ad) (PA ad)) args s 0 0 (PA ad)) 26 [(0, .ref (ad o0)), (1, .int a1)] [] μ := by
  refine j_aload_n C0 0 dX3_keepMixture_26 rfl rfl rfl ?_
  refine j_aload_n C0 0 dX3_keepMixture_27 rfl rfl rfl ?_
  refine j_get3 C0 (v := .int (μ o0 5)) 5 ho0 fw_X3_keepMixture_3 hw_X3_keepMixture_1 (fun _ h9 => h9) (by decide) rfl dX3_keepMixture_28 rfl ?_
  refine j_iload_n C0 1 dX3_keepMixture_31 rfl rfl rfl ?_
  refine j_iadd C0 dX3_keepMixture_32 rfl ?_
  refine j_ldc C0 1000003 dX3_keepMixture_33 hw_X3_keepMixture_2 rfl ?_
  refine j_irem C0 dX3_keepMixture_35 (by decide) rfl ?_
  refine j_put3_5 C0 ho0 fw_X3_keepMixture_3 hw_X3_keepMixture_1 dX3_keepMixture_36 rfl ?_
  refine j_nm (fun μ2 e_μ2 => ?_)
  have hX := hX μ2 e_μ2
  refine j_aload_n C0 0 dX3_keepMixture_39 rfl rfl rfl ?_
  refine j_get3 C0 (v := .ref (ad (o0 + 3))) 7 ho0 fw_X3_keepMixture_3 hw_X3_keepMixture_3 (fun _ h9 => h9) (by decide) rfl dX3_keepMixture_40 rfl ?_
  refine j_aload_n C0 0 dX3_keepMixture_43 rfl rfl rfl ?_
  refine j_get3 C0 (v := .int (μ2 o0 3)) 3 ho0 fw_X3_keepMixture_3 hw_X3_keepMixture_0 (fun _ h9 => h9) (by decide) rfl dX3_keepMixture_44 rfl ?_
  refine j_bipush C0 32 dX3_keepMixture_47 (by decide) rfl ?_
  refine j_callSi C0 2 [.int (μ2 o0 3), .int 32] (c_J9_floorMod_7cf53 (μ2 o0 3) 32  hX) dX3_keepMixture_49 gX3_keepMixture_J9_floorMod_7cf53 rfl (by decide +kernel) ⟨⟨Nat.le_of_ble_eq_true rfl, Nat.le_of_ble_eq_true rfl⟩, rfl, rfl⟩ rfl rfl (Nat.le_of_ble_eq_true rfl) rfl (fun r4 μ3 hX => ?_)
  refine j_iload_n C0 1 dX3_keepMixture_52 rfl rfl rfl ?_
  obtain ⟨h5, hX⟩ := hX
  refine j_iast C0 (n := 32) (kd_lt (kd_3l ho0) (by decide)) (ce11 (kd_3l ho0)) h5 dX3_keepMixture_53 rfl ?_
  refine j_nm (fun μ6 e_μ6 => ?_)
  have hX := hX μ6 e_μ6
  refine j_aload_n C0 0 dX3_keepMixture_54 rfl rfl rfl ?_
  refine j_dup C0 dX3_keepMixture_55 rfl rfl ?_
  refine j_get3 C0 (v := .int (μ6 o0 3)) 3 ho0 fw_X3_keepMixture_3 hw_X3_keepMixture_0 (fun _ h9 => h9) (by decide) rfl dX3_keepMixture_56 rfl ?_
  refine j_iconst C0 1 dX3_keepMixture_59 (by decide) rfl ?_
  refine j_iadd C0 dX3_keepMixture_60 rfl ?_
  refine j_put3_3 C0 ho0 fw_X3_keepMixture_3 hw_X3_keepMixture_0 dX3_keepMixture_61 rfl ?_
  refine j_nm (fun μ7 e_μ7 => ?_)
  have hX := hX μ7 e_μ7
  exact j_vret C0 hlk hret dX3_keepMixture_64 hX
def x_X3_keepMixture (o0 : Nat) (a1 : Int32) (μ : Mem) (K : Mem → Prop) : Prop :=
  ((μ o0 3) ≤ 0 → x_X3_keepMixture_L26 K o0 a1 μ) ∧ (¬ ((μ o0 3) ≤ 0) → x_X3_mixtureAgo o0 0 μ (fun r9 μ8 => (a1 ≤ r9 → x_X3_keepMixture_L26 K o0 a1 μ8) ∧ (¬ (a1 ≤ r9) → ∀ μ11 : Mem, μ11 = um μ8 o0 (upd (μ8 o0) 6 ((μ8 o0 6) + 1)) → x_X3_keepMixture_L26 K o0 a1 μ11)))
set_option maxRecDepth 20000 in
theorem w_X3_keepMixture {p : Program} {l : Launch} {e : Env} {s : State} {m : MethodId} {args : Array Value} {below : List Frame} {meth : Method} {c : Code} {D : va_G} {Y : Nat → ClassId} {ad : Nat → Nat} (C0 : CX D Y ad (PA ad) rm_X3_keepMixture 0 0 p s args m c cX3_keepMixture 2 RX3 wsX3_keepMixture) (hlk : meth.locks = false) (hret : meth.sig.returnType = none) (o0 : Nat) (a1 : Int32) (μ : Mem) (K : Mem → Prop) (ho0 : kd o0 = 3) (hX : x_X3_keepMixture o0 a1 μ K) : J p l e rm_X3_keepMixture s m args below meth c D Y ad (PA ad) 0 0 2 (MQ below (va_Qv K (BB D Y ad) (PA ad)) args s 0 0 (PA ad)) 0 [(0, .ref (ad o0)), (1, .int a1)] [] μ := by
  refine j_aload_n C0 0 dX3_keepMixture_0 rfl rfl rfl ?_
  refine j_get3 C0 (v := .int (μ o0 3)) 3 ho0 fw_X3_keepMixture_3 hw_X3_keepMixture_0 (fun _ h9 => h9) (by decide) rfl dX3_keepMixture_1 rfl ?_
  refine j_if_le C0 (tgt := 26) dX3_keepMixture_4 (by decide) rfl (fun c1 => ?_) (fun c1 => ?_)
  · have hX := hX.1 c1
    exact j_sub (l' := [(0, .ref (ad o0)), (1, .int a1)]) [0, 1] rfl (w_X3_keepMixture_L26 C0 hlk hret o0 a1 μ K ho0 hX)
  · have hX := hX.2 c1
    refine j_iload_n C0 1 dX3_keepMixture_7 rfl rfl rfl ?_
    refine j_aload_n C0 0 dX3_keepMixture_8 rfl rfl rfl ?_
    refine j_iconst C0 0 dX3_keepMixture_9 (by decide) rfl ?_
    refine j_callVi C0 1 [.int 0] (c_X3_mixtureAgo o0 0 ho0 hX) dX3_keepMixture_10 gX3_keepMixture_X3_mixtureAgo rfl (by decide +kernel) ⟨⟨Nat.le_of_ble_eq_true rfl, Nat.le_of_ble_eq_true rfl⟩, rfl, rfl⟩ (kd_lt ho0 (by decide)) (ce3 ho0) rfl rfl rfl (Nat.le_of_ble_eq_true rfl) rfl (fun r9 μ8 hX => ?_)
    refine j_icmp_le C0 (tgt := 26) dX3_keepMixture_13 (by decide) rfl (fun c10 => ?_) (fun c10 => ?_)
    · have hX := hX.1 c10
      exact j_sub (l' := [(0, .ref (ad o0)), (1, .int a1)]) [0, 1] rfl (w_X3_keepMixture_L26 C0 hlk hret o0 a1 μ8 K ho0 hX)
    · have hX := hX.2 c10
      refine j_aload_n C0 0 dX3_keepMixture_16 rfl rfl rfl ?_
      refine j_dup C0 dX3_keepMixture_17 rfl rfl ?_
      refine j_get3 C0 (v := .int (μ8 o0 6)) 6 ho0 fw_X3_keepMixture_3 hw_X3_keepMixture_4 (fun _ h9 => h9) (by decide) rfl dX3_keepMixture_18 rfl ?_
      refine j_iconst C0 1 dX3_keepMixture_21 (by decide) rfl ?_
      refine j_iadd C0 dX3_keepMixture_22 rfl ?_
      refine j_put3_6 C0 ho0 fw_X3_keepMixture_3 hw_X3_keepMixture_4 dX3_keepMixture_23 rfl ?_
      refine j_nm (fun μ11 e_μ11 => ?_)
      have hX := hX μ11 e_μ11
      exact j_sub (l' := [(0, .ref (ad o0)), (1, .int a1)]) [0, 1] rfl (w_X3_keepMixture_L26 C0 hlk hret o0 a1 μ11 K ho0 hX)
theorem c_X3_keepMixture {l : Launch} {D : va_G} {Y : Nat → ClassId} {ad : Nat → Nat} (o0 : Nat) (a1 : Int32) {μ : Mem} {K : Mem → Prop} (ho0 : kd o0 = 3) (hX : x_X3_keepMixture o0 a1 μ K) : ConV l yX3_keepMixture wsX3_keepMixture rm_X3_keepMixture [.ref (ad o0), .int a1] D Y ad μ K := conV_of (cc := cX3_keepMixture) (maxL := 2) (ret := none) (own := RX3) _ (by decide +kernel) rfl rfl (Nat.le_of_ble_eq_true rfl) (fun p e s m args below meth c C0 hlk hret => j_sub (l' := [(0, .ref (ad o0)), (1, .int a1)]) [0, 1] rfl (w_X3_keepMixture C0 hlk hret o0 a1 μ K ho0 hX))
/-! PhaseTones$Sound.makeOne()V -/
abbrev rm_X3_makeOne : Room := rmf 3 64
theorem fw_X3_makeOne_3 : ∀ w ∈ wsX30, w ∈ wsX3_makeOne := by decide +kernel
theorem fw_X3_makeOne_4 : ∀ w ∈ wsX40, w ∈ wsX3_makeOne := by decide +kernel
theorem hw_X3_makeOne_0 : Cond.fieldLink RX3 9 RX3 (TX3 0).2.1 (TX3 0).2.2.1 ∈ wsX3_makeOne := by decide +kernel
theorem hw_X3_makeOne_1 : Cond.methodLink RX3 89 Lib.Math.min.name ∈ wsX3_makeOne := by decide +kernel
theorem hw_X3_makeOne_2 : Cond.static Lib.Math.min.name ∈ wsX3_makeOne := by decide +kernel
theorem hw_X3_makeOne_3 : Cond.initialized "java/lang/Math" ∈ wsX3_makeOne := by decide +kernel
theorem hw_X3_makeOne_4 : Cond.code Lib.Math.min.name Lib.Math.min.code 2 (some .int) ∈ wsX3_makeOne := by decide +kernel
theorem hw_X3_makeOne_5 : Cond.fieldLink RX3 21 RX3 (TX3 2).2.1 (TX3 2).2.2.1 ∈ wsX3_makeOne := by decide +kernel
theorem hw_X3_makeOne_6 : Cond.fieldLink RX3 29 RX4 (TX4 4).2.1 (TX4 4).2.2.1 ∈ wsX3_makeOne := by decide +kernel
theorem hw_X3_makeOne_7 : Cond.fieldLink RX3 46 RX3 (TX3 4).2.1 (TX3 4).2.2.1 ∈ wsX3_makeOne := by decide +kernel
def x_X3_makeOne_L63 (K : Mem → Prop) (B : Nat → Int32 → Mem → Prop) (o0 : Nat) (a2 : Int32) (μ : Mem) : Prop :=
  ∀ v9 : Int32, v9 = a2 + 1 → B o0 v9 μ
set_option maxRecDepth 20000 in
theorem w_X3_makeOne_L63 {p : Program} {l : Launch} {e : Env} {s : State} {m : MethodId} {args : Array Value} {below : List Frame} {meth : Method} {c : Code} {D : va_G} {Y : Nat → ClassId} {ad : Nat → Nat} (C0 : CX D Y ad (PA ad) rm_X3_makeOne 0 0 p s args m c cX3_makeOne 3 RX3 wsX3_makeOne) (hlk : meth.locks = false) (hret : meth.sig.returnType = none) (o0 : Nat) (a2 : Int32) (μ : Mem) (K : Mem → Prop) (B : Nat → Int32 → Mem → Prop) (hB : ∀ (o0 : Nat) (a2 : Int32) (μ : Mem), kd o0 = 3 → B o0 a2 μ → J p l e rm_X3_makeOne s m args below meth c D Y ad (PA ad) 0 0 3 (MQ below (va_Qv K (BB D Y ad) (PA ad)) args s 0 0 (PA ad)) 37 [(0, .ref (ad o0)), (2, .int a2)] [] μ) (ho0 : kd o0 = 3) (hX : x_X3_makeOne_L63 K B o0 a2 μ) : J p l e rm_X3_makeOne s m args below meth c D Y ad (PA ad) 0 0 3 (MQ below (va_Qv K (BB D Y ad) (PA ad)) args s 0 0 (PA ad)) 63 [(0, .ref (ad o0)), (2, .int a2)] [] μ := by
  obtain ⟨v9, e_v9⟩ : ∃ z : Int32, z = a2 + 1 := ⟨_, rfl⟩
  have hX := hX v9 e_v9
  refine j_iinc C0 1 v9 [(2, .int v9), (0, .ref (ad o0))] dX3_makeOne_63 rfl (by rw [e_v9]; rfl) (by decide) rfl rfl ?_
  refine j_goto C0 (tgt := 37) dX3_makeOne_66 (by decide) ?_
  exact j_sub (l' := [(0, .ref (ad o0)), (2, .int v9)]) [1, 0] rfl (hB o0 v9 μ ho0 hX)
def xb_X3_makeOne_L37 (K : Mem → Prop) (B : Nat → Int32 → Mem → Prop) (o0 : Nat) (a2 : Int32) (μ : Mem) : Prop :=
  (4 ≤ a2 → K μ) ∧ (¬ (4 ≤ a2) → vp_in a2 4 ∧ ((μ (o0 + 4 + 3 * a2.toNatClampNeg) 4) = 0 → x_X3_makeOne_L63 K B o0 a2 μ) ∧ (¬ ((μ (o0 + 4 + 3 * a2.toNatClampNeg) 4) = 0) → vp_in a2 4 ∧ x_X4_goOn (o0 + 4 + 3 * a2.toNatClampNeg) μ (fun μ11 => x_X3_makeOne_L63 K B o0 a2 μ11)))
def x_X3_makeOne_L37 (K : Mem → Prop) : Nat → Nat → Int32 → Mem → Prop
  | 0 => fun _ _ _ => False
  | n + 1 => fun o0 a2 μ => xb_X3_makeOne_L37 K (x_X3_makeOne_L37 K n) o0 a2 μ
set_option maxRecDepth 20000 in
theorem wb_X3_makeOne_L37 {p : Program} {l : Launch} {e : Env} {s : State} {m : MethodId} {args : Array Value} {below : List Frame} {meth : Method} {c : Code} {D : va_G} {Y : Nat → ClassId} {ad : Nat → Nat} (C0 : CX D Y ad (PA ad) rm_X3_makeOne 0 0 p s args m c cX3_makeOne 3 RX3 wsX3_makeOne) (hlk : meth.locks = false) (hret : meth.sig.returnType = none) (o0 : Nat) (a2 : Int32) (μ : Mem) (K : Mem → Prop) (B : Nat → Int32 → Mem → Prop) (hB : ∀ (o0 : Nat) (a2 : Int32) (μ : Mem), kd o0 = 3 → B o0 a2 μ → J p l e rm_X3_makeOne s m args below meth c D Y ad (PA ad) 0 0 3 (MQ below (va_Qv K (BB D Y ad) (PA ad)) args s 0 0 (PA ad)) 37 [(0, .ref (ad o0)), (2, .int a2)] [] μ) (ho0 : kd o0 = 3) (hX : xb_X3_makeOne_L37 K B o0 a2 μ) : J p l e rm_X3_makeOne s m args below meth c D Y ad (PA ad) 0 0 3 (MQ below (va_Qv K (BB D Y ad) (PA ad)) args s 0 0 (PA ad)) 37 [(0, .ref (ad o0)), (2, .int a2)] [] μ := by
  refine j_iload_n C0 1 dX3_makeOne_37 rfl rfl rfl ?_
  refine j_iconst C0 4 dX3_makeOne_38 (by decide) rfl ?_
  refine j_icmp_ge C0 (tgt := 69) dX3_makeOne_39 (by decide) rfl (fun c6 => ?_) (fun c6 => ?_)
  · have hX := hX.1 c6
    exact j_vret C0 hlk hret dX3_makeOne_69 hX
  · have hX := hX.2 c6
    refine j_aload_n C0 0 dX3_makeOne_42 rfl rfl rfl ?_
    refine j_get3 C0 (v := .ref (ad (o0 + 2))) 2 ho0 fw_X3_makeOne_3 hw_X3_makeOne_5 (fun _ h9 => h9) (by decide) rfl dX3_makeOne_43 rfl ?_
    refine j_iload_n C0 1 dX3_makeOne_46 rfl rfl rfl ?_
    obtain ⟨h7, hX⟩ := hX
    refine j_aald C0 (n := 4) (t0 := 4) (o0 + 4 + 3 * a2.toNatClampNeg) (kd_lt (kd_3w ho0) (by decide)) (ce15 (kd_3w ho0)) rfl rfl h7 dX3_makeOne_47 rfl ?_
    refine j_get4 C0 (v := .int (μ (o0 + 4 + 3 * a2.toNatClampNeg) 4)) 4 (kd_3e (o := o0) ho0 (vp_lt h7)) fw_X3_makeOne_4 hw_X3_makeOne_6 (fun _ h9 => h9) (by decide) rfl dX3_makeOne_48 rfl ?_
    refine j_if_eq C0 (tgt := 63) dX3_makeOne_51 (by decide) rfl (fun c8 => ?_) (fun c8 => ?_)
    · have hX := hX.1 c8
      exact j_sub (l' := [(0, .ref (ad o0)), (2, .int a2)]) [0, 1] rfl (w_X3_makeOne_L63 C0 hlk hret o0 a2 μ K B hB ho0 hX)
    · have hX := hX.2 c8
      refine j_aload_n C0 0 dX3_makeOne_54 rfl rfl rfl ?_
      refine j_get3 C0 (v := .ref (ad (o0 + 2))) 2 ho0 fw_X3_makeOne_3 hw_X3_makeOne_5 (fun _ h9 => h9) (by decide) rfl dX3_makeOne_55 rfl ?_
      refine j_iload_n C0 1 dX3_makeOne_58 rfl rfl rfl ?_
      obtain ⟨h10, hX⟩ := hX
      refine j_aald C0 (n := 4) (t0 := 4) (o0 + 4 + 3 * a2.toNatClampNeg) (kd_lt (kd_3w ho0) (by decide)) (ce15 (kd_3w ho0)) rfl rfl h10 dX3_makeOne_59 rfl ?_
      refine j_callVv C0 0 [] (c_X4_goOn (o0 + 4 + 3 * a2.toNatClampNeg) (kd_3e (o := o0) ho0 (vp_lt h10)) hX) dX3_makeOne_60 gX3_makeOne_X4_goOn rfl (by decide +kernel) ⟨⟨Nat.le_of_ble_eq_true rfl, Nat.le_of_ble_eq_true rfl⟩, rfl, rfl⟩ (kd_lt (kd_3e (o := o0) ho0 (vp_lt h10)) (by decide)) (ce4 (kd_3e (o := o0) ho0 (vp_lt h10))) rfl rfl rfl (Nat.le_of_ble_eq_true rfl) rfl (fun μ11 hX => ?_)
      exact j_sub (l' := [(0, .ref (ad o0)), (2, .int a2)]) [0, 1] rfl (w_X3_makeOne_L63 C0 hlk hret o0 a2 μ11 K B hB ho0 hX)
theorem w_X3_makeOne_L37 {p : Program} {l : Launch} {e : Env} {s : State} {m : MethodId} {args : Array Value} {below : List Frame} {meth : Method} {c : Code} {D : va_G} {Y : Nat → ClassId} {ad : Nat → Nat} (C0 : CX D Y ad (PA ad) rm_X3_makeOne 0 0 p s args m c cX3_makeOne 3 RX3 wsX3_makeOne) (hlk : meth.locks = false) (hret : meth.sig.returnType = none) (K : Mem → Prop) : ∀ (n : Nat) (o0 : Nat) (a2 : Int32) (μ : Mem) (ho0 : kd o0 = 3) (hX : x_X3_makeOne_L37 K n o0 a2 μ), J p l e rm_X3_makeOne s m args below meth c D Y ad (PA ad) 0 0 3 (MQ below (va_Qv K (BB D Y ad) (PA ad)) args s 0 0 (PA ad)) 37 [(0, .ref (ad o0)), (2, .int a2)] [] μ
  | 0, o0, a2, μ, ho0, hX => hX.elim
  | n + 1, o0, a2, μ, ho0, hX => wb_X3_makeOne_L37 C0 hlk hret o0 a2 μ K (x_X3_makeOne_L37 K n) (fun o0 a2 μ ho0 hx => w_X3_makeOne_L37 C0 hlk hret K n o0 a2 μ ho0 hx) ho0 hX
def x_X3_makeOne_L23 (K : Mem → Prop) (o0 : Nat) (a1 : Int32) (μ : Mem) : Prop :=
  ∀ v4 : Int32, v4 = (if (μ o0 0) < a1 then (μ o0 0) else a1) → x_X3_keepMixture o0 v4 μ (fun μ5 => ∃ n : Nat, x_X3_makeOne_L37 K n o0 0 μ5)
set_option maxRecDepth 20000 in
theorem w_X3_makeOne_L23 {p : Program} {l : Launch} {e : Env} {s : State} {m : MethodId} {args : Array Value} {below : List Frame} {meth : Method} {c : Code} {D : va_G} {Y : Nat → ClassId} {ad : Nat → Nat} (C0 : CX D Y ad (PA ad) rm_X3_makeOne 0 0 p s args m c cX3_makeOne 3 RX3 wsX3_makeOne) (hlk : meth.locks = false) (hret : meth.sig.returnType = none) (o0 : Nat) (a1 : Int32) (μ : Mem) (K : Mem → Prop) (ho0 : kd o0 = 3) (hX : x_X3_makeOne_L23 K o0 a1 μ) : J p l e rm_X3_makeOne s m args below meth c D Y ad (PA ad) 0 0 3 (MQ below (va_Qv K (BB D Y ad) (PA ad)) args s 0 0 (PA ad)) 23 [(0, .ref (ad o0)), (1, .int a1)] [] μ := by
  refine j_aload_n C0 0 dX3_makeOne_23 rfl rfl rfl ?_
  refine j_iload_n C0 1 dX3_makeOne_24 rfl rfl rfl ?_
  refine j_aload_n C0 0 dX3_makeOne_25 rfl rfl rfl ?_
  refine j_get3 C0 (v := .int (μ o0 0)) 0 ho0 fw_X3_makeOne_3 hw_X3_makeOne_0 (fun _ h9 => h9) (by decide) rfl dX3_makeOne_26 rfl ?_
  refine j_mmin C0 hw_X3_makeOne_1 hw_X3_makeOne_2 hw_X3_makeOne_3 hw_X3_makeOne_4 ⟨Nat.le_of_ble_eq_true rfl, Nat.le_of_ble_eq_true rfl⟩ dX3_makeOne_29 rfl ?_
  refine j_topi (fun v4 e_v4 => ?_)
  have hX := hX v4 e_v4
  refine j_callVv C0 1 [.int v4] (c_X3_keepMixture o0 v4 ho0 hX) dX3_makeOne_32 gX3_makeOne_X3_keepMixture rfl (by decide +kernel) ⟨⟨Nat.le_of_ble_eq_true rfl, Nat.le_of_ble_eq_true rfl⟩, rfl, rfl⟩ (kd_lt ho0 (by decide)) (ce3 ho0) rfl rfl rfl (Nat.le_of_ble_eq_true rfl) rfl (fun μ5 hX => ?_)
  refine j_iconst C0 0 dX3_makeOne_35 (by decide) rfl ?_
  refine j_istore_n C0 [(2, .int 0), (0, .ref (ad o0)), (1, .int a1)] dX3_makeOne_36 rfl (by decide) rfl rfl ?_
  obtain ⟨n, hX⟩ := hX
  exact j_sub (l' := [(0, .ref (ad o0)), (2, .int 0)]) [1, 0] rfl (w_X3_makeOne_L37 C0 hlk hret K n o0 0 μ5 ho0 hX)
def x_X3_makeOne (o0 : Nat) (μ : Mem) (K : Mem → Prop) : Prop :=
  x_X3_sumOfOn o0 μ (fun r2 μ1 => (r2 ≤ (μ1 o0 0) → x_X3_makeOne_L23 K o0 r2 μ1) ∧ (¬ (r2 ≤ (μ1 o0 0)) → ∀ μ12 : Mem, μ12 = um μ1 o0 (upd (μ1 o0) 4 ((μ1 o0 4) + 1)) → x_X3_makeOne_L23 K o0 r2 μ12))
set_option maxRecDepth 20000 in
theorem w_X3_makeOne {p : Program} {l : Launch} {e : Env} {s : State} {m : MethodId} {args : Array Value} {below : List Frame} {meth : Method} {c : Code} {D : va_G} {Y : Nat → ClassId} {ad : Nat → Nat} (C0 : CX D Y ad (PA ad) rm_X3_makeOne 0 0 p s args m c cX3_makeOne 3 RX3 wsX3_makeOne) (hlk : meth.locks = false) (hret : meth.sig.returnType = none) (o0 : Nat) (μ : Mem) (K : Mem → Prop) (ho0 : kd o0 = 3) (hX : x_X3_makeOne o0 μ K) : J p l e rm_X3_makeOne s m args below meth c D Y ad (PA ad) 0 0 3 (MQ below (va_Qv K (BB D Y ad) (PA ad)) args s 0 0 (PA ad)) 0 [(0, .ref (ad o0))] [] μ := by
  refine j_aload_n C0 0 dX3_makeOne_0 rfl rfl rfl ?_
  refine j_callVi C0 0 [] (c_X3_sumOfOn o0 ho0 hX) dX3_makeOne_1 gX3_makeOne_X3_sumOfOn rfl (by decide +kernel) ⟨⟨Nat.le_of_ble_eq_true rfl, Nat.le_of_ble_eq_true rfl⟩, rfl, rfl⟩ (kd_lt ho0 (by decide)) (ce3 ho0) rfl rfl rfl (Nat.le_of_ble_eq_true rfl) rfl (fun r2 μ1 hX => ?_)
  refine j_istore_n C0 [(1, .int r2), (0, .ref (ad o0))] dX3_makeOne_4 rfl (by decide) rfl rfl ?_
  refine j_iload_n C0 0 dX3_makeOne_5 rfl rfl rfl ?_
  refine j_aload_n C0 1 dX3_makeOne_6 rfl rfl rfl ?_
  refine j_get3 C0 (v := .int (μ1 o0 0)) 0 ho0 fw_X3_makeOne_3 hw_X3_makeOne_0 (fun _ h9 => h9) (by decide) rfl dX3_makeOne_7 rfl ?_
  refine j_icmp_le C0 (tgt := 23) dX3_makeOne_10 (by decide) rfl (fun c3 => ?_) (fun c3 => ?_)
  · have hX := hX.1 c3
    exact j_sub (l' := [(0, .ref (ad o0)), (1, .int r2)]) [1, 0] rfl (w_X3_makeOne_L23 C0 hlk hret o0 r2 μ1 K ho0 hX)
  · have hX := hX.2 c3
    refine j_aload_n C0 1 dX3_makeOne_13 rfl rfl rfl ?_
    refine j_dup C0 dX3_makeOne_14 rfl rfl ?_
    refine j_get3 C0 (v := .int (μ1 o0 4)) 4 ho0 fw_X3_makeOne_3 hw_X3_makeOne_7 (fun _ h9 => h9) (by decide) rfl dX3_makeOne_15 rfl ?_
    refine j_iconst C0 1 dX3_makeOne_18 (by decide) rfl ?_
    refine j_iadd C0 dX3_makeOne_19 rfl ?_
    refine j_put3_4 C0 ho0 fw_X3_makeOne_3 hw_X3_makeOne_7 dX3_makeOne_20 rfl ?_
    refine j_nm (fun μ12 e_μ12 => ?_)
    have hX := hX μ12 e_μ12
    exact j_sub (l' := [(0, .ref (ad o0)), (1, .int r2)]) [1, 0] rfl (w_X3_makeOne_L23 C0 hlk hret o0 r2 μ12 K ho0 hX)
theorem c_X3_makeOne {l : Launch} {D : va_G} {Y : Nat → ClassId} {ad : Nat → Nat} (o0 : Nat) {μ : Mem} {K : Mem → Prop} (ho0 : kd o0 = 3) (hX : x_X3_makeOne o0 μ K) : ConV l yX3_makeOne wsX3_makeOne rm_X3_makeOne [.ref (ad o0)] D Y ad μ K := conV_of (cc := cX3_makeOne) (maxL := 3) (ret := none) (own := RX3) _ (by decide +kernel) rfl rfl (Nat.le_of_ble_eq_true rfl) (fun p e s m args below meth c C0 hlk hret => j_sub (l' := [(0, .ref (ad o0))]) [0] rfl (w_X3_makeOne C0 hlk hret o0 μ K ho0 hX))
/-! PhaseTones$Sound.makeSome(I)Z -/
abbrev rm_X3_makeSome : Room := rmf 4 86
def xb_X3_makeSome_L12 (K : Int32 → Mem → Prop) (B : Nat → Int32 → Int32 → Mem → Prop) (o0 : Nat) (a1 : Int32) (a2 : Int32) (μ : Mem) : Prop :=
  (a1 ≤ a2 → K 1 μ) ∧ (¬ (a1 ≤ a2) → x_X3_makeOne o0 μ (fun μ5 => ∀ v6 : Int32, v6 = a2 + 1 → B o0 a1 v6 μ5))
def x_X3_makeSome_L12 (K : Int32 → Mem → Prop) : Nat → Nat → Int32 → Int32 → Mem → Prop
  | 0 => fun _ _ _ _ => False
  | n + 1 => fun o0 a1 a2 μ => xb_X3_makeSome_L12 K (x_X3_makeSome_L12 K n) o0 a1 a2 μ
set_option maxRecDepth 20000 in
theorem wb_X3_makeSome_L12 {p : Program} {l : Launch} {e : Env} {s : State} {m : MethodId} {args : Array Value} {below : List Frame} {meth : Method} {c : Code} {D : va_G} {Y : Nat → ClassId} {ad : Nat → Nat} (C0 : CX D Y ad (PA ad) rm_X3_makeSome 0 0 p s args m c cX3_makeSome 3 RX3 wsX3_makeSome) (hlk : meth.locks = false) (hret : meth.sig.returnType = (some .boolean)) (o0 : Nat) (a1 : Int32) (a2 : Int32) (μ : Mem) (K : Int32 → Mem → Prop) (B : Nat → Int32 → Int32 → Mem → Prop) (hB : ∀ (o0 : Nat) (a1 : Int32) (a2 : Int32) (μ : Mem), kd o0 = 3 → B o0 a1 a2 μ → J p l e rm_X3_makeSome s m args below meth c D Y ad (PA ad) 0 0 3 (MQ below (va_Qi K (BB D Y ad) (PA ad)) args s 0 0 (PA ad)) 12 [(0, .ref (ad o0)), (1, .int a1), (2, .int a2)] [] μ) (ho0 : kd o0 = 3) (hX : xb_X3_makeSome_L12 K B o0 a1 a2 μ) : J p l e rm_X3_makeSome s m args below meth c D Y ad (PA ad) 0 0 3 (MQ below (va_Qi K (BB D Y ad) (PA ad)) args s 0 0 (PA ad)) 12 [(0, .ref (ad o0)), (1, .int a1), (2, .int a2)] [] μ := by
  refine j_iload_n C0 2 dX3_makeSome_12 rfl rfl rfl ?_
  refine j_iload_n C0 1 dX3_makeSome_13 rfl rfl rfl ?_
  refine j_icmp_ge C0 (tgt := 27) dX3_makeSome_14 (by decide) rfl (fun c4 => ?_) (fun c4 => ?_)
  · have hX := hX.1 c4
    refine j_iconst C0 1 dX3_makeSome_27 (by decide) rfl ?_
    exact j_zret C0 hlk hret dX3_makeSome_28 zb1 hX
  · have hX := hX.2 c4
    refine j_aload_n C0 0 dX3_makeSome_17 rfl rfl rfl ?_
    refine j_callVv C0 0 [] (c_X3_makeOne o0 ho0 hX) dX3_makeSome_18 gX3_makeSome_X3_makeOne rfl (by decide +kernel) ⟨⟨Nat.le_of_ble_eq_true rfl, Nat.le_of_ble_eq_true rfl⟩, rfl, rfl⟩ (kd_lt ho0 (by decide)) (ce3 ho0) rfl rfl rfl (Nat.le_of_ble_eq_true rfl) rfl (fun μ5 hX => ?_)
    obtain ⟨v6, e_v6⟩ : ∃ z : Int32, z = a2 + 1 := ⟨_, rfl⟩
    have hX := hX v6 e_v6
    refine j_iinc C0 2 v6 [(2, .int v6), (0, .ref (ad o0)), (1, .int a1)] dX3_makeSome_21 rfl (by rw [e_v6]; rfl) (by decide) rfl rfl ?_
    refine j_goto C0 (tgt := 12) dX3_makeSome_24 (by decide) ?_
    exact j_sub (l' := [(0, .ref (ad o0)), (1, .int a1), (2, .int v6)]) [1, 2, 0] rfl (hB o0 a1 v6 μ5 ho0 hX)
theorem w_X3_makeSome_L12 {p : Program} {l : Launch} {e : Env} {s : State} {m : MethodId} {args : Array Value} {below : List Frame} {meth : Method} {c : Code} {D : va_G} {Y : Nat → ClassId} {ad : Nat → Nat} (C0 : CX D Y ad (PA ad) rm_X3_makeSome 0 0 p s args m c cX3_makeSome 3 RX3 wsX3_makeSome) (hlk : meth.locks = false) (hret : meth.sig.returnType = (some .boolean)) (K : Int32 → Mem → Prop) : ∀ (n : Nat) (o0 : Nat) (a1 : Int32) (a2 : Int32) (μ : Mem) (ho0 : kd o0 = 3) (hX : x_X3_makeSome_L12 K n o0 a1 a2 μ), J p l e rm_X3_makeSome s m args below meth c D Y ad (PA ad) 0 0 3 (MQ below (va_Qi K (BB D Y ad) (PA ad)) args s 0 0 (PA ad)) 12 [(0, .ref (ad o0)), (1, .int a1), (2, .int a2)] [] μ
  | 0, o0, a1, a2, μ, ho0, hX => hX.elim
  | n + 1, o0, a1, a2, μ, ho0, hX => wb_X3_makeSome_L12 C0 hlk hret o0 a1 a2 μ K (x_X3_makeSome_L12 K n) (fun o0 a1 a2 μ ho0 hx => w_X3_makeSome_L12 C0 hlk hret K n o0 a1 a2 μ ho0 hx) ho0 hX
def x_X3_makeSome (o0 : Nat) (a1 : Int32) (μ : Mem) (K : Int32 → Mem → Prop) : Prop :=
  x_X3_hasNoRoomFor o0 a1 μ (fun r2 μ1 => (r2 = 0 → ∃ n : Nat, x_X3_makeSome_L12 K n o0 a1 0 μ1) ∧ (¬ (r2 = 0) → K 0 μ1))
set_option maxRecDepth 20000 in
theorem w_X3_makeSome {p : Program} {l : Launch} {e : Env} {s : State} {m : MethodId} {args : Array Value} {below : List Frame} {meth : Method} {c : Code} {D : va_G} {Y : Nat → ClassId} {ad : Nat → Nat} (C0 : CX D Y ad (PA ad) rm_X3_makeSome 0 0 p s args m c cX3_makeSome 3 RX3 wsX3_makeSome) (hlk : meth.locks = false) (hret : meth.sig.returnType = (some .boolean)) (o0 : Nat) (a1 : Int32) (μ : Mem) (K : Int32 → Mem → Prop) (ho0 : kd o0 = 3) (hX : x_X3_makeSome o0 a1 μ K) : J p l e rm_X3_makeSome s m args below meth c D Y ad (PA ad) 0 0 3 (MQ below (va_Qi K (BB D Y ad) (PA ad)) args s 0 0 (PA ad)) 0 [(0, .ref (ad o0)), (1, .int a1)] [] μ := by
  refine j_aload_n C0 0 dX3_makeSome_0 rfl rfl rfl ?_
  refine j_iload_n C0 1 dX3_makeSome_1 rfl rfl rfl ?_
  refine j_callVi C0 1 [.int a1] (c_X3_hasNoRoomFor o0 a1 ho0 hX) dX3_makeSome_2 gX3_makeSome_X3_hasNoRoomFor rfl (by decide +kernel) ⟨⟨Nat.le_of_ble_eq_true rfl, Nat.le_of_ble_eq_true rfl⟩, rfl, rfl⟩ (kd_lt ho0 (by decide)) (ce3 ho0) rfl rfl rfl (Nat.le_of_ble_eq_true rfl) rfl (fun r2 μ1 hX => ?_)
  refine j_if_eq C0 (tgt := 10) dX3_makeSome_5 (by decide) rfl (fun c3 => ?_) (fun c3 => ?_)
  · have hX := hX.1 c3
    refine j_iconst C0 0 dX3_makeSome_10 (by decide) rfl ?_
    refine j_istore_n C0 [(2, .int 0), (0, .ref (ad o0)), (1, .int a1)] dX3_makeSome_11 rfl (by decide) rfl rfl ?_
    obtain ⟨n, hX⟩ := hX
    exact j_sub (l' := [(0, .ref (ad o0)), (1, .int a1), (2, .int 0)]) [1, 2, 0] rfl (w_X3_makeSome_L12 C0 hlk hret K n o0 a1 0 μ1 ho0 hX)
  · have hX := hX.2 c3
    refine j_iconst C0 0 dX3_makeSome_8 (by decide) rfl ?_
    exact j_zret C0 hlk hret dX3_makeSome_9 zb0 hX
theorem c_X3_makeSome {l : Launch} {D : va_G} {Y : Nat → ClassId} {ad : Nat → Nat} (o0 : Nat) (a1 : Int32) {μ : Mem} {K : Int32 → Mem → Prop} (ho0 : kd o0 = 3) (hX : x_X3_makeSome o0 a1 μ K) : ConI l yX3_makeSome wsX3_makeSome rm_X3_makeSome [.ref (ad o0), .int a1] D Y ad μ K := conI_of (cc := cX3_makeSome) (maxL := 3) (ret := (some .boolean)) (own := RX3) _ (by decide +kernel) rfl rfl (Nat.le_of_ble_eq_true rfl) (fun p e s m args below meth c C0 hlk hret => j_sub (l' := [(0, .ref (ad o0)), (1, .int a1)]) [0, 1] rfl (w_X3_makeSome C0 hlk hret o0 a1 μ K ho0 hX))
/-! PhaseTones$History.keep(LPhaseTones$Sound;)V -/
abbrev rm_X0_keep : Room := rmf 3 63
theorem fw_X0_keep_0 : ∀ w ∈ wsX00, w ∈ wsX0_keep := by decide +kernel
theorem hw_X0_keep_0 : Cond.fieldLink RX0 11 RX0 (TX0 0).2.1 (TX0 0).2.2.1 ∈ wsX0_keep := by decide +kernel
theorem hw_X0_keep_1 : Cond.fieldLink RX0 18 RX0 (TX0 1).2.1 (TX0 1).2.2.1 ∈ wsX0_keep := by decide +kernel
theorem hw_X0_keep_2 : Cond.fieldLink RX0 32 RX0 (TX0 2).2.1 (TX0 2).2.2.1 ∈ wsX0_keep := by decide +kernel
theorem hw_X0_keep_3 : Cond.methodLink RX0 35 Lib.Math.min.name ∈ wsX0_keep := by decide +kernel
theorem hw_X0_keep_4 : Cond.static Lib.Math.min.name ∈ wsX0_keep := by decide +kernel
theorem hw_X0_keep_5 : Cond.initialized "java/lang/Math" ∈ wsX0_keep := by decide +kernel
theorem hw_X0_keep_6 : Cond.code Lib.Math.min.name Lib.Math.min.code 2 (some .int) ∈ wsX0_keep := by decide +kernel
def x_X0_keep (o1 : Nat) (μ : Mem) (K : Mem → Prop) : Prop :=
  x_J9_floorMod_7cf53 (μ 33 1) 6 μ (fun r2 μ1 => vp_in r2 6 ∧ x_X3_takeOver (35 + 16 * r2.toNatClampNeg) o1 μ1 (fun μ4 => ∀ μ5 : Mem, μ5 = um μ4 33 (upd (μ4 33) 1 ((μ4 33 1) + 1)) → ∀ v6 : Int32, v6 = (if (6 : Int32) < ((μ5 33 2) + 1) then (6 : Int32) else ((μ5 33 2) + 1)) → ∀ μ7 : Mem, μ7 = um μ5 33 (upd (μ5 33) 2 v6) → K μ7))
set_option maxRecDepth 20000 in
theorem w_X0_keep {p : Program} {l : Launch} {e : Env} {s : State} {m : MethodId} {args : Array Value} {below : List Frame} {meth : Method} {c : Code} {D : va_G} {Y : Nat → ClassId} {ad : Nat → Nat} (C0 : CX D Y ad (PA ad) rm_X0_keep 0 0 p s args m c cX0_keep 2 RX0 wsX0_keep) (hlk : meth.locks = false) (hret : meth.sig.returnType = none) (o1 : Nat) (μ : Mem) (K : Mem → Prop) (ho1 : kd o1 = 3) (hX : x_X0_keep o1 μ K) : J p l e rm_X0_keep s m args below meth c D Y ad (PA ad) 0 0 2 (MQ below (va_Qv K (BB D Y ad) (PA ad)) args s 0 0 (PA ad)) 0 [(0, .ref (ad 33)), (1, .ref (ad o1))] [] μ := by
  refine j_aload_n C0 0 dX0_keep_0 rfl rfl rfl ?_
  refine j_get0 C0 (v := .ref (ad 34)) 0 (rfl : kd 33 = 0) fw_X0_keep_0 hw_X0_keep_0 (fun _ h9 => h9) (by decide) rfl dX0_keep_1 rfl ?_
  refine j_aload_n C0 0 dX0_keep_4 rfl rfl rfl ?_
  refine j_get0 C0 (v := .int (μ 33 1)) 1 (rfl : kd 33 = 0) fw_X0_keep_0 hw_X0_keep_1 (fun _ h9 => h9) (by decide) rfl dX0_keep_5 rfl ?_
  refine j_bipush C0 6 dX0_keep_8 (by decide) rfl ?_
  refine j_callSi C0 2 [.int (μ 33 1), .int 6] (c_J9_floorMod_7cf53 (μ 33 1) 6  hX) dX0_keep_10 gX0_keep_J9_floorMod_7cf53 rfl (by decide +kernel) ⟨⟨Nat.le_of_ble_eq_true rfl, Nat.le_of_ble_eq_true rfl⟩, rfl, rfl⟩ rfl rfl (Nat.le_of_ble_eq_true rfl) rfl (fun r2 μ1 hX => ?_)
  obtain ⟨h3, hX⟩ := hX
  refine j_aald C0 (n := 6) (t0 := 3) (35 + 16 * r2.toNatClampNeg) (kd_lt (rfl : kd 34 = 13) (by decide)) (ce13 (rfl : kd 34 = 13)) rfl rfl h3 dX0_keep_13 rfl ?_
  refine j_aload_n C0 1 dX0_keep_14 rfl rfl rfl ?_
  refine j_callVv C0 1 [.ref (ad o1)] (c_X3_takeOver (35 + 16 * r2.toNatClampNeg) o1 (kd_his _ (vp_lt h3)) ho1 hX) dX0_keep_15 gX0_keep_X3_takeOver rfl (by decide +kernel) ⟨⟨Nat.le_of_ble_eq_true rfl, Nat.le_of_ble_eq_true rfl⟩, rfl, rfl⟩ (kd_lt (kd_his _ (vp_lt h3)) (by decide)) (ce3 (kd_his _ (vp_lt h3))) rfl rfl rfl (Nat.le_of_ble_eq_true rfl) rfl (fun μ4 hX => ?_)
  refine j_aload_n C0 0 dX0_keep_18 rfl rfl rfl ?_
  refine j_dup C0 dX0_keep_19 rfl rfl ?_
  refine j_get0 C0 (v := .int (μ4 33 1)) 1 (rfl : kd 33 = 0) fw_X0_keep_0 hw_X0_keep_1 (fun _ h9 => h9) (by decide) rfl dX0_keep_20 rfl ?_
  refine j_iconst C0 1 dX0_keep_23 (by decide) rfl ?_
  refine j_iadd C0 dX0_keep_24 rfl ?_
  refine j_put0_1 C0 (rfl : kd 33 = 0) fw_X0_keep_0 hw_X0_keep_1 dX0_keep_25 rfl ?_
  refine j_nm (fun μ5 e_μ5 => ?_)
  have hX := hX μ5 e_μ5
  refine j_aload_n C0 0 dX0_keep_28 rfl rfl rfl ?_
  refine j_aload_n C0 0 dX0_keep_29 rfl rfl rfl ?_
  refine j_get0 C0 (v := .int (μ5 33 2)) 2 (rfl : kd 33 = 0) fw_X0_keep_0 hw_X0_keep_2 (fun _ h9 => h9) (by decide) rfl dX0_keep_30 rfl ?_
  refine j_iconst C0 1 dX0_keep_33 (by decide) rfl ?_
  refine j_iadd C0 dX0_keep_34 rfl ?_
  refine j_bipush C0 6 dX0_keep_35 (by decide) rfl ?_
  refine j_mmin C0 hw_X0_keep_3 hw_X0_keep_4 hw_X0_keep_5 hw_X0_keep_6 ⟨Nat.le_of_ble_eq_true rfl, Nat.le_of_ble_eq_true rfl⟩ dX0_keep_37 rfl ?_
  refine j_topi (fun v6 e_v6 => ?_)
  have hX := hX v6 e_v6
  refine j_put0_2 C0 (rfl : kd 33 = 0) fw_X0_keep_0 hw_X0_keep_2 dX0_keep_40 rfl ?_
  refine j_nm (fun μ7 e_μ7 => ?_)
  have hX := hX μ7 e_μ7
  exact j_vret C0 hlk hret dX0_keep_43 hX
theorem c_X0_keep {l : Launch} {D : va_G} {Y : Nat → ClassId} {ad : Nat → Nat} (o1 : Nat) {μ : Mem} {K : Mem → Prop} (ho1 : kd o1 = 3) (hX : x_X0_keep o1 μ K) : ConV l yX0_keep wsX0_keep rm_X0_keep [.ref (ad 33), .ref (ad o1)] D Y ad μ K := conV_of (cc := cX0_keep) (maxL := 2) (ret := none) (own := RX0) _ (by decide +kernel) rfl rfl (Nat.le_of_ble_eq_true rfl) (fun p e s m args below meth c C0 hlk hret => j_sub (l' := [(0, .ref (ad 33)), (1, .ref (ad o1))]) [0, 1] rfl (w_X0_keep C0 hlk hret o1 μ K ho1 hX))
/-! PhaseTones$History.bringBack(LPhaseTones$Sound;)V -/
abbrev rm_X0_bringBack : Room := rmf 3 63
theorem fw_X0_bringBack_0 : ∀ w ∈ wsX00, w ∈ wsX0_bringBack := by decide +kernel
theorem hw_X0_bringBack_0 : Cond.fieldLink RX0 18 RX0 (TX0 1).2.1 (TX0 1).2.2.1 ∈ wsX0_bringBack := by decide +kernel
theorem hw_X0_bringBack_1 : Cond.fieldLink RX0 32 RX0 (TX0 2).2.1 (TX0 2).2.2.1 ∈ wsX0_bringBack := by decide +kernel
theorem hw_X0_bringBack_2 : Cond.methodLink RX0 38 Lib.Math.max.name ∈ wsX0_bringBack := by decide +kernel
theorem hw_X0_bringBack_3 : Cond.static Lib.Math.max.name ∈ wsX0_bringBack := by decide +kernel
theorem hw_X0_bringBack_4 : Cond.initialized "java/lang/Math" ∈ wsX0_bringBack := by decide +kernel
theorem hw_X0_bringBack_5 : Cond.code Lib.Math.max.name Lib.Math.max.code 2 (some .int) ∈ wsX0_bringBack := by decide +kernel
theorem hw_X0_bringBack_6 : Cond.fieldLink RX0 11 RX0 (TX0 0).2.1 (TX0 0).2.2.1 ∈ wsX0_bringBack := by decide +kernel
def x_X0_bringBack (o1 : Nat) (μ : Mem) (K : Mem → Prop) : Prop :=
  ∀ μ1 : Mem, μ1 = um μ 33 (upd (μ 33) 1 ((μ 33 1) - 1)) → ∀ v2 : Int32, v2 = (if ((μ1 33 2) - 1) < (0 : Int32) then (0 : Int32) else ((μ1 33 2) - 1)) → ∀ μ3 : Mem, μ3 = um μ1 33 (upd (μ1 33) 2 v2) → x_J9_floorMod_7cf53 (μ3 33 1) 6 μ3 (fun r5 μ4 => vp_in r5 6 ∧ x_X3_takeOver o1 (35 + 16 * r5.toNatClampNeg) μ4 (fun μ7 => K μ7))
set_option maxRecDepth 20000 in
theorem w_X0_bringBack {p : Program} {l : Launch} {e : Env} {s : State} {m : MethodId} {args : Array Value} {below : List Frame} {meth : Method} {c : Code} {D : va_G} {Y : Nat → ClassId} {ad : Nat → Nat} (C0 : CX D Y ad (PA ad) rm_X0_bringBack 0 0 p s args m c cX0_bringBack 2 RX0 wsX0_bringBack) (hlk : meth.locks = false) (hret : meth.sig.returnType = none) (o1 : Nat) (μ : Mem) (K : Mem → Prop) (ho1 : kd o1 = 3) (hX : x_X0_bringBack o1 μ K) : J p l e rm_X0_bringBack s m args below meth c D Y ad (PA ad) 0 0 2 (MQ below (va_Qv K (BB D Y ad) (PA ad)) args s 0 0 (PA ad)) 0 [(0, .ref (ad 33)), (1, .ref (ad o1))] [] μ := by
  refine j_aload_n C0 0 dX0_bringBack_0 rfl rfl rfl ?_
  refine j_dup C0 dX0_bringBack_1 rfl rfl ?_
  refine j_get0 C0 (v := .int (μ 33 1)) 1 (rfl : kd 33 = 0) fw_X0_bringBack_0 hw_X0_bringBack_0 (fun _ h9 => h9) (by decide) rfl dX0_bringBack_2 rfl ?_
  refine j_iconst C0 1 dX0_bringBack_5 (by decide) rfl ?_
  refine j_isub C0 dX0_bringBack_6 rfl ?_
  refine j_put0_1 C0 (rfl : kd 33 = 0) fw_X0_bringBack_0 hw_X0_bringBack_0 dX0_bringBack_7 rfl ?_
  refine j_nm (fun μ1 e_μ1 => ?_)
  have hX := hX μ1 e_μ1
  refine j_aload_n C0 0 dX0_bringBack_10 rfl rfl rfl ?_
  refine j_aload_n C0 0 dX0_bringBack_11 rfl rfl rfl ?_
  refine j_get0 C0 (v := .int (μ1 33 2)) 2 (rfl : kd 33 = 0) fw_X0_bringBack_0 hw_X0_bringBack_1 (fun _ h9 => h9) (by decide) rfl dX0_bringBack_12 rfl ?_
  refine j_iconst C0 1 dX0_bringBack_15 (by decide) rfl ?_
  refine j_isub C0 dX0_bringBack_16 rfl ?_
  refine j_iconst C0 0 dX0_bringBack_17 (by decide) rfl ?_
  refine j_mmax C0 hw_X0_bringBack_2 hw_X0_bringBack_3 hw_X0_bringBack_4 hw_X0_bringBack_5 ⟨Nat.le_of_ble_eq_true rfl, Nat.le_of_ble_eq_true rfl⟩ dX0_bringBack_18 rfl ?_
  refine j_topi (fun v2 e_v2 => ?_)
  have hX := hX v2 e_v2
  refine j_put0_2 C0 (rfl : kd 33 = 0) fw_X0_bringBack_0 hw_X0_bringBack_1 dX0_bringBack_21 rfl ?_
  refine j_nm (fun μ3 e_μ3 => ?_)
  have hX := hX μ3 e_μ3
  refine j_aload_n C0 1 dX0_bringBack_24 rfl rfl rfl ?_
  refine j_aload_n C0 0 dX0_bringBack_25 rfl rfl rfl ?_
  refine j_get0 C0 (v := .ref (ad 34)) 0 (rfl : kd 33 = 0) fw_X0_bringBack_0 hw_X0_bringBack_6 (fun _ h9 => h9) (by decide) rfl dX0_bringBack_26 rfl ?_
  refine j_aload_n C0 0 dX0_bringBack_29 rfl rfl rfl ?_
  refine j_get0 C0 (v := .int (μ3 33 1)) 1 (rfl : kd 33 = 0) fw_X0_bringBack_0 hw_X0_bringBack_0 (fun _ h9 => h9) (by decide) rfl dX0_bringBack_30 rfl ?_
  refine j_bipush C0 6 dX0_bringBack_33 (by decide) rfl ?_
  refine j_callSi C0 2 [.int (μ3 33 1), .int 6] (c_J9_floorMod_7cf53 (μ3 33 1) 6  hX) dX0_bringBack_35 gX0_bringBack_J9_floorMod_7cf53 rfl (by decide +kernel) ⟨⟨Nat.le_of_ble_eq_true rfl, Nat.le_of_ble_eq_true rfl⟩, rfl, rfl⟩ rfl rfl (Nat.le_of_ble_eq_true rfl) rfl (fun r5 μ4 hX => ?_)
  obtain ⟨h6, hX⟩ := hX
  refine j_aald C0 (n := 6) (t0 := 3) (35 + 16 * r5.toNatClampNeg) (kd_lt (rfl : kd 34 = 13) (by decide)) (ce13 (rfl : kd 34 = 13)) rfl rfl h6 dX0_bringBack_38 rfl ?_
  refine j_callVv C0 1 [.ref (ad (35 + 16 * r5.toNatClampNeg))] (c_X3_takeOver o1 (35 + 16 * r5.toNatClampNeg) ho1 (kd_his _ (vp_lt h6)) hX) dX0_bringBack_39 gX0_bringBack_X3_takeOver rfl (by decide +kernel) ⟨⟨Nat.le_of_ble_eq_true rfl, Nat.le_of_ble_eq_true rfl⟩, rfl, rfl⟩ (kd_lt ho1 (by decide)) (ce3 ho1) rfl rfl rfl (Nat.le_of_ble_eq_true rfl) rfl (fun μ7 hX => ?_)
  exact j_vret C0 hlk hret dX0_bringBack_42 hX
theorem c_X0_bringBack {l : Launch} {D : va_G} {Y : Nat → ClassId} {ad : Nat → Nat} (o1 : Nat) {μ : Mem} {K : Mem → Prop} (ho1 : kd o1 = 3) (hX : x_X0_bringBack o1 μ K) : ConV l yX0_bringBack wsX0_bringBack rm_X0_bringBack [.ref (ad 33), .ref (ad o1)] D Y ad μ K := conV_of (cc := cX0_bringBack) (maxL := 2) (ret := none) (own := RX0) _ (by decide +kernel) rfl rfl (Nat.le_of_ble_eq_true rfl) (fun p e s m args below meth c C0 hlk hret => j_sub (l' := [(0, .ref (ad 33)), (1, .ref (ad o1))]) [0, 1] rfl (w_X0_bringBack C0 hlk hret o1 μ K ho1 hX))
/-! PhaseTones.isOutside(III)Z -/
abbrev rm_X5_isOutside : Room := rmf 0 0
def x_X5_isOutside_L10 (K : Int32 → Mem → Prop)  (μ : Mem) : Prop :=
  K 1 μ
set_option maxRecDepth 20000 in
theorem w_X5_isOutside_L10 {p : Program} {l : Launch} {e : Env} {s : State} {m : MethodId} {args : Array Value} {below : List Frame} {meth : Method} {c : Code} {D : va_G} {Y : Nat → ClassId} {ad : Nat → Nat} (C0 : CX D Y ad (PA ad) rm_X5_isOutside 0 0 p s args m c cX5_isOutside 3 RX5 wsX5_isOutside) (hlk : meth.locks = false) (hret : meth.sig.returnType = (some .boolean))  (μ : Mem) (K : Int32 → Mem → Prop)  (hX : x_X5_isOutside_L10 K  μ) : J p l e rm_X5_isOutside s m args below meth c D Y ad (PA ad) 0 0 3 (MQ below (va_Qi K (BB D Y ad) (PA ad)) args s 0 0 (PA ad)) 10 [] [] μ := by
  refine j_iconst C0 1 dX5_isOutside_10 (by decide) rfl ?_
  refine j_goto C0 (tgt := 15) dX5_isOutside_11 (by decide) ?_
  exact j_zret C0 hlk hret dX5_isOutside_15 zb1 hX
def x_X5_isOutside (a0 : Int32) (a1 : Int32) (a2 : Int32) (μ : Mem) (K : Int32 → Mem → Prop) : Prop :=
  (a0 < a1 → x_X5_isOutside_L10 K  μ) ∧ (¬ (a0 < a1) → (a0 ≤ a2 → K 0 μ) ∧ (¬ (a0 ≤ a2) → x_X5_isOutside_L10 K  μ))
set_option maxRecDepth 20000 in
theorem w_X5_isOutside {p : Program} {l : Launch} {e : Env} {s : State} {m : MethodId} {args : Array Value} {below : List Frame} {meth : Method} {c : Code} {D : va_G} {Y : Nat → ClassId} {ad : Nat → Nat} (C0 : CX D Y ad (PA ad) rm_X5_isOutside 0 0 p s args m c cX5_isOutside 3 RX5 wsX5_isOutside) (hlk : meth.locks = false) (hret : meth.sig.returnType = (some .boolean)) (a0 : Int32) (a1 : Int32) (a2 : Int32) (μ : Mem) (K : Int32 → Mem → Prop)  (hX : x_X5_isOutside a0 a1 a2 μ K) : J p l e rm_X5_isOutside s m args below meth c D Y ad (PA ad) 0 0 3 (MQ below (va_Qi K (BB D Y ad) (PA ad)) args s 0 0 (PA ad)) 0 [(0, .int a0), (1, .int a1), (2, .int a2)] [] μ := by
  refine j_iload_n C0 0 dX5_isOutside_0 rfl rfl rfl ?_
  refine j_iload_n C0 1 dX5_isOutside_1 rfl rfl rfl ?_
  refine j_icmp_lt C0 (tgt := 10) dX5_isOutside_2 (by decide) rfl (fun c1 => ?_) (fun c1 => ?_)
  · have hX := hX.1 c1
    exact j_sub (l' := []) [] rfl (w_X5_isOutside_L10 C0 hlk hret  μ K  hX)
  · have hX := hX.2 c1
    refine j_iload_n C0 0 dX5_isOutside_5 rfl rfl rfl ?_
    refine j_iload_n C0 2 dX5_isOutside_6 rfl rfl rfl ?_
    refine j_icmp_le C0 (tgt := 14) dX5_isOutside_7 (by decide) rfl (fun c2 => ?_) (fun c2 => ?_)
    · have hX := hX.1 c2
      refine j_iconst C0 0 dX5_isOutside_14 (by decide) rfl ?_
      exact j_zret C0 hlk hret dX5_isOutside_15 zb0 hX
    · have hX := hX.2 c2
      exact j_sub (l' := []) [] rfl (w_X5_isOutside_L10 C0 hlk hret  μ K  hX)
theorem c_X5_isOutside {l : Launch} {D : va_G} {Y : Nat → ClassId} {ad : Nat → Nat} (a0 : Int32) (a1 : Int32) (a2 : Int32) {μ : Mem} {K : Int32 → Mem → Prop}  (hX : x_X5_isOutside a0 a1 a2 μ K) : ConI l yX5_isOutside wsX5_isOutside rm_X5_isOutside [.int a0, .int a1, .int a2] D Y ad μ K := conI_of (cc := cX5_isOutside) (maxL := 3) (ret := (some .boolean)) (own := RX5) _ (by decide +kernel) rfl rfl (Nat.le_of_ble_eq_true rfl) (fun p e s m args below meth c C0 hlk hret => j_sub (l' := [(0, .int a0), (1, .int a1), (2, .int a2)]) [0, 1, 2] rfl (w_X5_isOutside C0 hlk hret a0 a1 a2 μ K  hX))
/-! java/lang/Integer.bitCount(I)I -/
abbrev rm_J6_bitCount_0f7a4 : Room := rmf 0 0
theorem hw_J6_bitCount_0f7a4_0 : Cond.constant RJ6 265 (1431655765) ∈ wsJ6_bitCount_0f7a4 := by decide +kernel
theorem hw_J6_bitCount_0f7a4_1 : Cond.constant RJ6 266 (858993459) ∈ wsJ6_bitCount_0f7a4 := by decide +kernel
theorem hw_J6_bitCount_0f7a4_2 : Cond.constant RJ6 267 (252645135) ∈ wsJ6_bitCount_0f7a4 := by decide +kernel
def x_J6_bitCount_0f7a4 (a0 : Int32) (μ : Mem) (K : Int32 → Mem → Prop) : Prop :=
  ∀ v1 : Int32, v1 = (a0 - ((((a0).toUInt32 >>> (((1 : Int32)).toUInt32 &&& Int32.toUInt32 31)).toInt32) &&& 1431655765)) → ∀ v2 : Int32, v2 = ((v1 &&& 858993459) + ((((v1).toUInt32 >>> (((2 : Int32)).toUInt32 &&& Int32.toUInt32 31)).toInt32) &&& 858993459)) → ∀ v3 : Int32, v3 = ((v2 + (((v2).toUInt32 >>> (((4 : Int32)).toUInt32 &&& Int32.toUInt32 31)).toInt32)) &&& 252645135) → ∀ v4 : Int32, v4 = (v3 + (((v3).toUInt32 >>> (((8 : Int32)).toUInt32 &&& Int32.toUInt32 31)).toInt32)) → ∀ v5 : Int32, v5 = (v4 + (((v4).toUInt32 >>> (((16 : Int32)).toUInt32 &&& Int32.toUInt32 31)).toInt32)) → K (v5 &&& 63) μ
set_option maxRecDepth 20000 in
theorem w_J6_bitCount_0f7a4 {p : Program} {l : Launch} {e : Env} {s : State} {m : MethodId} {args : Array Value} {below : List Frame} {meth : Method} {c : Code} {D : va_G} {Y : Nat → ClassId} {ad : Nat → Nat} (C0 : CX D Y ad (PA ad) rm_J6_bitCount_0f7a4 0 0 p s args m c cJ6_bitCount_0f7a4 1 RJ6 wsJ6_bitCount_0f7a4) (hlk : meth.locks = false) (hret : meth.sig.returnType = (some .int)) (a0 : Int32) (μ : Mem) (K : Int32 → Mem → Prop)  (hX : x_J6_bitCount_0f7a4 a0 μ K) : J p l e rm_J6_bitCount_0f7a4 s m args below meth c D Y ad (PA ad) 0 0 1 (MQ below (va_Qi K (BB D Y ad) (PA ad)) args s 0 0 (PA ad)) 0 [(0, .int a0)] [] μ := by
  refine j_iload_n C0 0 dJ6_bitCount_0f7a4_0 rfl rfl rfl ?_
  refine j_iload_n C0 0 dJ6_bitCount_0f7a4_1 rfl rfl rfl ?_
  refine j_iconst C0 1 dJ6_bitCount_0f7a4_2 (by decide) rfl ?_
  refine j_iushr C0 dJ6_bitCount_0f7a4_3 rfl ?_
  refine j_ldcw C0 1431655765 dJ6_bitCount_0f7a4_4 hw_J6_bitCount_0f7a4_0 rfl ?_
  refine j_iand C0 dJ6_bitCount_0f7a4_7 rfl ?_
  refine j_isub C0 dJ6_bitCount_0f7a4_8 rfl ?_
  refine j_topi (fun v1 e_v1 => ?_)
  have hX := hX v1 e_v1
  refine j_istore_n C0 [(0, .int v1)] dJ6_bitCount_0f7a4_9 rfl (by decide) rfl rfl ?_
  refine j_iload_n C0 0 dJ6_bitCount_0f7a4_10 rfl rfl rfl ?_
  refine j_ldcw C0 858993459 dJ6_bitCount_0f7a4_11 hw_J6_bitCount_0f7a4_1 rfl ?_
  refine j_iand C0 dJ6_bitCount_0f7a4_14 rfl ?_
  refine j_iload_n C0 0 dJ6_bitCount_0f7a4_15 rfl rfl rfl ?_
  refine j_iconst C0 2 dJ6_bitCount_0f7a4_16 (by decide) rfl ?_
  refine j_iushr C0 dJ6_bitCount_0f7a4_17 rfl ?_
  refine j_ldcw C0 858993459 dJ6_bitCount_0f7a4_18 hw_J6_bitCount_0f7a4_1 rfl ?_
  refine j_iand C0 dJ6_bitCount_0f7a4_21 rfl ?_
  refine j_iadd C0 dJ6_bitCount_0f7a4_22 rfl ?_
  refine j_topi (fun v2 e_v2 => ?_)
  have hX := hX v2 e_v2
  refine j_istore_n C0 [(0, .int v2)] dJ6_bitCount_0f7a4_23 rfl (by decide) rfl rfl ?_
  refine j_iload_n C0 0 dJ6_bitCount_0f7a4_24 rfl rfl rfl ?_
  refine j_iload_n C0 0 dJ6_bitCount_0f7a4_25 rfl rfl rfl ?_
  refine j_iconst C0 4 dJ6_bitCount_0f7a4_26 (by decide) rfl ?_
  refine j_iushr C0 dJ6_bitCount_0f7a4_27 rfl ?_
  refine j_iadd C0 dJ6_bitCount_0f7a4_28 rfl ?_
  refine j_ldcw C0 252645135 dJ6_bitCount_0f7a4_29 hw_J6_bitCount_0f7a4_2 rfl ?_
  refine j_iand C0 dJ6_bitCount_0f7a4_32 rfl ?_
  refine j_topi (fun v3 e_v3 => ?_)
  have hX := hX v3 e_v3
  refine j_istore_n C0 [(0, .int v3)] dJ6_bitCount_0f7a4_33 rfl (by decide) rfl rfl ?_
  refine j_iload_n C0 0 dJ6_bitCount_0f7a4_34 rfl rfl rfl ?_
  refine j_iload_n C0 0 dJ6_bitCount_0f7a4_35 rfl rfl rfl ?_
  refine j_bipush C0 8 dJ6_bitCount_0f7a4_36 (by decide) rfl ?_
  refine j_iushr C0 dJ6_bitCount_0f7a4_38 rfl ?_
  refine j_iadd C0 dJ6_bitCount_0f7a4_39 rfl ?_
  refine j_topi (fun v4 e_v4 => ?_)
  have hX := hX v4 e_v4
  refine j_istore_n C0 [(0, .int v4)] dJ6_bitCount_0f7a4_40 rfl (by decide) rfl rfl ?_
  refine j_iload_n C0 0 dJ6_bitCount_0f7a4_41 rfl rfl rfl ?_
  refine j_iload_n C0 0 dJ6_bitCount_0f7a4_42 rfl rfl rfl ?_
  refine j_bipush C0 16 dJ6_bitCount_0f7a4_43 (by decide) rfl ?_
  refine j_iushr C0 dJ6_bitCount_0f7a4_45 rfl ?_
  refine j_iadd C0 dJ6_bitCount_0f7a4_46 rfl ?_
  refine j_topi (fun v5 e_v5 => ?_)
  have hX := hX v5 e_v5
  refine j_istore_n C0 [(0, .int v5)] dJ6_bitCount_0f7a4_47 rfl (by decide) rfl rfl ?_
  refine j_iload_n C0 0 dJ6_bitCount_0f7a4_48 rfl rfl rfl ?_
  refine j_bipush C0 63 dJ6_bitCount_0f7a4_49 (by decide) rfl ?_
  refine j_iand C0 dJ6_bitCount_0f7a4_51 rfl ?_
  exact j_iret C0 hlk hret dJ6_bitCount_0f7a4_52 hX
theorem c_J6_bitCount_0f7a4 {l : Launch} {D : va_G} {Y : Nat → ClassId} {ad : Nat → Nat} (a0 : Int32) {μ : Mem} {K : Int32 → Mem → Prop}  (hX : x_J6_bitCount_0f7a4 a0 μ K) : ConI l yJ6_bitCount_0f7a4 wsJ6_bitCount_0f7a4 rm_J6_bitCount_0f7a4 [.int a0] D Y ad μ K := conI_of (cc := cJ6_bitCount_0f7a4) (maxL := 1) (ret := (some .int)) (own := RJ6) _ (by decide +kernel) rfl rfl (Nat.le_of_ble_eq_true rfl) (fun p e s m args below meth c C0 hlk hret => j_sub (l' := [(0, .int a0)]) [0] rfl (w_J6_bitCount_0f7a4 C0 hlk hret a0 μ K  hX))
