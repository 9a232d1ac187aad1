/-! PhaseTonesLaw.together(II)I -/
abbrev rm_L_together : Room := rmf 0 0
def xb_L_together_L4 (K : Int32 → Mem → Prop) (B : Int32 → Int32 → Mem → Prop) (a2 : Int32) (a3 : Int32) (μ : Mem) : Prop :=
  (a3 ≤ 0 → K a2 μ) ∧ (¬ (a3 ≤ 0) → ¬ a3 = 0 ∧ ∀ v3 : Int32, v3 = (a2 - a2 / a3 * a3) → B a3 v3 μ)
def x_L_together_L4 (K : Int32 → Mem → Prop) : Nat → Int32 → Int32 → Mem → Prop
  | 0 => fun _ _ _ => False
  | n + 1 => fun a2 a3 μ => xb_L_together_L4 K (x_L_together_L4 K n) a2 a3 μ
set_option maxRecDepth 20000 in
theorem wb_L_together_L4 {p : Program} {l : Launch} {e : Env} {s : State} {m : MethodId} {args : Array Value} {below : List Frame} {meth : Method} {c : Code} {D : va_G} {Y : Nat → ClassId} {ad : Nat → Nat} (C0 : CX D Y ad (PA ad) rm_L_together 0 0 p s args m c cL_together 5 RL wsL_together) (hlk : meth.locks = false) (hret : meth.sig.returnType = (some .int)) (a2 : Int32) (a3 : Int32) (μ : Mem) (K : Int32 → Mem → Prop) (B : Int32 → Int32 → Mem → Prop) (hB : ∀ (a2 : Int32) (a3 : Int32) (μ : Mem), B a2 a3 μ → J p l e rm_L_together s m args below meth c D Y ad (PA ad) 0 0 5 (MQ below (va_Qi K (BB D Y ad) (PA ad)) args s 0 0 (PA ad)) 4 [(2, .int a2), (3, .int a3)] [] μ)  (hX : xb_L_together_L4 K B a2 a3 μ) : J p l e rm_L_together s m args below meth c D Y ad (PA ad) 0 0 5 (MQ below (va_Qi K (BB D Y ad) (PA ad)) args s 0 0 (PA ad)) 4 [(2, .int a2), (3, .int a3)] [] μ := by
  refine j_iload_n C0 1 dL_together_4 rfl rfl rfl ?_
  refine j_if_le C0 (tgt := 21) dL_together_5 (by decide) rfl (fun c1 => ?_) (fun c1 => ?_)
  · have hX := hX.1 c1
    refine j_iload_n C0 0 dL_together_21 rfl rfl rfl ?_
    exact j_iret C0 hlk hret dL_together_22 hX
  · have hX := hX.2 c1
    refine j_iload_n C0 0 dL_together_8 rfl rfl rfl ?_
    refine j_iload_n C0 1 dL_together_9 rfl rfl rfl ?_
    obtain ⟨h2, hX⟩ := hX
    refine j_irem C0 dL_together_10 h2 rfl ?_
    refine j_topi (fun v3 e_v3 => ?_)
    have hX := hX v3 e_v3
    refine j_istore C0 [(4, .int v3), (2, .int a2), (3, .int a3)] dL_together_11 (by decide) rfl rfl ?_
    refine j_iload_n C0 2 dL_together_13 rfl rfl rfl ?_
    refine j_istore_n C0 [(2, .int a3), (4, .int v3), (3, .int a3)] dL_together_14 rfl (by decide) rfl rfl ?_
    refine j_iload C0 1 dL_together_15 rfl rfl ?_
    refine j_istore_n C0 [(3, .int v3), (2, .int a3), (4, .int v3)] dL_together_17 rfl (by decide) rfl rfl ?_
    refine j_goto C0 (tgt := 4) dL_together_18 (by decide) ?_
    exact j_sub (l' := [(2, .int a3), (3, .int v3)]) [1, 0] rfl (hB a3 v3 μ  hX)
theorem w_L_together_L4 {p : Program} {l : Launch} {e : Env} {s : State} {m : MethodId} {args : Array Value} {below : List Frame} {meth : Method} {c : Code} {D : va_G} {Y : Nat → ClassId} {ad : Nat → Nat} (C0 : CX D Y ad (PA ad) rm_L_together 0 0 p s args m c cL_together 5 RL wsL_together) (hlk : meth.locks = false) (hret : meth.sig.returnType = (some .int)) (K : Int32 → Mem → Prop) : ∀ (n : Nat) (a2 : Int32) (a3 : Int32) (μ : Mem)  (hX : x_L_together_L4 K n a2 a3 μ), J p l e rm_L_together s m args below meth c D Y ad (PA ad) 0 0 5 (MQ below (va_Qi K (BB D Y ad) (PA ad)) args s 0 0 (PA ad)) 4 [(2, .int a2), (3, .int a3)] [] μ
  | 0, a2, a3, μ, hX => hX.elim
  | n + 1, a2, a3, μ, hX => wb_L_together_L4 C0 hlk hret a2 a3 μ K (x_L_together_L4 K n) (fun a2 a3 μ  hx => w_L_together_L4 C0 hlk hret K n a2 a3 μ  hx)  hX
def x_L_together (a0 : Int32) (a1 : Int32) (μ : Mem) (K : Int32 → Mem → Prop) : Prop :=
  ∃ n : Nat, x_L_together_L4 K n a0 a1 μ
set_option maxRecDepth 20000 in
theorem w_L_together {p : Program} {l : Launch} {e : Env} {s : State} {m : MethodId} {args : Array Value} {below : List Frame} {meth : Method} {c : Code} {D : va_G} {Y : Nat → ClassId} {ad : Nat → Nat} (C0 : CX D Y ad (PA ad) rm_L_together 0 0 p s args m c cL_together 5 RL wsL_together) (hlk : meth.locks = false) (hret : meth.sig.returnType = (some .int)) (a0 : Int32) (a1 : Int32) (μ : Mem) (K : Int32 → Mem → Prop)  (hX : x_L_together a0 a1 μ K) : J p l e rm_L_together s m args below meth c D Y ad (PA ad) 0 0 5 (MQ below (va_Qi K (BB D Y ad) (PA ad)) args s 0 0 (PA ad)) 0 [(0, .int a0), (1, .int a1)] [] μ := by
  refine j_iload_n C0 0 dL_together_0 rfl rfl rfl ?_
  refine j_istore_n C0 [(2, .int a0), (0, .int a0), (1, .int a1)] dL_together_1 rfl (by decide) rfl rfl ?_
  refine j_iload_n C0 2 dL_together_2 rfl rfl rfl ?_
  refine j_istore_n C0 [(3, .int a1), (2, .int a0), (0, .int a0), (1, .int a1)] dL_together_3 rfl (by decide) rfl rfl ?_
  obtain ⟨n, hX⟩ := hX
  exact j_sub (l' := [(2, .int a0), (3, .int a1)]) [1, 0] rfl (w_L_together_L4 C0 hlk hret K n a0 a1 μ  hX)
theorem c_L_together {l : Launch} {D : va_G} {Y : Nat → ClassId} {ad : Nat → Nat} (a0 : Int32) (a1 : Int32) {μ : Mem} {K : Int32 → Mem → Prop}  (hX : x_L_together a0 a1 μ K) : ConI l yL_together wsL_together rm_L_together [.int a0, .int a1] D Y ad μ K := conI_of (cc := cL_together) (maxL := 5) (ret := (some .int)) (own := RL) _ (by decide +kernel) rfl rfl (Nat.le_of_ble_eq_true rfl) (fun p e s m args below meth c C0 hlk hret => j_sub (l' := [(0, .int a0), (1, .int a1)]) [0, 1] rfl (w_L_together C0 hlk hret a0 a1 μ K  hX))
/-! PhaseTonesLaw.areWheels(LPhaseTones;)Z -/
abbrev rm_L_areWheels : Room := rmf 3 74
theorem hw_L_areWheels_0 : Cond.constant RL 18 (65536) ∈ wsL_areWheels := by decide +kernel
theorem hw_L_areWheels_1 : Cond.constant RL 24 (32768) ∈ wsL_areWheels := by decide +kernel
def x_L_areWheels_L451 (K : Int32 → Mem → Prop) (as0 : Int32) (as1 : Int32) (μ : Mem) : Prop :=
  (as1 = as0 → K 1 μ) ∧ (¬ (as1 = as0) → K 0 μ)
set_option maxRecDepth 20000 in
theorem w_L_areWheels_L451 {p : Program} {l : Launch} {e : Env} {s : State} {m : MethodId} {args : Array Value} {below : List Frame} {meth : Method} {c : Code} {D : va_G} {Y : Nat → ClassId} {ad : Nat → Nat} (C0 : CX D Y ad (PA ad) rm_L_areWheels 0 0 p s args m c cL_areWheels 14 RL wsL_areWheels) (hlk : meth.locks = false) (hret : meth.sig.returnType = (some .boolean)) (as0 : Int32) (as1 : Int32) (μ : Mem) (K : Int32 → Mem → Prop)  (hX : x_L_areWheels_L451 K as0 as1 μ) : J p l e rm_L_areWheels s m args below meth c D Y ad (PA ad) 0 0 14 (MQ below (va_Qi K (BB D Y ad) (PA ad)) args s 0 0 (PA ad)) 451 [] [.int as0, .int as1] μ := by
  refine j_icmp_ne C0 (tgt := 458) dL_areWheels_451 (by decide) rfl (fun c20 => ?_) (fun c20 => ?_)
  · have hX := hX.1 c20
    refine j_iconst C0 1 dL_areWheels_454 (by decide) rfl ?_
    refine j_goto C0 (tgt := 459) dL_areWheels_455 (by decide) ?_
    exact j_zret C0 hlk hret dL_areWheels_459 zb1 hX
  · have hX := hX.2 c20
    refine j_iconst C0 0 dL_areWheels_458 (by decide) rfl ?_
    exact j_zret C0 hlk hret dL_areWheels_459 zb0 hX
def x_L_areWheels_L404 (K : Int32 → Mem → Prop) (a1 : Int32) (a2 : Int32) (a3 : Int32) (a4 : Int32) (μ : Mem) : Prop :=
  (a4 = 0 → K 0 μ) ∧ (¬ (a4 = 0) → x_X5_count 3 μ (fun r10 μ9 => (r10 = a2 → x_X5_count 7 μ9 (fun r13 μ12 => (r13 = a3 → x_X5_count 4 μ12 (fun r16 μ15 => x_X5_count 0 μ15 (fun r18 μ17 => (a1 ≤ r18 → x_L_areWheels_L451 K a1 r16 μ17) ∧ (¬ (a1 ≤ r18) → x_X5_count 0 μ17 (fun r22 μ21 => x_L_areWheels_L451 K r22 r16 μ21))))) ∧ (¬ (r13 = a3) → K 0 μ12))) ∧ (¬ (r10 = a2) → K 0 μ9)))
set_option maxRecDepth 20000 in
theorem w_L_areWheels_L404 {p : Program} {l : Launch} {e : Env} {s : State} {m : MethodId} {args : Array Value} {below : List Frame} {meth : Method} {c : Code} {D : va_G} {Y : Nat → ClassId} {ad : Nat → Nat} (C0 : CX D Y ad (PA ad) rm_L_areWheels 0 0 p s args m c cL_areWheels 14 RL wsL_areWheels) (hlk : meth.locks = false) (hret : meth.sig.returnType = (some .boolean)) (a1 : Int32) (a2 : Int32) (a3 : Int32) (a4 : Int32) (μ : Mem) (K : Int32 → Mem → Prop)  (hX : x_L_areWheels_L404 K a1 a2 a3 a4 μ) : J p l e rm_L_areWheels s m args below meth c D Y ad (PA ad) 0 0 14 (MQ below (va_Qi K (BB D Y ad) (PA ad)) args s 0 0 (PA ad)) 404 [(0, .ref (ad 0)), (1, .int a1), (2, .int a2), (3, .int a3), (4, .int a4)] [] μ := by
  refine j_iload C0 4 dL_areWheels_404 rfl rfl ?_
  refine j_if_eq C0 (tgt := 458) dL_areWheels_406 (by decide) rfl (fun c8 => ?_) (fun c8 => ?_)
  · have hX := hX.1 c8
    refine j_iconst C0 0 dL_areWheels_458 (by decide) rfl ?_
    exact j_zret C0 hlk hret dL_areWheels_459 zb0 hX
  · have hX := hX.2 c8
    refine j_aload_n C0 0 dL_areWheels_409 rfl rfl rfl ?_
    refine j_iconst C0 3 dL_areWheels_410 (by decide) rfl ?_
    refine j_callVi C0 1 [.int 3] (c_X5_count 3  hX) dL_areWheels_411 gL_areWheels_X5_count rfl (by decide +kernel) ⟨⟨Nat.le_of_ble_eq_true rfl, Nat.le_of_ble_eq_true rfl⟩, rfl, rfl⟩ (kd_lt (rfl : kd 0 = 5) (by decide)) (ce5 (rfl : kd 0 = 5)) rfl rfl rfl (Nat.le_of_ble_eq_true rfl) rfl (fun r10 μ9 hX => ?_)
    refine j_iload_n C0 2 dL_areWheels_414 rfl rfl rfl ?_
    refine j_icmp_ne C0 (tgt := 458) dL_areWheels_415 (by decide) rfl (fun c11 => ?_) (fun c11 => ?_)
    · have hX := hX.1 c11
      refine j_aload_n C0 0 dL_areWheels_418 rfl rfl rfl ?_
      refine j_bipush C0 7 dL_areWheels_419 (by decide) rfl ?_
      refine j_callVi C0 1 [.int 7] (c_X5_count 7  hX) dL_areWheels_421 gL_areWheels_X5_count rfl (by decide +kernel) ⟨⟨Nat.le_of_ble_eq_true rfl, Nat.le_of_ble_eq_true rfl⟩, rfl, rfl⟩ (kd_lt (rfl : kd 0 = 5) (by decide)) (ce5 (rfl : kd 0 = 5)) rfl rfl rfl (Nat.le_of_ble_eq_true rfl) rfl (fun r13 μ12 hX => ?_)
      refine j_iload_n C0 3 dL_areWheels_424 rfl rfl rfl ?_
      refine j_icmp_ne C0 (tgt := 458) dL_areWheels_425 (by decide) rfl (fun c14 => ?_) (fun c14 => ?_)
      · have hX := hX.1 c14
        refine j_aload_n C0 0 dL_areWheels_428 rfl rfl rfl ?_
        refine j_iconst C0 4 dL_areWheels_429 (by decide) rfl ?_
        refine j_callVi C0 1 [.int 4] (c_X5_count 4  hX) dL_areWheels_430 gL_areWheels_X5_count rfl (by decide +kernel) ⟨⟨Nat.le_of_ble_eq_true rfl, Nat.le_of_ble_eq_true rfl⟩, rfl, rfl⟩ (kd_lt (rfl : kd 0 = 5) (by decide)) (ce5 (rfl : kd 0 = 5)) rfl rfl rfl (Nat.le_of_ble_eq_true rfl) rfl (fun r16 μ15 hX => ?_)
        refine j_iload_n C0 1 dL_areWheels_433 rfl rfl rfl ?_
        refine j_aload_n C0 0 dL_areWheels_434 rfl rfl rfl ?_
        refine j_iconst C0 0 dL_areWheels_435 (by decide) rfl ?_
        refine j_callVi C0 1 [.int 0] (c_X5_count 0  hX) dL_areWheels_436 gL_areWheels_X5_count rfl (by decide +kernel) ⟨⟨Nat.le_of_ble_eq_true rfl, Nat.le_of_ble_eq_true rfl⟩, rfl, rfl⟩ (kd_lt (rfl : kd 0 = 5) (by decide)) (ce5 (rfl : kd 0 = 5)) rfl rfl rfl (Nat.le_of_ble_eq_true rfl) rfl (fun r18 μ17 hX => ?_)
        refine j_icmp_le C0 (tgt := 450) dL_areWheels_439 (by decide) rfl (fun c19 => ?_) (fun c19 => ?_)
        · have hX := hX.1 c19
          refine j_iload_n C0 1 dL_areWheels_450 rfl rfl rfl ?_
          exact j_sub (l' := []) [] rfl (w_L_areWheels_L451 C0 hlk hret a1 r16 μ17 K  hX)
        · have hX := hX.2 c19
          refine j_aload_n C0 0 dL_areWheels_442 rfl rfl rfl ?_
          refine j_iconst C0 0 dL_areWheels_443 (by decide) rfl ?_
          refine j_callVi C0 1 [.int 0] (c_X5_count 0  hX) dL_areWheels_444 gL_areWheels_X5_count rfl (by decide +kernel) ⟨⟨Nat.le_of_ble_eq_true rfl, Nat.le_of_ble_eq_true rfl⟩, rfl, rfl⟩ (kd_lt (rfl : kd 0 = 5) (by decide)) (ce5 (rfl : kd 0 = 5)) rfl rfl rfl (Nat.le_of_ble_eq_true rfl) rfl (fun r22 μ21 hX => ?_)
          refine j_goto C0 (tgt := 451) dL_areWheels_447 (by decide) ?_
          exact j_sub (l' := []) [] rfl (w_L_areWheels_L451 C0 hlk hret r22 r16 μ21 K  hX)
      · have hX := hX.2 c14
        refine j_iconst C0 0 dL_areWheels_458 (by decide) rfl ?_
        exact j_zret C0 hlk hret dL_areWheels_459 zb0 hX
    · have hX := hX.2 c11
      refine j_iconst C0 0 dL_areWheels_458 (by decide) rfl ?_
      exact j_zret C0 hlk hret dL_areWheels_459 zb0 hX
def x_L_areWheels_L398 (K : Int32 → Mem → Prop) (B : Int32 → Int32 → Int32 → Int32 → Int32 → Mem → Prop) (a1 : Int32) (a2 : Int32) (a3 : Int32) (a4 : Int32) (a5 : Int32) (μ : Mem) : Prop :=
  ∀ v51 : Int32, v51 = a5 + 1 → B a1 a2 a3 a4 v51 μ
set_option maxRecDepth 20000 in
theorem w_L_areWheels_L398 {p : Program} {l : Launch} {e : Env} {s : State} {m : MethodId} {args : Array Value} {below : List Frame} {meth : Method} {c : Code} {D : va_G} {Y : Nat → ClassId} {ad : Nat → Nat} (C0 : CX D Y ad (PA ad) rm_L_areWheels 0 0 p s args m c cL_areWheels 14 RL wsL_areWheels) (hlk : meth.locks = false) (hret : meth.sig.returnType = (some .boolean)) (a1 : Int32) (a2 : Int32) (a3 : Int32) (a4 : Int32) (a5 : Int32) (μ : Mem) (K : Int32 → Mem → Prop) (B : Int32 → Int32 → Int32 → Int32 → Int32 → Mem → Prop) (hB : ∀ (a1 : Int32) (a2 : Int32) (a3 : Int32) (a4 : Int32) (a5 : Int32) (μ : Mem), B a1 a2 a3 a4 a5 μ → J p l e rm_L_areWheels s m args below meth c D Y ad (PA ad) 0 0 14 (MQ below (va_Qi K (BB D Y ad) (PA ad)) args s 0 0 (PA ad)) 38 [(0, .ref (ad 0)), (1, .int a1), (2, .int a2), (3, .int a3), (4, .int a4), (5, .int a5)] [] μ)  (hX : x_L_areWheels_L398 K B a1 a2 a3 a4 a5 μ) : J p l e rm_L_areWheels s m args below meth c D Y ad (PA ad) 0 0 14 (MQ below (va_Qi K (BB D Y ad) (PA ad)) args s 0 0 (PA ad)) 398 [(0, .ref (ad 0)), (1, .int a1), (2, .int a2), (3, .int a3), (4, .int a4), (5, .int a5)] [] μ := by
  obtain ⟨v51, e_v51⟩ : ∃ z : Int32, z = a5 + 1 := ⟨_, rfl⟩
  have hX := hX v51 e_v51
  refine j_iinc C0 5 v51 [(5, .int v51), (0, .ref (ad 0)), (1, .int a1), (2, .int a2), (3, .int a3), (4, .int a4)] dL_areWheels_398 rfl (by rw [e_v51]; rfl) (by decide) rfl rfl ?_
  refine j_goto C0 (tgt := 38) dL_areWheels_401 (by decide) ?_
  exact j_sub (l' := [(0, .ref (ad 0)), (1, .int a1), (2, .int a2), (3, .int a3), (4, .int a4), (5, .int v51)]) [1, 2, 3, 4, 5, 0] rfl (hB a1 a2 a3 a4 v51 μ  hX)
def x_L_areWheels_L390 (K : Int32 → Mem → Prop) (B : Int32 → Int32 → Int32 → Int32 → Int32 → Mem → Prop) (B2 : Int32 → Int32 → Int32 → Int32 → Int32 → Int32 → Mem → Prop) (a1 : Int32) (a2 : Int32) (a3 : Int32) (a5 : Int32) (a12 : Int32) (as0 : Int32) (μ : Mem) : Prop :=
  ∀ v62 : Int32, v62 = a12 + 1 → B2 a1 a2 a3 as0 a5 v62 μ
set_option maxRecDepth 20000 in
theorem w_L_areWheels_L390 {p : Program} {l : Launch} {e : Env} {s : State} {m : MethodId} {args : Array Value} {below : List Frame} {meth : Method} {c : Code} {D : va_G} {Y : Nat → ClassId} {ad : Nat → Nat} (C0 : CX D Y ad (PA ad) rm_L_areWheels 0 0 p s args m c cL_areWheels 14 RL wsL_areWheels) (hlk : meth.locks = false) (hret : meth.sig.returnType = (some .boolean)) (a1 : Int32) (a2 : Int32) (a3 : Int32) (a5 : Int32) (a12 : Int32) (as0 : Int32) (μ : Mem) (K : Int32 → Mem → Prop) (B : Int32 → Int32 → Int32 → Int32 → Int32 → Mem → Prop) (hB : ∀ (a1 : Int32) (a2 : Int32) (a3 : Int32) (a4 : Int32) (a5 : Int32) (μ : Mem), B a1 a2 a3 a4 a5 μ → J p l e rm_L_areWheels s m args below meth c D Y ad (PA ad) 0 0 14 (MQ below (va_Qi K (BB D Y ad) (PA ad)) args s 0 0 (PA ad)) 38 [(0, .ref (ad 0)), (1, .int a1), (2, .int a2), (3, .int a3), (4, .int a4), (5, .int a5)] [] μ) (B2 : Int32 → Int32 → Int32 → Int32 → Int32 → Int32 → Mem → Prop) (hB2 : ∀ (a1 : Int32) (a2 : Int32) (a3 : Int32) (a4 : Int32) (a5 : Int32) (a12 : Int32) (μ : Mem), B2 a1 a2 a3 a4 a5 a12 μ → J p l e rm_L_areWheels s m args below meth c D Y ad (PA ad) 0 0 14 (MQ below (va_Qi K (BB D Y ad) (PA ad)) args s 0 0 (PA ad)) 331 [(0, .ref (ad 0)), (1, .int a1), (2, .int a2), (3, .int a3), (4, .int a4), (5, .int a5), (12, .int a12)] [] μ)  (hX : x_L_areWheels_L390 K B B2 a1 a2 a3 a5 a12 as0 μ) : J p l e rm_L_areWheels s m args below meth c D Y ad (PA ad) 0 0 14 (MQ below (va_Qi K (BB D Y ad) (PA ad)) args s 0 0 (PA ad)) 390 [(0, .ref (ad 0)), (1, .int a1), (2, .int a2), (3, .int a3), (5, .int a5), (12, .int a12)] [.int as0] μ := by
  refine j_istore C0 [(4, .int as0), (0, .ref (ad 0)), (1, .int a1), (2, .int a2), (3, .int a3), (5, .int a5), (12, .int a12)] dL_areWheels_390 (by decide) rfl rfl ?_
  obtain ⟨v62, e_v62⟩ : ∃ z : Int32, z = a12 + 1 := ⟨_, rfl⟩
  have hX := hX v62 e_v62
  refine j_iinc C0 6 v62 [(12, .int v62), (4, .int as0), (0, .ref (ad 0)), (1, .int a1), (2, .int a2), (3, .int a3), (5, .int a5)] dL_areWheels_392 rfl (by rw [e_v62]; rfl) (by decide) rfl rfl ?_
  refine j_goto C0 (tgt := 331) dL_areWheels_395 (by decide) ?_
  exact j_sub (l' := [(0, .ref (ad 0)), (1, .int a1), (2, .int a2), (3, .int a3), (4, .int as0), (5, .int a5), (12, .int v62)]) [2, 3, 4, 5, 1, 6, 0] rfl (hB2 a1 a2 a3 as0 a5 v62 μ  hX)
def x_L_areWheels_L382 (K : Int32 → Mem → Prop) (B : Int32 → Int32 → Int32 → Int32 → Int32 → Mem → Prop) (B2 : Int32 → Int32 → Int32 → Int32 → Int32 → Int32 → Mem → Prop) (a1 : Int32) (a2 : Int32) (a3 : Int32) (a5 : Int32) (a12 : Int32) (as0 : Int32) (as1 : Int32) (μ : Mem) : Prop :=
  (as1 = as0 → x_L_areWheels_L390 K B B2 a1 a2 a3 a5 a12 1 μ) ∧ (¬ (as1 = as0) → x_L_areWheels_L390 K B B2 a1 a2 a3 a5 a12 0 μ)
set_option maxRecDepth 20000 in
theorem w_L_areWheels_L382 {p : Program} {l : Launch} {e : Env} {s : State} {m : MethodId} {args : Array Value} {below : List Frame} {meth : Method} {c : Code} {D : va_G} {Y : Nat → ClassId} {ad : Nat → Nat} (C0 : CX D Y ad (PA ad) rm_L_areWheels 0 0 p s args m c cL_areWheels 14 RL wsL_areWheels) (hlk : meth.locks = false) (hret : meth.sig.returnType = (some .boolean)) (a1 : Int32) (a2 : Int32) (a3 : Int32) (a5 : Int32) (a12 : Int32) (as0 : Int32) (as1 : Int32) (μ : Mem) (K : Int32 → Mem → Prop) (B : Int32 → Int32 → Int32 → Int32 → Int32 → Mem → Prop) (hB : ∀ (a1 : Int32) (a2 : Int32) (a3 : Int32) (a4 : Int32) (a5 : Int32) (μ : Mem), B a1 a2 a3 a4 a5 μ → J p l e rm_L_areWheels s m args below meth c D Y ad (PA ad) 0 0 14 (MQ below (va_Qi K (BB D Y ad) (PA ad)) args s 0 0 (PA ad)) 38 [(0, .ref (ad 0)), (1, .int a1), (2, .int a2), (3, .int a3), (4, .int a4), (5, .int a5)] [] μ) (B2 : Int32 → Int32 → Int32 → Int32 → Int32 → Int32 → Mem → Prop) (hB2 : ∀ (a1 : Int32) (a2 : Int32) (a3 : Int32) (a4 : Int32) (a5 : Int32) (a12 : Int32) (μ : Mem), B2 a1 a2 a3 a4 a5 a12 μ → J p l e rm_L_areWheels s m args below meth c D Y ad (PA ad) 0 0 14 (MQ below (va_Qi K (BB D Y ad) (PA ad)) args s 0 0 (PA ad)) 331 [(0, .ref (ad 0)), (1, .int a1), (2, .int a2), (3, .int a3), (4, .int a4), (5, .int a5), (12, .int a12)] [] μ)  (hX : x_L_areWheels_L382 K B B2 a1 a2 a3 a5 a12 as0 as1 μ) : J p l e rm_L_areWheels s m args below meth c D Y ad (PA ad) 0 0 14 (MQ below (va_Qi K (BB D Y ad) (PA ad)) args s 0 0 (PA ad)) 382 [(0, .ref (ad 0)), (1, .int a1), (2, .int a2), (3, .int a3), (5, .int a5), (12, .int a12)] [.int as0, .int as1] μ := by
  refine j_icmp_ne C0 (tgt := 389) dL_areWheels_382 (by decide) rfl (fun c61 => ?_) (fun c61 => ?_)
  · have hX := hX.1 c61
    refine j_iconst C0 1 dL_areWheels_385 (by decide) rfl ?_
    refine j_goto C0 (tgt := 390) dL_areWheels_386 (by decide) ?_
    exact j_sub (l' := [(0, .ref (ad 0)), (1, .int a1), (2, .int a2), (3, .int a3), (5, .int a5), (12, .int a12)]) [0, 1, 2, 3, 4, 5] rfl (w_L_areWheels_L390 C0 hlk hret a1 a2 a3 a5 a12 1 μ K B hB B2 hB2  hX)
  · have hX := hX.2 c61
    refine j_iconst C0 0 dL_areWheels_389 (by decide) rfl ?_
    exact j_sub (l' := [(0, .ref (ad 0)), (1, .int a1), (2, .int a2), (3, .int a3), (5, .int a5), (12, .int a12)]) [0, 1, 2, 3, 4, 5] rfl (w_L_areWheels_L390 C0 hlk hret a1 a2 a3 a5 a12 0 μ K B hB B2 hB2  hX)
def xb_L_areWheels_L331 (K : Int32 → Mem → Prop) (B : Int32 → Int32 → Int32 → Int32 → Int32 → Mem → Prop) (B2 : Int32 → Int32 → Int32 → Int32 → Int32 → Int32 → Mem → Prop) (a1 : Int32) (a2 : Int32) (a3 : Int32) (a4 : Int32) (a5 : Int32) (a12 : Int32) (μ : Mem) : Prop :=
  (4 ≤ a12 → x_L_areWheels_L398 K B a1 a2 a3 a4 a5 μ) ∧ (¬ (4 ≤ a12) → (a4 = 0 → x_L_areWheels_L398 K B a1 a2 a3 a4 a5 μ) ∧ (¬ (a4 = 0) → x_X5_wheel a5 7 μ (fun r54 μ53 => x_X5_wheel a12 7 μ53 (fun r56 μ55 => ∀ v57 : Int32, v57 = (r54 - r56) → x_X5_beat a5 a12 μ55 (fun r59 μ58 => (0 ≤ v57 → x_L_areWheels_L382 K B B2 a1 a2 a3 a5 a12 v57 r59 μ58) ∧ (¬ (0 ≤ v57) → x_L_areWheels_L382 K B B2 a1 a2 a3 a5 a12 (-v57) r59 μ58))))))
def x_L_areWheels_L331 (K : Int32 → Mem → Prop) (B : Int32 → Int32 → Int32 → Int32 → Int32 → Mem → Prop) : Nat → Int32 → Int32 → Int32 → Int32 → Int32 → Int32 → Mem → Prop
  | 0 => fun _ _ _ _ _ _ _ => False
  | n + 1 => fun a1 a2 a3 a4 a5 a12 μ => xb_L_areWheels_L331 K B (x_L_areWheels_L331 K B n) a1 a2 a3 a4 a5 a12 μ
set_option maxRecDepth 20000 in
theorem wb_L_areWheels_L331 {p : Program} {l : Launch} {e : Env} {s : State} {m : MethodId} {args : Array Value} {below : List Frame} {meth : Method} {c : Code} {D : va_G} {Y : Nat → ClassId} {ad : Nat → Nat} (C0 : CX D Y ad (PA ad) rm_L_areWheels 0 0 p s args m c cL_areWheels 14 RL wsL_areWheels) (hlk : meth.locks = false) (hret : meth.sig.returnType = (some .boolean)) (a1 : Int32) (a2 : Int32) (a3 : Int32) (a4 : Int32) (a5 : Int32) (a12 : Int32) (μ : Mem) (K : Int32 → Mem → Prop) (B : Int32 → Int32 → Int32 → Int32 → Int32 → Mem → Prop) (hB : ∀ (a1 : Int32) (a2 : Int32) (a3 : Int32) (a4 : Int32) (a5 : Int32) (μ : Mem), B a1 a2 a3 a4 a5 μ → J p l e rm_L_areWheels s m args below meth c D Y ad (PA ad) 0 0 14 (MQ below (va_Qi K (BB D Y ad) (PA ad)) args s 0 0 (PA ad)) 38 [(0, .ref (ad 0)), (1, .int a1), (2, .int a2), (3, .int a3), (4, .int a4), (5, .int a5)] [] μ) (B2 : Int32 → Int32 → Int32 → Int32 → Int32 → Int32 → Mem → Prop) (hB2 : ∀ (a1 : Int32) (a2 : Int32) (a3 : Int32) (a4 : Int32) (a5 : Int32) (a12 : Int32) (μ : Mem), B2 a1 a2 a3 a4 a5 a12 μ → J p l e rm_L_areWheels s m args below meth c D Y ad (PA ad) 0 0 14 (MQ below (va_Qi K (BB D Y ad) (PA ad)) args s 0 0 (PA ad)) 331 [(0, .ref (ad 0)), (1, .int a1), (2, .int a2), (3, .int a3), (4, .int a4), (5, .int a5), (12, .int a12)] [] μ)  (hX : xb_L_areWheels_L331 K B B2 a1 a2 a3 a4 a5 a12 μ) : J p l e rm_L_areWheels s m args below meth c D Y ad (PA ad) 0 0 14 (MQ below (va_Qi K (BB D Y ad) (PA ad)) args s 0 0 (PA ad)) 331 [(0, .ref (ad 0)), (1, .int a1), (2, .int a2), (3, .int a3), (4, .int a4), (5, .int a5), (12, .int a12)] [] μ := by
  refine j_iload C0 6 dL_areWheels_331 rfl rfl ?_
  refine j_iconst C0 4 dL_areWheels_333 (by decide) rfl ?_
  refine j_icmp_ge C0 (tgt := 398) dL_areWheels_334 (by decide) rfl (fun c50 => ?_) (fun c50 => ?_)
  · have hX := hX.1 c50
    exact j_sub (l' := [(0, .ref (ad 0)), (1, .int a1), (2, .int a2), (3, .int a3), (4, .int a4), (5, .int a5)]) [0, 1, 2, 3, 4, 5] rfl (w_L_areWheels_L398 C0 hlk hret a1 a2 a3 a4 a5 μ K B hB  hX)
  · have hX := hX.2 c50
    refine j_iload C0 4 dL_areWheels_337 rfl rfl ?_
    refine j_if_eq C0 (tgt := 398) dL_areWheels_339 (by decide) rfl (fun c52 => ?_) (fun c52 => ?_)
    · have hX := hX.1 c52
      exact j_sub (l' := [(0, .ref (ad 0)), (1, .int a1), (2, .int a2), (3, .int a3), (4, .int a4), (5, .int a5)]) [0, 1, 2, 3, 4, 5] rfl (w_L_areWheels_L398 C0 hlk hret a1 a2 a3 a4 a5 μ K B hB  hX)
    · have hX := hX.2 c52
      refine j_aload_n C0 0 dL_areWheels_342 rfl rfl rfl ?_
      refine j_iload C0 5 dL_areWheels_343 rfl rfl ?_
      refine j_bipush C0 7 dL_areWheels_345 (by decide) rfl ?_
      refine j_callVi C0 2 [.int a5, .int 7] (c_X5_wheel a5 7  hX) dL_areWheels_347 gL_areWheels_X5_wheel rfl (by decide +kernel) ⟨⟨Nat.le_of_ble_eq_true rfl, Nat.le_of_ble_eq_true rfl⟩, rfl, rfl⟩ (kd_lt (rfl : kd 0 = 5) (by decide)) (ce5 (rfl : kd 0 = 5)) rfl rfl rfl (Nat.le_of_ble_eq_true rfl) rfl (fun r54 μ53 hX => ?_)
      refine j_aload_n C0 0 dL_areWheels_350 rfl rfl rfl ?_
      refine j_iload C0 6 dL_areWheels_351 rfl rfl ?_
      refine j_bipush C0 7 dL_areWheels_353 (by decide) rfl ?_
      refine j_callVi C0 2 [.int a12, .int 7] (c_X5_wheel a12 7  hX) dL_areWheels_355 gL_areWheels_X5_wheel rfl (by decide +kernel) ⟨⟨Nat.le_of_ble_eq_true rfl, Nat.le_of_ble_eq_true rfl⟩, rfl, rfl⟩ (kd_lt (rfl : kd 0 = 5) (by decide)) (ce5 (rfl : kd 0 = 5)) rfl rfl rfl (Nat.le_of_ble_eq_true rfl) rfl (fun r56 μ55 hX => ?_)
      refine j_isub C0 dL_areWheels_358 rfl ?_
      refine j_topi (fun v57 e_v57 => ?_)
      have hX := hX v57 e_v57
      refine j_istore C0 [(13, .int v57), (0, .ref (ad 0)), (1, .int a1), (2, .int a2), (3, .int a3), (4, .int a4), (5, .int a5), (12, .int a12)] dL_areWheels_359 (by decide) rfl rfl ?_
      refine j_aload_n C0 1 dL_areWheels_361 rfl rfl rfl ?_
      refine j_iload C0 6 dL_areWheels_362 rfl rfl ?_
      refine j_iload C0 7 dL_areWheels_364 rfl rfl ?_
      refine j_callVi C0 2 [.int a5, .int a12] (c_X5_beat a5 a12  hX) dL_areWheels_366 gL_areWheels_X5_beat rfl (by decide +kernel) ⟨⟨Nat.le_of_ble_eq_true rfl, Nat.le_of_ble_eq_true rfl⟩, rfl, rfl⟩ (kd_lt (rfl : kd 0 = 5) (by decide)) (ce5 (rfl : kd 0 = 5)) rfl rfl rfl (Nat.le_of_ble_eq_true rfl) rfl (fun r59 μ58 hX => ?_)
      refine j_iload C0 0 dL_areWheels_369 rfl rfl ?_
      refine j_if_ge C0 (tgt := 380) dL_areWheels_371 (by decide) rfl (fun c60 => ?_) (fun c60 => ?_)
      · have hX := hX.1 c60
        refine j_iload C0 0 dL_areWheels_380 rfl rfl ?_
        exact j_sub (l' := [(0, .ref (ad 0)), (1, .int a1), (2, .int a2), (3, .int a3), (5, .int a5), (12, .int a12)]) [1, 2, 3, 4, 6, 7] rfl (w_L_areWheels_L382 C0 hlk hret a1 a2 a3 a5 a12 v57 r59 μ58 K B hB B2 hB2  hX)
      · have hX := hX.2 c60
        refine j_iload C0 0 dL_areWheels_374 rfl rfl ?_
        refine j_ineg C0 dL_areWheels_376 rfl ?_
        refine j_goto C0 (tgt := 382) dL_areWheels_377 (by decide) ?_
        exact j_sub (l' := [(0, .ref (ad 0)), (1, .int a1), (2, .int a2), (3, .int a3), (5, .int a5), (12, .int a12)]) [1, 2, 3, 4, 6, 7] rfl (w_L_areWheels_L382 C0 hlk hret a1 a2 a3 a5 a12 (-v57) r59 μ58 K B hB B2 hB2  hX)
theorem w_L_areWheels_L331 {p : Program} {l : Launch} {e : Env} {s : State} {m : MethodId} {args : Array Value} {below : List Frame} {meth : Method} {c : Code} {D : va_G} {Y : Nat → ClassId} {ad : Nat → Nat} (C0 : CX D Y ad (PA ad) rm_L_areWheels 0 0 p s args m c cL_areWheels 14 RL wsL_areWheels) (hlk : meth.locks = false) (hret : meth.sig.returnType = (some .boolean)) (K : Int32 → Mem → Prop) (B : Int32 → Int32 → Int32 → Int32 → Int32 → Mem → Prop) (hB : ∀ (a1 : Int32) (a2 : Int32) (a3 : Int32) (a4 : Int32) (a5 : Int32) (μ : Mem), B a1 a2 a3 a4 a5 μ → J p l e rm_L_areWheels s m args below meth c D Y ad (PA ad) 0 0 14 (MQ below (va_Qi K (BB D Y ad) (PA ad)) args s 0 0 (PA ad)) 38 [(0, .ref (ad 0)), (1, .int a1), (2, .int a2), (3, .int a3), (4, .int a4), (5, .int a5)] [] μ) : ∀ (n : Nat) (a1 : Int32) (a2 : Int32) (a3 : Int32) (a4 : Int32) (a5 : Int32) (a12 : Int32) (μ : Mem)  (hX : x_L_areWheels_L331 K B n a1 a2 a3 a4 a5 a12 μ), J p l e rm_L_areWheels s m args below meth c D Y ad (PA ad) 0 0 14 (MQ below (va_Qi K (BB D Y ad) (PA ad)) args s 0 0 (PA ad)) 331 [(0, .ref (ad 0)), (1, .int a1), (2, .int a2), (3, .int a3), (4, .int a4), (5, .int a5), (12, .int a12)] [] μ
  | 0, a1, a2, a3, a4, a5, a12, μ, hX => hX.elim
  | n + 1, a1, a2, a3, a4, a5, a12, μ, hX => wb_L_areWheels_L331 C0 hlk hret a1 a2 a3 a4 a5 a12 μ K B hB (x_L_areWheels_L331 K B n) (fun a1 a2 a3 a4 a5 a12 μ  hx => w_L_areWheels_L331 C0 hlk hret K B hB n a1 a2 a3 a4 a5 a12 μ  hx)  hX
def x_L_areWheels_L326 (K : Int32 → Mem → Prop) (B : Int32 → Int32 → Int32 → Int32 → Int32 → Mem → Prop) (a1 : Int32) (a2 : Int32) (a3 : Int32) (a5 : Int32) (as0 : Int32) (μ : Mem) : Prop :=
  ∃ n : Nat, x_L_areWheels_L331 K B n a1 a2 a3 as0 a5 0 μ
set_option maxRecDepth 20000 in
theorem w_L_areWheels_L326 {p : Program} {l : Launch} {e : Env} {s : State} {m : MethodId} {args : Array Value} {below : List Frame} {meth : Method} {c : Code} {D : va_G} {Y : Nat → ClassId} {ad : Nat → Nat} (C0 : CX D Y ad (PA ad) rm_L_areWheels 0 0 p s args m c cL_areWheels 14 RL wsL_areWheels) (hlk : meth.locks = false) (hret : meth.sig.returnType = (some .boolean)) (a1 : Int32) (a2 : Int32) (a3 : Int32) (a5 : Int32) (as0 : Int32) (μ : Mem) (K : Int32 → Mem → Prop) (B : Int32 → Int32 → Int32 → Int32 → Int32 → Mem → Prop) (hB : ∀ (a1 : Int32) (a2 : Int32) (a3 : Int32) (a4 : Int32) (a5 : Int32) (μ : Mem), B a1 a2 a3 a4 a5 μ → J p l e rm_L_areWheels s m args below meth c D Y ad (PA ad) 0 0 14 (MQ below (va_Qi K (BB D Y ad) (PA ad)) args s 0 0 (PA ad)) 38 [(0, .ref (ad 0)), (1, .int a1), (2, .int a2), (3, .int a3), (4, .int a4), (5, .int a5)] [] μ)  (hX : x_L_areWheels_L326 K B a1 a2 a3 a5 as0 μ) : J p l e rm_L_areWheels s m args below meth c D Y ad (PA ad) 0 0 14 (MQ below (va_Qi K (BB D Y ad) (PA ad)) args s 0 0 (PA ad)) 326 [(0, .ref (ad 0)), (1, .int a1), (2, .int a2), (3, .int a3), (5, .int a5)] [.int as0] μ := by
  refine j_istore C0 [(4, .int as0), (0, .ref (ad 0)), (1, .int a1), (2, .int a2), (3, .int a3), (5, .int a5)] dL_areWheels_326 (by decide) rfl rfl ?_
  refine j_iconst C0 0 dL_areWheels_328 (by decide) rfl ?_
  refine j_istore C0 [(12, .int 0), (4, .int as0), (0, .ref (ad 0)), (1, .int a1), (2, .int a2), (3, .int a3), (5, .int a5)] dL_areWheels_329 (by decide) rfl rfl ?_
  obtain ⟨n, hX⟩ := hX
  exact j_sub (l' := [(0, .ref (ad 0)), (1, .int a1), (2, .int a2), (3, .int a3), (4, .int as0), (5, .int a5), (12, .int 0)]) [2, 3, 4, 5, 1, 6, 0] rfl (w_L_areWheels_L331 C0 hlk hret K B hB n a1 a2 a3 as0 a5 0 μ  hX)
def x_L_areWheels_L325 (K : Int32 → Mem → Prop) (B : Int32 → Int32 → Int32 → Int32 → Int32 → Mem → Prop) (a1 : Int32) (a2 : Int32) (a3 : Int32) (a5 : Int32) (μ : Mem) : Prop :=
  x_L_areWheels_L326 K B a1 a2 a3 a5 0 μ
set_option maxRecDepth 20000 in
theorem w_L_areWheels_L325 {p : Program} {l : Launch} {e : Env} {s : State} {m : MethodId} {args : Array Value} {below : List Frame} {meth : Method} {c : Code} {D : va_G} {Y : Nat → ClassId} {ad : Nat → Nat} (C0 : CX D Y ad (PA ad) rm_L_areWheels 0 0 p s args m c cL_areWheels 14 RL wsL_areWheels) (hlk : meth.locks = false) (hret : meth.sig.returnType = (some .boolean)) (a1 : Int32) (a2 : Int32) (a3 : Int32) (a5 : Int32) (μ : Mem) (K : Int32 → Mem → Prop) (B : Int32 → Int32 → Int32 → Int32 → Int32 → Mem → Prop) (hB : ∀ (a1 : Int32) (a2 : Int32) (a3 : Int32) (a4 : Int32) (a5 : Int32) (μ : Mem), B a1 a2 a3 a4 a5 μ → J p l e rm_L_areWheels s m args below meth c D Y ad (PA ad) 0 0 14 (MQ below (va_Qi K (BB D Y ad) (PA ad)) args s 0 0 (PA ad)) 38 [(0, .ref (ad 0)), (1, .int a1), (2, .int a2), (3, .int a3), (4, .int a4), (5, .int a5)] [] μ)  (hX : x_L_areWheels_L325 K B a1 a2 a3 a5 μ) : J p l e rm_L_areWheels s m args below meth c D Y ad (PA ad) 0 0 14 (MQ below (va_Qi K (BB D Y ad) (PA ad)) args s 0 0 (PA ad)) 325 [(0, .ref (ad 0)), (1, .int a1), (2, .int a2), (3, .int a3), (5, .int a5)] [] μ := by
  refine j_iconst C0 0 dL_areWheels_325 (by decide) rfl ?_
  exact j_sub (l' := [(0, .ref (ad 0)), (1, .int a1), (2, .int a2), (3, .int a3), (5, .int a5)]) [0, 1, 2, 3, 4] rfl (w_L_areWheels_L326 C0 hlk hret a1 a2 a3 a5 0 μ K B hB  hX)
def x_L_areWheels_L321 (K : Int32 → Mem → Prop) (B : Int32 → Int32 → Int32 → Int32 → Int32 → Mem → Prop) (a1 : Int32) (a2 : Int32) (a3 : Int32) (a5 : Int32) (μ : Mem) : Prop :=
  x_L_areWheels_L326 K B a1 a2 a3 a5 1 μ
set_option maxRecDepth 20000 in
theorem w_L_areWheels_L321 {p : Program} {l : Launch} {e : Env} {s : State} {m : MethodId} {args : Array Value} {below : List Frame} {meth : Method} {c : Code} {D : va_G} {Y : Nat → ClassId} {ad : Nat → Nat} (C0 : CX D Y ad (PA ad) rm_L_areWheels 0 0 p s args m c cL_areWheels 14 RL wsL_areWheels) (hlk : meth.locks = false) (hret : meth.sig.returnType = (some .boolean)) (a1 : Int32) (a2 : Int32) (a3 : Int32) (a5 : Int32) (μ : Mem) (K : Int32 → Mem → Prop) (B : Int32 → Int32 → Int32 → Int32 → Int32 → Mem → Prop) (hB : ∀ (a1 : Int32) (a2 : Int32) (a3 : Int32) (a4 : Int32) (a5 : Int32) (μ : Mem), B a1 a2 a3 a4 a5 μ → J p l e rm_L_areWheels s m args below meth c D Y ad (PA ad) 0 0 14 (MQ below (va_Qi K (BB D Y ad) (PA ad)) args s 0 0 (PA ad)) 38 [(0, .ref (ad 0)), (1, .int a1), (2, .int a2), (3, .int a3), (4, .int a4), (5, .int a5)] [] μ)  (hX : x_L_areWheels_L321 K B a1 a2 a3 a5 μ) : J p l e rm_L_areWheels s m args below meth c D Y ad (PA ad) 0 0 14 (MQ below (va_Qi K (BB D Y ad) (PA ad)) args s 0 0 (PA ad)) 321 [(0, .ref (ad 0)), (1, .int a1), (2, .int a2), (3, .int a3), (5, .int a5)] [] μ := by
  refine j_iconst C0 1 dL_areWheels_321 (by decide) rfl ?_
  refine j_goto C0 (tgt := 326) dL_areWheels_322 (by decide) ?_
  exact j_sub (l' := [(0, .ref (ad 0)), (1, .int a1), (2, .int a2), (3, .int a3), (5, .int a5)]) [0, 1, 2, 3, 4] rfl (w_L_areWheels_L326 C0 hlk hret a1 a2 a3 a5 1 μ K B hB  hX)
def x_L_areWheels_L243 (K : Int32 → Mem → Prop) (B : Int32 → Int32 → Int32 → Int32 → Int32 → Mem → Prop) (a1 : Int32) (a2 : Int32) (a3 : Int32) (a5 : Int32) (a7 : Int32) (a9 : Int32) (a11 : Int32) (as0 : Int32) (as1 : Int32) (μ : Mem) : Prop :=
  (as1 = as0 → x_X5_wheel a5 8 μ (fun r74 μ73 => (r74 = a9 → (a11 = 0 → x_X5_wheel a5 9 μ73 (fun r78 μ77 => (r78 = 0 → x_X5_wheel a5 10 μ77 (fun r81 μ80 => (r81 = a7 → x_L_areWheels_L321 K B a1 a2 a3 a5 μ80) ∧ (¬ (r81 = a7) → x_L_areWheels_L325 K B a1 a2 a3 a5 μ80))) ∧ (¬ (r78 = 0) → x_L_areWheels_L325 K B a1 a2 a3 a5 μ77))) ∧ (¬ (a11 = 0) → x_X5_wheel a5 9 μ73 (fun r84 μ83 => (r84 < a11 → x_L_areWheels_L325 K B a1 a2 a3 a5 μ83) ∧ (¬ (r84 < a11) → x_X5_wheel a5 9 μ83 (fun r87 μ86 => (((999 : Int32) * a11) < r87 → x_L_areWheels_L325 K B a1 a2 a3 a5 μ86) ∧ (¬ (((999 : Int32) * a11) < r87) → x_L_areWheels_L321 K B a1 a2 a3 a5 μ86)))))) ∧ (¬ (r74 = a9) → x_L_areWheels_L325 K B a1 a2 a3 a5 μ73))) ∧ (¬ (as1 = as0) → x_L_areWheels_L325 K B a1 a2 a3 a5 μ)
set_option maxRecDepth 20000 in
theorem w_L_areWheels_L243 {p : Program} {l : Launch} {e : Env} {s : State} {m : MethodId} {args : Array Value} {below : List Frame} {meth : Method} {c : Code} {D : va_G} {Y : Nat → ClassId} {ad : Nat → Nat} (C0 : CX D Y ad (PA ad) rm_L_areWheels 0 0 p s args m c cL_areWheels 14 RL wsL_areWheels) (hlk : meth.locks = false) (hret : meth.sig.returnType = (some .boolean)) (a1 : Int32) (a2 : Int32) (a3 : Int32) (a5 : Int32) (a7 : Int32) (a9 : Int32) (a11 : Int32) (as0 : Int32) (as1 : Int32) (μ : Mem) (K : Int32 → Mem → Prop) (B : Int32 → Int32 → Int32 → Int32 → Int32 → Mem → Prop) (hB : ∀ (a1 : Int32) (a2 : Int32) (a3 : Int32) (a4 : Int32) (a5 : Int32) (μ : Mem), B a1 a2 a3 a4 a5 μ → J p l e rm_L_areWheels s m args below meth c D Y ad (PA ad) 0 0 14 (MQ below (va_Qi K (BB D Y ad) (PA ad)) args s 0 0 (PA ad)) 38 [(0, .ref (ad 0)), (1, .int a1), (2, .int a2), (3, .int a3), (4, .int a4), (5, .int a5)] [] μ)  (hX : x_L_areWheels_L243 K B a1 a2 a3 a5 a7 a9 a11 as0 as1 μ) : J p l e rm_L_areWheels s m args below meth c D Y ad (PA ad) 0 0 14 (MQ below (va_Qi K (BB D Y ad) (PA ad)) args s 0 0 (PA ad)) 243 [(0, .ref (ad 0)), (1, .int a1), (2, .int a2), (3, .int a3), (5, .int a5), (7, .int a7), (9, .int a9), (11, .int a11)] [.int as0, .int as1] μ := by
  refine j_icmp_ne C0 (tgt := 325) dL_areWheels_243 (by decide) rfl (fun c72 => ?_) (fun c72 => ?_)
  · have hX := hX.1 c72
    refine j_aload_n C0 0 dL_areWheels_246 rfl rfl rfl ?_
    refine j_iload C0 4 dL_areWheels_247 rfl rfl ?_
    refine j_bipush C0 8 dL_areWheels_249 (by decide) rfl ?_
    refine j_callVi C0 2 [.int a5, .int 8] (c_X5_wheel a5 8  hX) dL_areWheels_251 gL_areWheels_X5_wheel rfl (by decide +kernel) ⟨⟨Nat.le_of_ble_eq_true rfl, Nat.le_of_ble_eq_true rfl⟩, rfl, rfl⟩ (kd_lt (rfl : kd 0 = 5) (by decide)) (ce5 (rfl : kd 0 = 5)) rfl rfl rfl (Nat.le_of_ble_eq_true rfl) rfl (fun r74 μ73 hX => ?_)
    refine j_iload C0 6 dL_areWheels_254 rfl rfl ?_
    refine j_icmp_ne C0 (tgt := 325) dL_areWheels_256 (by decide) rfl (fun c75 => ?_) (fun c75 => ?_)
    · have hX := hX.1 c75
      refine j_iload C0 7 dL_areWheels_259 rfl rfl ?_
      refine j_if_ne C0 (tgt := 291) dL_areWheels_261 (by decide) rfl (fun c76 => ?_) (fun c76 => ?_)
      · have hX := hX.1 c76
        refine j_aload_n C0 0 dL_areWheels_264 rfl rfl rfl ?_
        refine j_iload C0 4 dL_areWheels_265 rfl rfl ?_
        refine j_bipush C0 9 dL_areWheels_267 (by decide) rfl ?_
        refine j_callVi C0 2 [.int a5, .int 9] (c_X5_wheel a5 9  hX) dL_areWheels_269 gL_areWheels_X5_wheel rfl (by decide +kernel) ⟨⟨Nat.le_of_ble_eq_true rfl, Nat.le_of_ble_eq_true rfl⟩, rfl, rfl⟩ (kd_lt (rfl : kd 0 = 5) (by decide)) (ce5 (rfl : kd 0 = 5)) rfl rfl rfl (Nat.le_of_ble_eq_true rfl) rfl (fun r78 μ77 hX => ?_)
        refine j_if_ne C0 (tgt := 325) dL_areWheels_272 (by decide) rfl (fun c79 => ?_) (fun c79 => ?_)
        · have hX := hX.1 c79
          refine j_aload_n C0 0 dL_areWheels_275 rfl rfl rfl ?_
          refine j_iload C0 4 dL_areWheels_276 rfl rfl ?_
          refine j_bipush C0 10 dL_areWheels_278 (by decide) rfl ?_
          refine j_callVi C0 2 [.int a5, .int 10] (c_X5_wheel a5 10  hX) dL_areWheels_280 gL_areWheels_X5_wheel rfl (by decide +kernel) ⟨⟨Nat.le_of_ble_eq_true rfl, Nat.le_of_ble_eq_true rfl⟩, rfl, rfl⟩ (kd_lt (rfl : kd 0 = 5) (by decide)) (ce5 (rfl : kd 0 = 5)) rfl rfl rfl (Nat.le_of_ble_eq_true rfl) rfl (fun r81 μ80 hX => ?_)
          refine j_iload C0 5 dL_areWheels_283 rfl rfl ?_
          refine j_icmp_ne C0 (tgt := 325) dL_areWheels_285 (by decide) rfl (fun c82 => ?_) (fun c82 => ?_)
          · have hX := hX.1 c82
            refine j_goto C0 (tgt := 321) dL_areWheels_288 (by decide) ?_
            exact j_sub (l' := [(0, .ref (ad 0)), (1, .int a1), (2, .int a2), (3, .int a3), (5, .int a5)]) [0, 1, 2, 3, 4] rfl (w_L_areWheels_L321 C0 hlk hret a1 a2 a3 a5 μ80 K B hB  hX)
          · have hX := hX.2 c82
            exact j_sub (l' := [(0, .ref (ad 0)), (1, .int a1), (2, .int a2), (3, .int a3), (5, .int a5)]) [0, 1, 2, 3, 4] rfl (w_L_areWheels_L325 C0 hlk hret a1 a2 a3 a5 μ80 K B hB  hX)
        · have hX := hX.2 c79
          exact j_sub (l' := [(0, .ref (ad 0)), (1, .int a1), (2, .int a2), (3, .int a3), (5, .int a5)]) [0, 1, 2, 3, 4] rfl (w_L_areWheels_L325 C0 hlk hret a1 a2 a3 a5 μ77 K B hB  hX)
      · have hX := hX.2 c76
        refine j_aload_n C0 0 dL_areWheels_291 rfl rfl rfl ?_
        refine j_iload C0 4 dL_areWheels_292 rfl rfl ?_
        refine j_bipush C0 9 dL_areWheels_294 (by decide) rfl ?_
        refine j_callVi C0 2 [.int a5, .int 9] (c_X5_wheel a5 9  hX) dL_areWheels_296 gL_areWheels_X5_wheel rfl (by decide +kernel) ⟨⟨Nat.le_of_ble_eq_true rfl, Nat.le_of_ble_eq_true rfl⟩, rfl, rfl⟩ (kd_lt (rfl : kd 0 = 5) (by decide)) (ce5 (rfl : kd 0 = 5)) rfl rfl rfl (Nat.le_of_ble_eq_true rfl) rfl (fun r84 μ83 hX => ?_)
        refine j_iload C0 7 dL_areWheels_299 rfl rfl ?_
        refine j_icmp_lt C0 (tgt := 325) dL_areWheels_301 (by decide) rfl (fun c85 => ?_) (fun c85 => ?_)
        · have hX := hX.1 c85
          exact j_sub (l' := [(0, .ref (ad 0)), (1, .int a1), (2, .int a2), (3, .int a3), (5, .int a5)]) [0, 1, 2, 3, 4] rfl (w_L_areWheels_L325 C0 hlk hret a1 a2 a3 a5 μ83 K B hB  hX)
        · have hX := hX.2 c85
          refine j_aload_n C0 0 dL_areWheels_304 rfl rfl rfl ?_
          refine j_iload C0 4 dL_areWheels_305 rfl rfl ?_
          refine j_bipush C0 9 dL_areWheels_307 (by decide) rfl ?_
          refine j_callVi C0 2 [.int a5, .int 9] (c_X5_wheel a5 9  hX) dL_areWheels_309 gL_areWheels_X5_wheel rfl (by decide +kernel) ⟨⟨Nat.le_of_ble_eq_true rfl, Nat.le_of_ble_eq_true rfl⟩, rfl, rfl⟩ (kd_lt (rfl : kd 0 = 5) (by decide)) (ce5 (rfl : kd 0 = 5)) rfl rfl rfl (Nat.le_of_ble_eq_true rfl) rfl (fun r87 μ86 hX => ?_)
          refine j_sipush C0 999 dL_areWheels_312 (by decide) rfl ?_
          refine j_iload C0 7 dL_areWheels_315 rfl rfl ?_
          refine j_imul C0 dL_areWheels_317 rfl ?_
          refine j_icmp_gt C0 (tgt := 325) dL_areWheels_318 (by decide) rfl (fun c88 => ?_) (fun c88 => ?_)
          · have hX := hX.1 c88
            exact j_sub (l' := [(0, .ref (ad 0)), (1, .int a1), (2, .int a2), (3, .int a3), (5, .int a5)]) [0, 1, 2, 3, 4] rfl (w_L_areWheels_L325 C0 hlk hret a1 a2 a3 a5 μ86 K B hB  hX)
          · have hX := hX.2 c88
            exact j_sub (l' := [(0, .ref (ad 0)), (1, .int a1), (2, .int a2), (3, .int a3), (5, .int a5)]) [0, 1, 2, 3, 4] rfl (w_L_areWheels_L321 C0 hlk hret a1 a2 a3 a5 μ86 K B hB  hX)
    · have hX := hX.2 c75
      exact j_sub (l' := [(0, .ref (ad 0)), (1, .int a1), (2, .int a2), (3, .int a3), (5, .int a5)]) [0, 1, 2, 3, 4] rfl (w_L_areWheels_L325 C0 hlk hret a1 a2 a3 a5 μ73 K B hB  hX)
  · have hX := hX.2 c72
    exact j_sub (l' := [(0, .ref (ad 0)), (1, .int a1), (2, .int a2), (3, .int a3), (5, .int a5)]) [0, 1, 2, 3, 4] rfl (w_L_areWheels_L325 C0 hlk hret a1 a2 a3 a5 μ K B hB  hX)
def x_L_areWheels_L171 (K : Int32 → Mem → Prop) (B : Int32 → Int32 → Int32 → Int32 → Int32 → Mem → Prop) (a1 : Int32) (a2 : Int32) (a5 : Int32) (a6 : Int32) (a7 : Int32) (a8 : Int32) (a9 : Int32) (as0 : Int32) (μ : Mem) : Prop :=
  x_X5_wheel a5 5 μ (fun r48 μ47 => (a6 < 0 → x_L_areWheels_L325 K B a1 a2 as0 a5 μ47) ∧ (¬ (a6 < 0) → (65536 ≤ a6 → x_L_areWheels_L325 K B a1 a2 as0 a5 μ47) ∧ (¬ (65536 ≤ a6) → (a7 < 0 → x_L_areWheels_L325 K B a1 a2 as0 a5 μ47) ∧ (¬ (a7 < 0) → (65536 ≤ a7 → x_L_areWheels_L325 K B a1 a2 as0 a5 μ47) ∧ (¬ (65536 ≤ a7) → x_X5_wheel a5 6 μ47 (fun r67 μ66 => (r67 = a8 → x_X5_wheel a5 7 μ66 (fun r70 μ69 => (a7 ≤ 32768 → x_L_areWheels_L243 K B a1 a2 as0 a5 a7 a9 r48 a7 r70 μ69) ∧ (¬ (a7 ≤ 32768) → x_L_areWheels_L243 K B a1 a2 as0 a5 a7 a9 r48 ((65536 : Int32) - a7) r70 μ69))) ∧ (¬ (r67 = a8) → x_L_areWheels_L325 K B a1 a2 as0 a5 μ66)))))))
set_option maxRecDepth 20000 in
theorem w_L_areWheels_L171 {p : Program} {l : Launch} {e : Env} {s : State} {m : MethodId} {args : Array Value} {below : List Frame} {meth : Method} {c : Code} {D : va_G} {Y : Nat → ClassId} {ad : Nat → Nat} (C0 : CX D Y ad (PA ad) rm_L_areWheels 0 0 p s args m c cL_areWheels 14 RL wsL_areWheels) (hlk : meth.locks = false) (hret : meth.sig.returnType = (some .boolean)) (a1 : Int32) (a2 : Int32) (a5 : Int32) (a6 : Int32) (a7 : Int32) (a8 : Int32) (a9 : Int32) (as0 : Int32) (μ : Mem) (K : Int32 → Mem → Prop) (B : Int32 → Int32 → Int32 → Int32 → Int32 → Mem → Prop) (hB : ∀ (a1 : Int32) (a2 : Int32) (a3 : Int32) (a4 : Int32) (a5 : Int32) (μ : Mem), B a1 a2 a3 a4 a5 μ → J p l e rm_L_areWheels s m args below meth c D Y ad (PA ad) 0 0 14 (MQ below (va_Qi K (BB D Y ad) (PA ad)) args s 0 0 (PA ad)) 38 [(0, .ref (ad 0)), (1, .int a1), (2, .int a2), (3, .int a3), (4, .int a4), (5, .int a5)] [] μ)  (hX : x_L_areWheels_L171 K B a1 a2 a5 a6 a7 a8 a9 as0 μ) : J p l e rm_L_areWheels s m args below meth c D Y ad (PA ad) 0 0 14 (MQ below (va_Qi K (BB D Y ad) (PA ad)) args s 0 0 (PA ad)) 171 [(0, .ref (ad 0)), (1, .int a1), (2, .int a2), (5, .int a5), (6, .int a6), (7, .int a7), (8, .int a8), (9, .int a9)] [.int as0] μ := by
  refine j_istore_n C0 [(3, .int as0), (0, .ref (ad 0)), (1, .int a1), (2, .int a2), (5, .int a5), (6, .int a6), (7, .int a7), (8, .int a8), (9, .int a9)] dL_areWheels_171 rfl (by decide) rfl rfl ?_
  refine j_aload_n C0 1 dL_areWheels_172 rfl rfl rfl ?_
  refine j_iload C0 4 dL_areWheels_173 rfl rfl ?_
  refine j_iconst C0 5 dL_areWheels_175 (by decide) rfl ?_
  refine j_callVi C0 2 [.int a5, .int 5] (c_X5_wheel a5 5  hX) dL_areWheels_176 gL_areWheels_X5_wheel rfl (by decide +kernel) ⟨⟨Nat.le_of_ble_eq_true rfl, Nat.le_of_ble_eq_true rfl⟩, rfl, rfl⟩ (kd_lt (rfl : kd 0 = 5) (by decide)) (ce5 (rfl : kd 0 = 5)) rfl rfl rfl (Nat.le_of_ble_eq_true rfl) rfl (fun r48 μ47 hX => ?_)
  refine j_istore C0 [(11, .int r48), (3, .int as0), (0, .ref (ad 0)), (1, .int a1), (2, .int a2), (5, .int a5), (6, .int a6), (7, .int a7), (8, .int a8), (9, .int a9)] dL_areWheels_179 (by decide) rfl rfl ?_
  refine j_iload C0 6 dL_areWheels_181 rfl rfl ?_
  refine j_if_lt C0 (tgt := 325) dL_areWheels_183 (by decide) rfl (fun c49 => ?_) (fun c49 => ?_)
  · have hX := hX.1 c49
    exact j_sub (l' := [(0, .ref (ad 0)), (1, .int a1), (2, .int a2), (3, .int as0), (5, .int a5)]) [2, 3, 4, 1, 5] rfl (w_L_areWheels_L325 C0 hlk hret a1 a2 as0 a5 μ47 K B hB  hX)
  · have hX := hX.2 c49
    refine j_iload C0 6 dL_areWheels_186 rfl rfl ?_
    refine j_ldc C0 65536 dL_areWheels_188 hw_L_areWheels_0 rfl ?_
    refine j_icmp_ge C0 (tgt := 325) dL_areWheels_190 (by decide) rfl (fun c63 => ?_) (fun c63 => ?_)
    · have hX := hX.1 c63
      exact j_sub (l' := [(0, .ref (ad 0)), (1, .int a1), (2, .int a2), (3, .int as0), (5, .int a5)]) [2, 3, 4, 1, 5] rfl (w_L_areWheels_L325 C0 hlk hret a1 a2 as0 a5 μ47 K B hB  hX)
    · have hX := hX.2 c63
      refine j_iload C0 7 dL_areWheels_193 rfl rfl ?_
      refine j_if_lt C0 (tgt := 325) dL_areWheels_195 (by decide) rfl (fun c64 => ?_) (fun c64 => ?_)
      · have hX := hX.1 c64
        exact j_sub (l' := [(0, .ref (ad 0)), (1, .int a1), (2, .int a2), (3, .int as0), (5, .int a5)]) [2, 3, 4, 1, 5] rfl (w_L_areWheels_L325 C0 hlk hret a1 a2 as0 a5 μ47 K B hB  hX)
      · have hX := hX.2 c64
        refine j_iload C0 7 dL_areWheels_198 rfl rfl ?_
        refine j_ldc C0 65536 dL_areWheels_200 hw_L_areWheels_0 rfl ?_
        refine j_icmp_ge C0 (tgt := 325) dL_areWheels_202 (by decide) rfl (fun c65 => ?_) (fun c65 => ?_)
        · have hX := hX.1 c65
          exact j_sub (l' := [(0, .ref (ad 0)), (1, .int a1), (2, .int a2), (3, .int as0), (5, .int a5)]) [2, 3, 4, 1, 5] rfl (w_L_areWheels_L325 C0 hlk hret a1 a2 as0 a5 μ47 K B hB  hX)
        · have hX := hX.2 c65
          refine j_aload_n C0 2 dL_areWheels_205 rfl rfl rfl ?_
          refine j_iload C0 5 dL_areWheels_206 rfl rfl ?_
          refine j_bipush C0 6 dL_areWheels_208 (by decide) rfl ?_
          refine j_callVi C0 2 [.int a5, .int 6] (c_X5_wheel a5 6  hX) dL_areWheels_210 gL_areWheels_X5_wheel rfl (by decide +kernel) ⟨⟨Nat.le_of_ble_eq_true rfl, Nat.le_of_ble_eq_true rfl⟩, rfl, rfl⟩ (kd_lt (rfl : kd 0 = 5) (by decide)) (ce5 (rfl : kd 0 = 5)) rfl rfl rfl (Nat.le_of_ble_eq_true rfl) rfl (fun r67 μ66 hX => ?_)
          refine j_iload C0 8 dL_areWheels_213 rfl rfl ?_
          refine j_icmp_ne C0 (tgt := 325) dL_areWheels_215 (by decide) rfl (fun c68 => ?_) (fun c68 => ?_)
          · have hX := hX.1 c68
            refine j_aload_n C0 2 dL_areWheels_218 rfl rfl rfl ?_
            refine j_iload C0 5 dL_areWheels_219 rfl rfl ?_
            refine j_bipush C0 7 dL_areWheels_221 (by decide) rfl ?_
            refine j_callVi C0 2 [.int a5, .int 7] (c_X5_wheel a5 7  hX) dL_areWheels_223 gL_areWheels_X5_wheel rfl (by decide +kernel) ⟨⟨Nat.le_of_ble_eq_true rfl, Nat.le_of_ble_eq_true rfl⟩, rfl, rfl⟩ (kd_lt (rfl : kd 0 = 5) (by decide)) (ce5 (rfl : kd 0 = 5)) rfl rfl rfl (Nat.le_of_ble_eq_true rfl) rfl (fun r70 μ69 hX => ?_)
            refine j_iload C0 7 dL_areWheels_226 rfl rfl ?_
            refine j_ldc C0 32768 dL_areWheels_228 hw_L_areWheels_1 rfl ?_
            refine j_icmp_le C0 (tgt := 241) dL_areWheels_230 (by decide) rfl (fun c71 => ?_) (fun c71 => ?_)
            · have hX := hX.1 c71
              refine j_iload C0 7 dL_areWheels_241 rfl rfl ?_
              exact j_sub (l' := [(0, .ref (ad 0)), (1, .int a1), (2, .int a2), (3, .int as0), (5, .int a5), (7, .int a7), (9, .int a9), (11, .int r48)]) [2, 3, 4, 1, 5, 7, 9, 0] rfl (w_L_areWheels_L243 C0 hlk hret a1 a2 as0 a5 a7 a9 r48 a7 r70 μ69 K B hB  hX)
            · have hX := hX.2 c71
              refine j_ldc C0 65536 dL_areWheels_233 hw_L_areWheels_0 rfl ?_
              refine j_iload C0 7 dL_areWheels_235 rfl rfl ?_
              refine j_isub C0 dL_areWheels_237 rfl ?_
              refine j_goto C0 (tgt := 243) dL_areWheels_238 (by decide) ?_
              exact j_sub (l' := [(0, .ref (ad 0)), (1, .int a1), (2, .int a2), (3, .int as0), (5, .int a5), (7, .int a7), (9, .int a9), (11, .int r48)]) [2, 3, 4, 1, 5, 7, 9, 0] rfl (w_L_areWheels_L243 C0 hlk hret a1 a2 as0 a5 a7 a9 r48 ((65536 : Int32) - a7) r70 μ69 K B hB  hX)
          · have hX := hX.2 c68
            exact j_sub (l' := [(0, .ref (ad 0)), (1, .int a1), (2, .int a2), (3, .int as0), (5, .int a5)]) [2, 3, 4, 1, 5] rfl (w_L_areWheels_L325 C0 hlk hret a1 a2 as0 a5 μ66 K B hB  hX)
def x_L_areWheels_L170 (K : Int32 → Mem → Prop) (B : Int32 → Int32 → Int32 → Int32 → Int32 → Mem → Prop) (a1 : Int32) (a2 : Int32) (a3 : Int32) (a5 : Int32) (a6 : Int32) (a7 : Int32) (a8 : Int32) (a9 : Int32) (μ : Mem) : Prop :=
  x_L_areWheels_L171 K B a1 a2 a5 a6 a7 a8 a9 a3 μ
set_option maxRecDepth 20000 in
theorem w_L_areWheels_L170 {p : Program} {l : Launch} {e : Env} {s : State} {m : MethodId} {args : Array Value} {below : List Frame} {meth : Method} {c : Code} {D : va_G} {Y : Nat → ClassId} {ad : Nat → Nat} (C0 : CX D Y ad (PA ad) rm_L_areWheels 0 0 p s args m c cL_areWheels 14 RL wsL_areWheels) (hlk : meth.locks = false) (hret : meth.sig.returnType = (some .boolean)) (a1 : Int32) (a2 : Int32) (a3 : Int32) (a5 : Int32) (a6 : Int32) (a7 : Int32) (a8 : Int32) (a9 : Int32) (μ : Mem) (K : Int32 → Mem → Prop) (B : Int32 → Int32 → Int32 → Int32 → Int32 → Mem → Prop) (hB : ∀ (a1 : Int32) (a2 : Int32) (a3 : Int32) (a4 : Int32) (a5 : Int32) (μ : Mem), B a1 a2 a3 a4 a5 μ → J p l e rm_L_areWheels s m args below meth c D Y ad (PA ad) 0 0 14 (MQ below (va_Qi K (BB D Y ad) (PA ad)) args s 0 0 (PA ad)) 38 [(0, .ref (ad 0)), (1, .int a1), (2, .int a2), (3, .int a3), (4, .int a4), (5, .int a5)] [] μ)  (hX : x_L_areWheels_L170 K B a1 a2 a3 a5 a6 a7 a8 a9 μ) : J p l e rm_L_areWheels s m args below meth c D Y ad (PA ad) 0 0 14 (MQ below (va_Qi K (BB D Y ad) (PA ad)) args s 0 0 (PA ad)) 170 [(0, .ref (ad 0)), (1, .int a1), (2, .int a2), (3, .int a3), (5, .int a5), (6, .int a6), (7, .int a7), (8, .int a8), (9, .int a9)] [] μ := by
  refine j_iload_n C0 3 dL_areWheels_170 rfl rfl rfl ?_
  exact j_sub (l' := [(0, .ref (ad 0)), (1, .int a1), (2, .int a2), (5, .int a5), (6, .int a6), (7, .int a7), (8, .int a8), (9, .int a9)]) [0, 1, 2, 4, 5, 6, 7, 8] rfl (w_L_areWheels_L171 C0 hlk hret a1 a2 a5 a6 a7 a8 a9 a3 μ K B hB  hX)
def x_L_areWheels_L152 (K : Int32 → Mem → Prop) (B : Int32 → Int32 → Int32 → Int32 → Int32 → Mem → Prop) (a1 : Int32) (a3 : Int32) (a5 : Int32) (a6 : Int32) (a7 : Int32) (a8 : Int32) (a9 : Int32) (a10 : Int32) (as0 : Int32) (as1 : Int32) (μ : Mem) : Prop :=
  ∀ v45 : Int32, v45 = (as1 ||| as0) → (a10 = 0 → x_L_areWheels_L170 K B a1 v45 a3 a5 a6 a7 a8 a9 μ) ∧ (¬ (a10 = 0) → (a9 ≤ a3 → x_L_areWheels_L170 K B a1 v45 a3 a5 a6 a7 a8 a9 μ) ∧ (¬ (a9 ≤ a3) → x_L_areWheels_L171 K B a1 v45 a5 a6 a7 a8 a9 a9 μ))
set_option maxRecDepth 20000 in
theorem w_L_areWheels_L152 {p : Program} {l : Launch} {e : Env} {s : State} {m : MethodId} {args : Array Value} {below : List Frame} {meth : Method} {c : Code} {D : va_G} {Y : Nat → ClassId} {ad : Nat → Nat} (C0 : CX D Y ad (PA ad) rm_L_areWheels 0 0 p s args m c cL_areWheels 14 RL wsL_areWheels) (hlk : meth.locks = false) (hret : meth.sig.returnType = (some .boolean)) (a1 : Int32) (a3 : Int32) (a5 : Int32) (a6 : Int32) (a7 : Int32) (a8 : Int32) (a9 : Int32) (a10 : Int32) (as0 : Int32) (as1 : Int32) (μ : Mem) (K : Int32 → Mem → Prop) (B : Int32 → Int32 → Int32 → Int32 → Int32 → Mem → Prop) (hB : ∀ (a1 : Int32) (a2 : Int32) (a3 : Int32) (a4 : Int32) (a5 : Int32) (μ : Mem), B a1 a2 a3 a4 a5 μ → J p l e rm_L_areWheels s m args below meth c D Y ad (PA ad) 0 0 14 (MQ below (va_Qi K (BB D Y ad) (PA ad)) args s 0 0 (PA ad)) 38 [(0, .ref (ad 0)), (1, .int a1), (2, .int a2), (3, .int a3), (4, .int a4), (5, .int a5)] [] μ)  (hX : x_L_areWheels_L152 K B a1 a3 a5 a6 a7 a8 a9 a10 as0 as1 μ) : J p l e rm_L_areWheels s m args below meth c D Y ad (PA ad) 0 0 14 (MQ below (va_Qi K (BB D Y ad) (PA ad)) args s 0 0 (PA ad)) 152 [(0, .ref (ad 0)), (1, .int a1), (3, .int a3), (5, .int a5), (6, .int a6), (7, .int a7), (8, .int a8), (9, .int a9), (10, .int a10)] [.int as0, .int as1] μ := by
  refine j_ior C0 dL_areWheels_152 rfl ?_
  refine j_topi (fun v45 e_v45 => ?_)
  have hX := hX v45 e_v45
  refine j_istore_n C0 [(2, .int v45), (0, .ref (ad 0)), (1, .int a1), (3, .int a3), (5, .int a5), (6, .int a6), (7, .int a7), (8, .int a8), (9, .int a9), (10, .int a10)] dL_areWheels_153 rfl (by decide) rfl rfl ?_
  refine j_iload C0 9 dL_areWheels_154 rfl rfl ?_
  refine j_if_eq C0 (tgt := 170) dL_areWheels_156 (by decide) rfl (fun c46 => ?_) (fun c46 => ?_)
  · have hX := hX.1 c46
    exact j_sub (l' := [(0, .ref (ad 0)), (1, .int a1), (2, .int v45), (3, .int a3), (5, .int a5), (6, .int a6), (7, .int a7), (8, .int a8), (9, .int a9)]) [1, 2, 0, 3, 4, 5, 6, 7, 8] rfl (w_L_areWheels_L170 C0 hlk hret a1 v45 a3 a5 a6 a7 a8 a9 μ K B hB  hX)
  · have hX := hX.2 c46
    refine j_iload C0 8 dL_areWheels_159 rfl rfl ?_
    refine j_iload_n C0 3 dL_areWheels_161 rfl rfl rfl ?_
    refine j_icmp_le C0 (tgt := 170) dL_areWheels_162 (by decide) rfl (fun c89 => ?_) (fun c89 => ?_)
    · have hX := hX.1 c89
      exact j_sub (l' := [(0, .ref (ad 0)), (1, .int a1), (2, .int v45), (3, .int a3), (5, .int a5), (6, .int a6), (7, .int a7), (8, .int a8), (9, .int a9)]) [1, 2, 0, 3, 4, 5, 6, 7, 8] rfl (w_L_areWheels_L170 C0 hlk hret a1 v45 a3 a5 a6 a7 a8 a9 μ K B hB  hX)
    · have hX := hX.2 c89
      refine j_iload C0 8 dL_areWheels_165 rfl rfl ?_
      refine j_goto C0 (tgt := 171) dL_areWheels_167 (by decide) ?_
      exact j_sub (l' := [(0, .ref (ad 0)), (1, .int a1), (2, .int v45), (5, .int a5), (6, .int a6), (7, .int a7), (8, .int a8), (9, .int a9)]) [1, 2, 0, 4, 5, 6, 7, 8] rfl (w_L_areWheels_L171 C0 hlk hret a1 v45 a5 a6 a7 a8 a9 a9 μ K B hB  hX)
def x_L_areWheels_L136 (K : Int32 → Mem → Prop) (B : Int32 → Int32 → Int32 → Int32 → Int32 → Mem → Prop) (a2 : Int32) (a3 : Int32) (a5 : Int32) (a6 : Int32) (a7 : Int32) (a8 : Int32) (a9 : Int32) (a10 : Int32) (as0 : Int32) (as1 : Int32) (μ : Mem) : Prop :=
  ∀ v43 : Int32, v43 = (as1 + as0) → (a10 = 0 → x_L_areWheels_L152 K B v43 a3 a5 a6 a7 a8 a9 a10 0 a2 μ) ∧ (¬ (a10 = 0) → x_L_areWheels_L152 K B v43 a3 a5 a6 a7 a8 a9 a10 ((1 : Int32) <<< (a5 &&& 31)) a2 μ)
set_option maxRecDepth 20000 in
theorem w_L_areWheels_L136 {p : Program} {l : Launch} {e : Env} {s : State} {m : MethodId} {args : Array Value} {below : List Frame} {meth : Method} {c : Code} {D : va_G} {Y : Nat → ClassId} {ad : Nat → Nat} (C0 : CX D Y ad (PA ad) rm_L_areWheels 0 0 p s args m c cL_areWheels 14 RL wsL_areWheels) (hlk : meth.locks = false) (hret : meth.sig.returnType = (some .boolean)) (a2 : Int32) (a3 : Int32) (a5 : Int32) (a6 : Int32) (a7 : Int32) (a8 : Int32) (a9 : Int32) (a10 : Int32) (as0 : Int32) (as1 : Int32) (μ : Mem) (K : Int32 → Mem → Prop) (B : Int32 → Int32 → Int32 → Int32 → Int32 → Mem → Prop) (hB : ∀ (a1 : Int32) (a2 : Int32) (a3 : Int32) (a4 : Int32) (a5 : Int32) (μ : Mem), B a1 a2 a3 a4 a5 μ → J p l e rm_L_areWheels s m args below meth c D Y ad (PA ad) 0 0 14 (MQ below (va_Qi K (BB D Y ad) (PA ad)) args s 0 0 (PA ad)) 38 [(0, .ref (ad 0)), (1, .int a1), (2, .int a2), (3, .int a3), (4, .int a4), (5, .int a5)] [] μ)  (hX : x_L_areWheels_L136 K B a2 a3 a5 a6 a7 a8 a9 a10 as0 as1 μ) : J p l e rm_L_areWheels s m args below meth c D Y ad (PA ad) 0 0 14 (MQ below (va_Qi K (BB D Y ad) (PA ad)) args s 0 0 (PA ad)) 136 [(0, .ref (ad 0)), (2, .int a2), (3, .int a3), (5, .int a5), (6, .int a6), (7, .int a7), (8, .int a8), (9, .int a9), (10, .int a10)] [.int as0, .int as1] μ := by
  refine j_iadd C0 dL_areWheels_136 rfl ?_
  refine j_topi (fun v43 e_v43 => ?_)
  have hX := hX v43 e_v43
  refine j_istore_n C0 [(1, .int v43), (0, .ref (ad 0)), (2, .int a2), (3, .int a3), (5, .int a5), (6, .int a6), (7, .int a7), (8, .int a8), (9, .int a9), (10, .int a10)] dL_areWheels_137 rfl (by decide) rfl rfl ?_
  refine j_iload_n C0 2 dL_areWheels_138 rfl rfl rfl ?_
  refine j_iload C0 9 dL_areWheels_139 rfl rfl ?_
  refine j_if_eq C0 (tgt := 151) dL_areWheels_141 (by decide) rfl (fun c44 => ?_) (fun c44 => ?_)
  · have hX := hX.1 c44
    refine j_iconst C0 0 dL_areWheels_151 (by decide) rfl ?_
    exact j_sub (l' := [(0, .ref (ad 0)), (1, .int v43), (3, .int a3), (5, .int a5), (6, .int a6), (7, .int a7), (8, .int a8), (9, .int a9), (10, .int a10)]) [1, 0, 3, 4, 5, 6, 7, 8, 9] rfl (w_L_areWheels_L152 C0 hlk hret v43 a3 a5 a6 a7 a8 a9 a10 0 a2 μ K B hB  hX)
  · have hX := hX.2 c44
    refine j_iconst C0 1 dL_areWheels_144 (by decide) rfl ?_
    refine j_iload C0 4 dL_areWheels_145 rfl rfl ?_
    refine j_ishl C0 dL_areWheels_147 rfl ?_
    refine j_goto C0 (tgt := 152) dL_areWheels_148 (by decide) ?_
    exact j_sub (l' := [(0, .ref (ad 0)), (1, .int v43), (3, .int a3), (5, .int a5), (6, .int a6), (7, .int a7), (8, .int a8), (9, .int a9), (10, .int a10)]) [1, 0, 3, 4, 5, 6, 7, 8, 9] rfl (w_L_areWheels_L152 C0 hlk hret v43 a3 a5 a6 a7 a8 a9 a10 ((1 : Int32) <<< (a5 &&& 31)) a2 μ K B hB  hX)
def x_L_areWheels_L122 (K : Int32 → Mem → Prop) (B : Int32 → Int32 → Int32 → Int32 → Int32 → Mem → Prop) (a1 : Int32) (a2 : Int32) (a3 : Int32) (a5 : Int32) (a6 : Int32) (a7 : Int32) (a8 : Int32) (a9 : Int32) (as0 : Int32) (μ : Mem) : Prop :=
  (as0 = 0 → x_L_areWheels_L136 K B a2 a3 a5 a6 a7 a8 a9 as0 0 a1 μ) ∧ (¬ (as0 = 0) → x_L_areWheels_L136 K B a2 a3 a5 a6 a7 a8 a9 as0 a8 a1 μ)
set_option maxRecDepth 20000 in
theorem w_L_areWheels_L122 {p : Program} {l : Launch} {e : Env} {s : State} {m : MethodId} {args : Array Value} {below : List Frame} {meth : Method} {c : Code} {D : va_G} {Y : Nat → ClassId} {ad : Nat → Nat} (C0 : CX D Y ad (PA ad) rm_L_areWheels 0 0 p s args m c cL_areWheels 14 RL wsL_areWheels) (hlk : meth.locks = false) (hret : meth.sig.returnType = (some .boolean)) (a1 : Int32) (a2 : Int32) (a3 : Int32) (a5 : Int32) (a6 : Int32) (a7 : Int32) (a8 : Int32) (a9 : Int32) (as0 : Int32) (μ : Mem) (K : Int32 → Mem → Prop) (B : Int32 → Int32 → Int32 → Int32 → Int32 → Mem → Prop) (hB : ∀ (a1 : Int32) (a2 : Int32) (a3 : Int32) (a4 : Int32) (a5 : Int32) (μ : Mem), B a1 a2 a3 a4 a5 μ → J p l e rm_L_areWheels s m args below meth c D Y ad (PA ad) 0 0 14 (MQ below (va_Qi K (BB D Y ad) (PA ad)) args s 0 0 (PA ad)) 38 [(0, .ref (ad 0)), (1, .int a1), (2, .int a2), (3, .int a3), (4, .int a4), (5, .int a5)] [] μ)  (hX : x_L_areWheels_L122 K B a1 a2 a3 a5 a6 a7 a8 a9 as0 μ) : J p l e rm_L_areWheels s m args below meth c D Y ad (PA ad) 0 0 14 (MQ below (va_Qi K (BB D Y ad) (PA ad)) args s 0 0 (PA ad)) 122 [(0, .ref (ad 0)), (1, .int a1), (2, .int a2), (3, .int a3), (5, .int a5), (6, .int a6), (7, .int a7), (8, .int a8), (9, .int a9)] [.int as0] μ := by
  refine j_istore C0 [(10, .int as0), (0, .ref (ad 0)), (1, .int a1), (2, .int a2), (3, .int a3), (5, .int a5), (6, .int a6), (7, .int a7), (8, .int a8), (9, .int a9)] dL_areWheels_122 (by decide) rfl rfl ?_
  refine j_iload_n C0 2 dL_areWheels_124 rfl rfl rfl ?_
  refine j_iload C0 0 dL_areWheels_125 rfl rfl ?_
  refine j_if_eq C0 (tgt := 135) dL_areWheels_127 (by decide) rfl (fun c42 => ?_) (fun c42 => ?_)
  · have hX := hX.1 c42
    refine j_iconst C0 0 dL_areWheels_135 (by decide) rfl ?_
    exact j_sub (l' := [(0, .ref (ad 0)), (2, .int a2), (3, .int a3), (5, .int a5), (6, .int a6), (7, .int a7), (8, .int a8), (9, .int a9), (10, .int as0)]) [1, 3, 4, 5, 6, 7, 8, 9, 0] rfl (w_L_areWheels_L136 C0 hlk hret a2 a3 a5 a6 a7 a8 a9 as0 0 a1 μ K B hB  hX)
  · have hX := hX.2 c42
    refine j_iload C0 8 dL_areWheels_130 rfl rfl ?_
    refine j_goto C0 (tgt := 136) dL_areWheels_132 (by decide) ?_
    exact j_sub (l' := [(0, .ref (ad 0)), (2, .int a2), (3, .int a3), (5, .int a5), (6, .int a6), (7, .int a7), (8, .int a8), (9, .int a9), (10, .int as0)]) [1, 3, 4, 5, 6, 7, 8, 9, 0] rfl (w_L_areWheels_L136 C0 hlk hret a2 a3 a5 a6 a7 a8 a9 as0 a8 a1 μ K B hB  hX)
def xb_L_areWheels_L38 (K : Int32 → Mem → Prop) (B : Int32 → Int32 → Int32 → Int32 → Int32 → Mem → Prop) (a1 : Int32) (a2 : Int32) (a3 : Int32) (a4 : Int32) (a5 : Int32) (μ : Mem) : Prop :=
  (4 ≤ a5 → x_L_areWheels_L404 K a1 a2 a3 a4 μ) ∧ (¬ (4 ≤ a5) → (a4 = 0 → x_L_areWheels_L404 K a1 a2 a3 a4 μ) ∧ (¬ (a4 = 0) → x_X5_wheel a5 0 μ (fun r25 μ24 => x_X5_wheel a5 1 μ24 (fun r27 μ26 => x_X5_wheel a5 2 μ26 (fun r29 μ28 => x_X5_valueOf r29 (r25 / 4096) μ28 (fun r31 μ30 => x_X5_wheel a5 3 μ30 (fun r33 μ32 => ∀ v34 : Int32, v34 = (r31 * r33) → x_L_together 65536 r27 μ32 (fun r36 μ35 => ¬ r36 = 0 ∧ ∀ v38 : Int32, v38 = ((65536 : Int32) / r36) → x_X5_wheel a5 4 μ35 (fun r40 μ39 => (r40 = 1 → x_L_areWheels_L122 K B a1 a2 a3 a5 r25 r27 v34 v38 1 μ39) ∧ (¬ (r40 = 1) → x_L_areWheels_L122 K B a1 a2 a3 a5 r25 r27 v34 v38 0 μ39))))))))))
def x_L_areWheels_L38 (K : Int32 → Mem → Prop) : Nat → Int32 → Int32 → Int32 → Int32 → Int32 → Mem → Prop
  | 0 => fun _ _ _ _ _ _ => False
  | n + 1 => fun a1 a2 a3 a4 a5 μ => xb_L_areWheels_L38 K (x_L_areWheels_L38 K n) a1 a2 a3 a4 a5 μ
set_option maxRecDepth 20000 in
theorem wb_L_areWheels_L38 {p : Program} {l : Launch} {e : Env} {s : State} {m : MethodId} {args : Array Value} {below : List Frame} {meth : Method} {c : Code} {D : va_G} {Y : Nat → ClassId} {ad : Nat → Nat} (C0 : CX D Y ad (PA ad) rm_L_areWheels 0 0 p s args m c cL_areWheels 14 RL wsL_areWheels) (hlk : meth.locks = false) (hret : meth.sig.returnType = (some .boolean)) (a1 : Int32) (a2 : Int32) (a3 : Int32) (a4 : Int32) (a5 : Int32) (μ : Mem) (K : Int32 → Mem → Prop) (B : Int32 → Int32 → Int32 → Int32 → Int32 → Mem → Prop) (hB : ∀ (a1 : Int32) (a2 : Int32) (a3 : Int32) (a4 : Int32) (a5 : Int32) (μ : Mem), B a1 a2 a3 a4 a5 μ → J p l e rm_L_areWheels s m args below meth c D Y ad (PA ad) 0 0 14 (MQ below (va_Qi K (BB D Y ad) (PA ad)) args s 0 0 (PA ad)) 38 [(0, .ref (ad 0)), (1, .int a1), (2, .int a2), (3, .int a3), (4, .int a4), (5, .int a5)] [] μ)  (hX : xb_L_areWheels_L38 K B a1 a2 a3 a4 a5 μ) : J p l e rm_L_areWheels s m args below meth c D Y ad (PA ad) 0 0 14 (MQ below (va_Qi K (BB D Y ad) (PA ad)) args s 0 0 (PA ad)) 38 [(0, .ref (ad 0)), (1, .int a1), (2, .int a2), (3, .int a3), (4, .int a4), (5, .int a5)] [] μ := by
  refine j_iload C0 5 dL_areWheels_38 rfl rfl ?_
  refine j_iconst C0 4 dL_areWheels_40 (by decide) rfl ?_
  refine j_icmp_ge C0 (tgt := 404) dL_areWheels_41 (by decide) rfl (fun c7 => ?_) (fun c7 => ?_)
  · have hX := hX.1 c7
    exact j_sub (l' := [(0, .ref (ad 0)), (1, .int a1), (2, .int a2), (3, .int a3), (4, .int a4)]) [0, 1, 2, 3, 4] rfl (w_L_areWheels_L404 C0 hlk hret a1 a2 a3 a4 μ K  hX)
  · have hX := hX.2 c7
    refine j_iload C0 4 dL_areWheels_44 rfl rfl ?_
    refine j_if_eq C0 (tgt := 404) dL_areWheels_46 (by decide) rfl (fun c23 => ?_) (fun c23 => ?_)
    · have hX := hX.1 c23
      exact j_sub (l' := [(0, .ref (ad 0)), (1, .int a1), (2, .int a2), (3, .int a3), (4, .int a4)]) [0, 1, 2, 3, 4] rfl (w_L_areWheels_L404 C0 hlk hret a1 a2 a3 a4 μ K  hX)
    · have hX := hX.2 c23
      refine j_aload_n C0 0 dL_areWheels_49 rfl rfl rfl ?_
      refine j_iload C0 5 dL_areWheels_50 rfl rfl ?_
      refine j_iconst C0 0 dL_areWheels_52 (by decide) rfl ?_
      refine j_callVi C0 2 [.int a5, .int 0] (c_X5_wheel a5 0  hX) dL_areWheels_53 gL_areWheels_X5_wheel rfl (by decide +kernel) ⟨⟨Nat.le_of_ble_eq_true rfl, Nat.le_of_ble_eq_true rfl⟩, rfl, rfl⟩ (kd_lt (rfl : kd 0 = 5) (by decide)) (ce5 (rfl : kd 0 = 5)) rfl rfl rfl (Nat.le_of_ble_eq_true rfl) rfl (fun r25 μ24 hX => ?_)
      refine j_istore C0 [(6, .int r25), (0, .ref (ad 0)), (1, .int a1), (2, .int a2), (3, .int a3), (4, .int a4), (5, .int a5)] dL_areWheels_56 (by decide) rfl rfl ?_
      refine j_aload_n C0 1 dL_areWheels_58 rfl rfl rfl ?_
      refine j_iload C0 6 dL_areWheels_59 rfl rfl ?_
      refine j_iconst C0 1 dL_areWheels_61 (by decide) rfl ?_
      refine j_callVi C0 2 [.int a5, .int 1] (c_X5_wheel a5 1  hX) dL_areWheels_62 gL_areWheels_X5_wheel rfl (by decide +kernel) ⟨⟨Nat.le_of_ble_eq_true rfl, Nat.le_of_ble_eq_true rfl⟩, rfl, rfl⟩ (kd_lt (rfl : kd 0 = 5) (by decide)) (ce5 (rfl : kd 0 = 5)) rfl rfl rfl (Nat.le_of_ble_eq_true rfl) rfl (fun r27 μ26 hX => ?_)
      refine j_istore C0 [(7, .int r27), (6, .int r25), (0, .ref (ad 0)), (1, .int a1), (2, .int a2), (3, .int a3), (4, .int a4), (5, .int a5)] dL_areWheels_65 (by decide) rfl rfl ?_
      refine j_aload_n C0 2 dL_areWheels_67 rfl rfl rfl ?_
      refine j_aload_n C0 2 dL_areWheels_68 rfl rfl rfl ?_
      refine j_iload C0 7 dL_areWheels_69 rfl rfl ?_
      refine j_iconst C0 2 dL_areWheels_71 (by decide) rfl ?_
      refine j_callVi C0 2 [.int a5, .int 2] (c_X5_wheel a5 2  hX) dL_areWheels_72 gL_areWheels_X5_wheel rfl (by decide +kernel) ⟨⟨Nat.le_of_ble_eq_true rfl, Nat.le_of_ble_eq_true rfl⟩, rfl, rfl⟩ (kd_lt (rfl : kd 0 = 5) (by decide)) (ce5 (rfl : kd 0 = 5)) rfl rfl rfl (Nat.le_of_ble_eq_true rfl) rfl (fun r29 μ28 hX => ?_)
      refine j_iload C0 1 dL_areWheels_75 rfl rfl ?_
      refine j_sipush C0 4096 dL_areWheels_77 (by decide) rfl ?_
      refine j_idiv C0 dL_areWheels_80 (by decide) rfl ?_
      refine j_callVi C0 2 [.int r29, .int (r25 / 4096)] (c_X5_valueOf r29 (r25 / 4096)  hX) dL_areWheels_81 gL_areWheels_X5_valueOf rfl (by decide +kernel) ⟨⟨Nat.le_of_ble_eq_true rfl, Nat.le_of_ble_eq_true rfl⟩, rfl, rfl⟩ (kd_lt (rfl : kd 0 = 5) (by decide)) (ce5 (rfl : kd 0 = 5)) rfl rfl rfl (Nat.le_of_ble_eq_true rfl) rfl (fun r31 μ30 hX => ?_)
      refine j_aload_n C0 2 dL_areWheels_84 rfl rfl rfl ?_
      refine j_iload C0 7 dL_areWheels_85 rfl rfl ?_
      refine j_iconst C0 3 dL_areWheels_87 (by decide) rfl ?_
      refine j_callVi C0 2 [.int a5, .int 3] (c_X5_wheel a5 3  hX) dL_areWheels_88 gL_areWheels_X5_wheel rfl (by decide +kernel) ⟨⟨Nat.le_of_ble_eq_true rfl, Nat.le_of_ble_eq_true rfl⟩, rfl, rfl⟩ (kd_lt (rfl : kd 0 = 5) (by decide)) (ce5 (rfl : kd 0 = 5)) rfl rfl rfl (Nat.le_of_ble_eq_true rfl) rfl (fun r33 μ32 hX => ?_)
      refine j_imul C0 dL_areWheels_91 rfl ?_
      refine j_topi (fun v34 e_v34 => ?_)
      have hX := hX v34 e_v34
      refine j_istore C0 [(8, .int v34), (7, .int r27), (6, .int r25), (0, .ref (ad 0)), (1, .int a1), (2, .int a2), (3, .int a3), (4, .int a4), (5, .int a5)] dL_areWheels_92 (by decide) rfl rfl ?_
      refine j_ldc C0 65536 dL_areWheels_94 hw_L_areWheels_0 rfl ?_
      refine j_ldc C0 65536 dL_areWheels_96 hw_L_areWheels_0 rfl ?_
      refine j_iload C0 1 dL_areWheels_98 rfl rfl ?_
      refine j_callSi C0 2 [.int 65536, .int r27] (c_L_together 65536 r27  hX) dL_areWheels_100 gL_areWheels_L_together rfl (by decide +kernel) ⟨⟨Nat.le_of_ble_eq_true rfl, Nat.le_of_ble_eq_true rfl⟩, rfl, rfl⟩ rfl rfl (Nat.le_of_ble_eq_true rfl) rfl (fun r36 μ35 hX => ?_)
      obtain ⟨h37, hX⟩ := hX
      refine j_idiv C0 dL_areWheels_103 h37 rfl ?_
      refine j_topi (fun v38 e_v38 => ?_)
      have hX := hX v38 e_v38
      refine j_istore C0 [(9, .int v38), (8, .int v34), (7, .int r27), (6, .int r25), (0, .ref (ad 0)), (1, .int a1), (2, .int a2), (3, .int a3), (4, .int a4), (5, .int a5)] dL_areWheels_104 (by decide) rfl rfl ?_
      refine j_aload_n C0 4 dL_areWheels_106 rfl rfl rfl ?_
      refine j_iload C0 9 dL_areWheels_107 rfl rfl ?_
      refine j_iconst C0 4 dL_areWheels_109 (by decide) rfl ?_
      refine j_callVi C0 2 [.int a5, .int 4] (c_X5_wheel a5 4  hX) dL_areWheels_110 gL_areWheels_X5_wheel rfl (by decide +kernel) ⟨⟨Nat.le_of_ble_eq_true rfl, Nat.le_of_ble_eq_true rfl⟩, rfl, rfl⟩ (kd_lt (rfl : kd 0 = 5) (by decide)) (ce5 (rfl : kd 0 = 5)) rfl rfl rfl (Nat.le_of_ble_eq_true rfl) rfl (fun r40 μ39 hX => ?_)
      refine j_iconst C0 1 dL_areWheels_113 (by decide) rfl ?_
      refine j_icmp_ne C0 (tgt := 121) dL_areWheels_114 (by decide) rfl (fun c41 => ?_) (fun c41 => ?_)
      · have hX := hX.1 c41
        refine j_iconst C0 1 dL_areWheels_117 (by decide) rfl ?_
        refine j_goto C0 (tgt := 122) dL_areWheels_118 (by decide) ?_
        exact j_sub (l' := [(0, .ref (ad 0)), (1, .int a1), (2, .int a2), (3, .int a3), (5, .int a5), (6, .int r25), (7, .int r27), (8, .int v34), (9, .int v38)]) [4, 5, 6, 7, 9, 3, 2, 1, 0] rfl (w_L_areWheels_L122 C0 hlk hret a1 a2 a3 a5 r25 r27 v34 v38 1 μ39 K B hB  hX)
      · have hX := hX.2 c41
        refine j_iconst C0 0 dL_areWheels_121 (by decide) rfl ?_
        exact j_sub (l' := [(0, .ref (ad 0)), (1, .int a1), (2, .int a2), (3, .int a3), (5, .int a5), (6, .int r25), (7, .int r27), (8, .int v34), (9, .int v38)]) [4, 5, 6, 7, 9, 3, 2, 1, 0] rfl (w_L_areWheels_L122 C0 hlk hret a1 a2 a3 a5 r25 r27 v34 v38 0 μ39 K B hB  hX)
theorem w_L_areWheels_L38 {p : Program} {l : Launch} {e : Env} {s : State} {m : MethodId} {args : Array Value} {below : List Frame} {meth : Method} {c : Code} {D : va_G} {Y : Nat → ClassId} {ad : Nat → Nat} (C0 : CX D Y ad (PA ad) rm_L_areWheels 0 0 p s args m c cL_areWheels 14 RL wsL_areWheels) (hlk : meth.locks = false) (hret : meth.sig.returnType = (some .boolean)) (K : Int32 → Mem → Prop) : ∀ (n : Nat) (a1 : Int32) (a2 : Int32) (a3 : Int32) (a4 : Int32) (a5 : Int32) (μ : Mem)  (hX : x_L_areWheels_L38 K n a1 a2 a3 a4 a5 μ), J p l e rm_L_areWheels s m args below meth c D Y ad (PA ad) 0 0 14 (MQ below (va_Qi K (BB D Y ad) (PA ad)) args s 0 0 (PA ad)) 38 [(0, .ref (ad 0)), (1, .int a1), (2, .int a2), (3, .int a3), (4, .int a4), (5, .int a5)] [] μ
  | 0, a1, a2, a3, a4, a5, μ, hX => hX.elim
  | n + 1, a1, a2, a3, a4, a5, μ, hX => wb_L_areWheels_L38 C0 hlk hret a1 a2 a3 a4 a5 μ K (x_L_areWheels_L38 K n) (fun a1 a2 a3 a4 a5 μ  hx => w_L_areWheels_L38 C0 hlk hret K n a1 a2 a3 a4 a5 μ  hx)  hX
def x_L_areWheels_L33 (K : Int32 → Mem → Prop) (a1 : Int32) (a2 : Int32) (a3 : Int32) (as0 : Int32) (μ : Mem) : Prop :=
  ∃ n : Nat, x_L_areWheels_L38 K n a1 a2 a3 as0 0 μ
set_option maxRecDepth 20000 in
theorem w_L_areWheels_L33 {p : Program} {l : Launch} {e : Env} {s : State} {m : MethodId} {args : Array Value} {below : List Frame} {meth : Method} {c : Code} {D : va_G} {Y : Nat → ClassId} {ad : Nat → Nat} (C0 : CX D Y ad (PA ad) rm_L_areWheels 0 0 p s args m c cL_areWheels 14 RL wsL_areWheels) (hlk : meth.locks = false) (hret : meth.sig.returnType = (some .boolean)) (a1 : Int32) (a2 : Int32) (a3 : Int32) (as0 : Int32) (μ : Mem) (K : Int32 → Mem → Prop)  (hX : x_L_areWheels_L33 K a1 a2 a3 as0 μ) : J p l e rm_L_areWheels s m args below meth c D Y ad (PA ad) 0 0 14 (MQ below (va_Qi K (BB D Y ad) (PA ad)) args s 0 0 (PA ad)) 33 [(0, .ref (ad 0)), (1, .int a1), (2, .int a2), (3, .int a3)] [.int as0] μ := by
  refine j_istore C0 [(4, .int as0), (0, .ref (ad 0)), (1, .int a1), (2, .int a2), (3, .int a3)] dL_areWheels_33 (by decide) rfl rfl ?_
  refine j_iconst C0 0 dL_areWheels_35 (by decide) rfl ?_
  refine j_istore C0 [(5, .int 0), (4, .int as0), (0, .ref (ad 0)), (1, .int a1), (2, .int a2), (3, .int a3)] dL_areWheels_36 (by decide) rfl rfl ?_
  obtain ⟨n, hX⟩ := hX
  exact j_sub (l' := [(0, .ref (ad 0)), (1, .int a1), (2, .int a2), (3, .int a3), (4, .int as0), (5, .int 0)]) [2, 3, 4, 5, 1, 0] rfl (w_L_areWheels_L38 C0 hlk hret K n a1 a2 a3 as0 0 μ  hX)
def x_L_areWheels_L32 (K : Int32 → Mem → Prop) (a1 : Int32) (a2 : Int32) (a3 : Int32) (μ : Mem) : Prop :=
  x_L_areWheels_L33 K a1 a2 a3 0 μ
set_option maxRecDepth 20000 in
theorem w_L_areWheels_L32 {p : Program} {l : Launch} {e : Env} {s : State} {m : MethodId} {args : Array Value} {below : List Frame} {meth : Method} {c : Code} {D : va_G} {Y : Nat → ClassId} {ad : Nat → Nat} (C0 : CX D Y ad (PA ad) rm_L_areWheels 0 0 p s args m c cL_areWheels 14 RL wsL_areWheels) (hlk : meth.locks = false) (hret : meth.sig.returnType = (some .boolean)) (a1 : Int32) (a2 : Int32) (a3 : Int32) (μ : Mem) (K : Int32 → Mem → Prop)  (hX : x_L_areWheels_L32 K a1 a2 a3 μ) : J p l e rm_L_areWheels s m args below meth c D Y ad (PA ad) 0 0 14 (MQ below (va_Qi K (BB D Y ad) (PA ad)) args s 0 0 (PA ad)) 32 [(0, .ref (ad 0)), (1, .int a1), (2, .int a2), (3, .int a3)] [] μ := by
  refine j_iconst C0 0 dL_areWheels_32 (by decide) rfl ?_
  exact j_sub (l' := [(0, .ref (ad 0)), (1, .int a1), (2, .int a2), (3, .int a3)]) [0, 1, 2, 3] rfl (w_L_areWheels_L33 C0 hlk hret a1 a2 a3 0 μ K  hX)
def x_L_areWheels  (μ : Mem) (K : Int32 → Mem → Prop) : Prop :=
  x_X5_wheel 4 0 μ (fun r2 μ1 => (r2 = (-1) → x_X5_wheel 0 11 μ1 (fun r5 μ4 => (r5 = (-2) → x_L_areWheels_L33 K 0 0 1 1 μ4) ∧ (¬ (r5 = (-2)) → x_L_areWheels_L32 K 0 0 1 μ4))) ∧ (¬ (r2 = (-1)) → x_L_areWheels_L32 K 0 0 1 μ1))
set_option maxRecDepth 20000 in
theorem w_L_areWheels {p : Program} {l : Launch} {e : Env} {s : State} {m : MethodId} {args : Array Value} {below : List Frame} {meth : Method} {c : Code} {D : va_G} {Y : Nat → ClassId} {ad : Nat → Nat} (C0 : CX D Y ad (PA ad) rm_L_areWheels 0 0 p s args m c cL_areWheels 14 RL wsL_areWheels) (hlk : meth.locks = false) (hret : meth.sig.returnType = (some .boolean))  (μ : Mem) (K : Int32 → Mem → Prop)  (hX : x_L_areWheels  μ K) : J p l e rm_L_areWheels s m args below meth c D Y ad (PA ad) 0 0 14 (MQ below (va_Qi K (BB D Y ad) (PA ad)) args s 0 0 (PA ad)) 0 [(0, .ref (ad 0))] [] μ := by
  refine j_iconst C0 0 dL_areWheels_0 (by decide) rfl ?_
  refine j_istore_n C0 [(1, .int 0), (0, .ref (ad 0))] dL_areWheels_1 rfl (by decide) rfl rfl ?_
  refine j_iconst C0 0 dL_areWheels_2 (by decide) rfl ?_
  refine j_istore_n C0 [(2, .int 0), (1, .int 0), (0, .ref (ad 0))] dL_areWheels_3 rfl (by decide) rfl rfl ?_
  refine j_iconst C0 1 dL_areWheels_4 (by decide) rfl ?_
  refine j_istore_n C0 [(3, .int 1), (2, .int 0), (1, .int 0), (0, .ref (ad 0))] dL_areWheels_5 rfl (by decide) rfl rfl ?_
  refine j_aload_n C0 3 dL_areWheels_6 rfl rfl rfl ?_
  refine j_iconst C0 4 dL_areWheels_7 (by decide) rfl ?_
  refine j_iconst C0 0 dL_areWheels_8 (by decide) rfl ?_
  refine j_callVi C0 2 [.int 4, .int 0] (c_X5_wheel 4 0  hX) dL_areWheels_9 gL_areWheels_X5_wheel rfl (by decide +kernel) ⟨⟨Nat.le_of_ble_eq_true rfl, Nat.le_of_ble_eq_true rfl⟩, rfl, rfl⟩ (kd_lt (rfl : kd 0 = 5) (by decide)) (ce5 (rfl : kd 0 = 5)) rfl rfl rfl (Nat.le_of_ble_eq_true rfl) rfl (fun r2 μ1 hX => ?_)
  refine j_iconst C0 (-1) dL_areWheels_12 (by decide) rfl ?_
  refine j_icmp_ne C0 (tgt := 32) dL_areWheels_13 (by decide) rfl (fun c3 => ?_) (fun c3 => ?_)
  · have hX := hX.1 c3
    refine j_aload_n C0 3 dL_areWheels_16 rfl rfl rfl ?_
    refine j_iconst C0 0 dL_areWheels_17 (by decide) rfl ?_
    refine j_bipush C0 11 dL_areWheels_18 (by decide) rfl ?_
    refine j_callVi C0 2 [.int 0, .int 11] (c_X5_wheel 0 11  hX) dL_areWheels_20 gL_areWheels_X5_wheel rfl (by decide +kernel) ⟨⟨Nat.le_of_ble_eq_true rfl, Nat.le_of_ble_eq_true rfl⟩, rfl, rfl⟩ (kd_lt (rfl : kd 0 = 5) (by decide)) (ce5 (rfl : kd 0 = 5)) rfl rfl rfl (Nat.le_of_ble_eq_true rfl) rfl (fun r5 μ4 hX => ?_)
    refine j_bipush C0 (-2) dL_areWheels_23 (by decide) rfl ?_
    refine j_icmp_ne C0 (tgt := 32) dL_areWheels_25 (by decide) rfl (fun c6 => ?_) (fun c6 => ?_)
    · have hX := hX.1 c6
      refine j_iconst C0 1 dL_areWheels_28 (by decide) rfl ?_
      refine j_goto C0 (tgt := 33) dL_areWheels_29 (by decide) ?_
      exact j_sub (l' := [(0, .ref (ad 0)), (1, .int 0), (2, .int 0), (3, .int 1)]) [3, 2, 1, 0] rfl (w_L_areWheels_L33 C0 hlk hret 0 0 1 1 μ4 K  hX)
    · have hX := hX.2 c6
      exact j_sub (l' := [(0, .ref (ad 0)), (1, .int 0), (2, .int 0), (3, .int 1)]) [3, 2, 1, 0] rfl (w_L_areWheels_L32 C0 hlk hret 0 0 1 μ4 K  hX)
  · have hX := hX.2 c3
    exact j_sub (l' := [(0, .ref (ad 0)), (1, .int 0), (2, .int 0), (3, .int 1)]) [3, 2, 1, 0] rfl (w_L_areWheels_L32 C0 hlk hret 0 0 1 μ1 K  hX)
theorem c_L_areWheels {l : Launch} {D : va_G} {Y : Nat → ClassId} {ad : Nat → Nat}  {μ : Mem} {K : Int32 → Mem → Prop}  (hX : x_L_areWheels  μ K) : ConI l yL_areWheels wsL_areWheels rm_L_areWheels [.ref (ad 0)] D Y ad μ K := conI_of (cc := cL_areWheels) (maxL := 14) (ret := (some .boolean)) (own := RL) _ (by decide +kernel) rfl rfl (Nat.le_of_ble_eq_true rfl) (fun p e s m args below meth c C0 hlk hret => j_sub (l' := [(0, .ref (ad 0))]) [0] rfl (w_L_areWheels C0 hlk hret  μ K  hX))
/-! PhaseTonesLaw.areSamples(LPhaseTones;I)Z -/
abbrev rm_L_areSamples : Room := rmf 6 129
theorem hw_L_areSamples_0 : Cond.constant RL 48 (1000003) ∈ wsL_areSamples := by decide +kernel
def x_L_areSamples_L401 (K : Int32 → Mem → Prop) (a2 : Int32) (a6 : Int32) (a8 : Int32) (a10 : Int32) (a11 : Int32) (as0 : Int32) (μ : Mem) : Prop :=
  (as0 = 0 → K 0 μ) ∧ (¬ (as0 = 0) → x_X5_restore 0 μ (fun r28 μ27 => (r28 = a8 → x_X5_make a2 μ27 (fun r31 μ30 => (r31 = a6 → x_X5_count 5 μ30 (fun r34 μ33 => (r34 = a10 → x_X5_count 6 μ33 (fun r37 μ36 => (r37 = a11 → K 1 μ36) ∧ (¬ (r37 = a11) → K 0 μ36))) ∧ (¬ (r34 = a10) → K 0 μ33))) ∧ (¬ (r31 = a6) → K 0 μ30))) ∧ (¬ (r28 = a8) → K 0 μ27)))
set_option maxRecDepth 20000 in
theorem w_L_areSamples_L401 {p : Program} {l : Launch} {e : Env} {s : State} {m : MethodId} {args : Array Value} {below : List Frame} {meth : Method} {c : Code} {D : va_G} {Y : Nat → ClassId} {ad : Nat → Nat} (C0 : CX D Y ad (PA ad) rm_L_areSamples 0 0 p s args m c cL_areSamples 21 RL wsL_areSamples) (hlk : meth.locks = false) (hret : meth.sig.returnType = (some .boolean)) (a2 : Int32) (a6 : Int32) (a8 : Int32) (a10 : Int32) (a11 : Int32) (as0 : Int32) (μ : Mem) (K : Int32 → Mem → Prop)  (hX : x_L_areSamples_L401 K a2 a6 a8 a10 a11 as0 μ) : J p l e rm_L_areSamples s m args below meth c D Y ad (PA ad) 0 0 21 (MQ below (va_Qi K (BB D Y ad) (PA ad)) args s 0 0 (PA ad)) 401 [(0, .ref (ad 0)), (2, .int a2), (6, .int a6), (8, .int a8), (10, .int a10), (11, .int a11)] [.int as0] μ := by
  refine j_istore C0 [(16, .int as0), (0, .ref (ad 0)), (2, .int a2), (6, .int a6), (8, .int a8), (10, .int a10), (11, .int a11)] dL_areSamples_401 (by decide) rfl rfl ?_
  refine j_iload C0 0 dL_areSamples_403 rfl rfl ?_
  refine j_if_eq C0 (tgt := 453) dL_areSamples_405 (by decide) rfl (fun c26 => ?_) (fun c26 => ?_)
  · have hX := hX.1 c26
    refine j_iconst C0 0 dL_areSamples_453 (by decide) rfl ?_
    exact j_zret C0 hlk hret dL_areSamples_454 zb0 hX
  · have hX := hX.2 c26
    refine j_aload_n C0 1 dL_areSamples_408 rfl rfl rfl ?_
    refine j_iconst C0 0 dL_areSamples_409 (by decide) rfl ?_
    refine j_callVi C0 1 [.int 0] (c_X5_restore 0  hX) dL_areSamples_410 gL_areSamples_X5_restore rfl (by decide +kernel) ⟨⟨Nat.le_of_ble_eq_true rfl, Nat.le_of_ble_eq_true rfl⟩, rfl, rfl⟩ (kd_lt (rfl : kd 0 = 5) (by decide)) (ce5 (rfl : kd 0 = 5)) rfl rfl rfl (Nat.le_of_ble_eq_true rfl) rfl (fun r28 μ27 hX => ?_)
    refine j_iload C0 4 dL_areSamples_413 rfl rfl ?_
    refine j_icmp_ne C0 (tgt := 453) dL_areSamples_415 (by decide) rfl (fun c29 => ?_) (fun c29 => ?_)
    · have hX := hX.1 c29
      refine j_aload_n C0 1 dL_areSamples_418 rfl rfl rfl ?_
      refine j_iload_n C0 2 dL_areSamples_419 rfl rfl rfl ?_
      refine j_callVi C0 1 [.int a2] (c_X5_make a2  hX) dL_areSamples_420 gL_areSamples_X5_make rfl (by decide +kernel) ⟨⟨Nat.le_of_ble_eq_true rfl, Nat.le_of_ble_eq_true rfl⟩, rfl, rfl⟩ (kd_lt (rfl : kd 0 = 5) (by decide)) (ce5 (rfl : kd 0 = 5)) rfl rfl rfl (Nat.le_of_ble_eq_true rfl) rfl (fun r31 μ30 hX => ?_)
      refine j_iload C0 3 dL_areSamples_423 rfl rfl ?_
      refine j_icmp_ne C0 (tgt := 453) dL_areSamples_425 (by decide) rfl (fun c32 => ?_) (fun c32 => ?_)
      · have hX := hX.1 c32
        refine j_aload_n C0 1 dL_areSamples_428 rfl rfl rfl ?_
        refine j_iconst C0 5 dL_areSamples_429 (by decide) rfl ?_
        refine j_callVi C0 1 [.int 5] (c_X5_count 5  hX) dL_areSamples_430 gL_areSamples_X5_count rfl (by decide +kernel) ⟨⟨Nat.le_of_ble_eq_true rfl, Nat.le_of_ble_eq_true rfl⟩, rfl, rfl⟩ (kd_lt (rfl : kd 0 = 5) (by decide)) (ce5 (rfl : kd 0 = 5)) rfl rfl rfl (Nat.le_of_ble_eq_true rfl) rfl (fun r34 μ33 hX => ?_)
        refine j_iload C0 5 dL_areSamples_433 rfl rfl ?_
        refine j_icmp_ne C0 (tgt := 453) dL_areSamples_435 (by decide) rfl (fun c35 => ?_) (fun c35 => ?_)
        · have hX := hX.1 c35
          refine j_aload_n C0 1 dL_areSamples_438 rfl rfl rfl ?_
          refine j_bipush C0 6 dL_areSamples_439 (by decide) rfl ?_
          refine j_callVi C0 1 [.int 6] (c_X5_count 6  hX) dL_areSamples_441 gL_areSamples_X5_count rfl (by decide +kernel) ⟨⟨Nat.le_of_ble_eq_true rfl, Nat.le_of_ble_eq_true rfl⟩, rfl, rfl⟩ (kd_lt (rfl : kd 0 = 5) (by decide)) (ce5 (rfl : kd 0 = 5)) rfl rfl rfl (Nat.le_of_ble_eq_true rfl) rfl (fun r37 μ36 hX => ?_)
          refine j_iload C0 6 dL_areSamples_444 rfl rfl ?_
          refine j_icmp_ne C0 (tgt := 453) dL_areSamples_446 (by decide) rfl (fun c38 => ?_) (fun c38 => ?_)
          · have hX := hX.1 c38
            refine j_iconst C0 1 dL_areSamples_449 (by decide) rfl ?_
            refine j_goto C0 (tgt := 454) dL_areSamples_450 (by decide) ?_
            exact j_zret C0 hlk hret dL_areSamples_454 zb1 hX
          · have hX := hX.2 c38
            refine j_iconst C0 0 dL_areSamples_453 (by decide) rfl ?_
            exact j_zret C0 hlk hret dL_areSamples_454 zb0 hX
        · have hX := hX.2 c35
          refine j_iconst C0 0 dL_areSamples_453 (by decide) rfl ?_
          exact j_zret C0 hlk hret dL_areSamples_454 zb0 hX
      · have hX := hX.2 c32
        refine j_iconst C0 0 dL_areSamples_453 (by decide) rfl ?_
        exact j_zret C0 hlk hret dL_areSamples_454 zb0 hX
    · have hX := hX.2 c29
      refine j_iconst C0 0 dL_areSamples_453 (by decide) rfl ?_
      exact j_zret C0 hlk hret dL_areSamples_454 zb0 hX
def x_L_areSamples_L400 (K : Int32 → Mem → Prop) (a2 : Int32) (a6 : Int32) (a8 : Int32) (a10 : Int32) (a11 : Int32) (μ : Mem) : Prop :=
  x_L_areSamples_L401 K a2 a6 a8 a10 a11 0 μ
set_option maxRecDepth 20000 in
theorem w_L_areSamples_L400 {p : Program} {l : Launch} {e : Env} {s : State} {m : MethodId} {args : Array Value} {below : List Frame} {meth : Method} {c : Code} {D : va_G} {Y : Nat → ClassId} {ad : Nat → Nat} (C0 : CX D Y ad (PA ad) rm_L_areSamples 0 0 p s args m c cL_areSamples 21 RL wsL_areSamples) (hlk : meth.locks = false) (hret : meth.sig.returnType = (some .boolean)) (a2 : Int32) (a6 : Int32) (a8 : Int32) (a10 : Int32) (a11 : Int32) (μ : Mem) (K : Int32 → Mem → Prop)  (hX : x_L_areSamples_L400 K a2 a6 a8 a10 a11 μ) : J p l e rm_L_areSamples s m args below meth c D Y ad (PA ad) 0 0 21 (MQ below (va_Qi K (BB D Y ad) (PA ad)) args s 0 0 (PA ad)) 400 [(0, .ref (ad 0)), (2, .int a2), (6, .int a6), (8, .int a8), (10, .int a10), (11, .int a11)] [] μ := by
  refine j_iconst C0 0 dL_areSamples_400 (by decide) rfl ?_
  exact j_sub (l' := [(0, .ref (ad 0)), (2, .int a2), (6, .int a6), (8, .int a8), (10, .int a10), (11, .int a11)]) [0, 1, 2, 3, 4, 5] rfl (w_L_areSamples_L401 C0 hlk hret a2 a6 a8 a10 a11 0 μ K  hX)
def x_L_areSamples_L396 (K : Int32 → Mem → Prop) (a2 : Int32) (a6 : Int32) (a8 : Int32) (a10 : Int32) (a11 : Int32) (μ : Mem) : Prop :=
  x_L_areSamples_L401 K a2 a6 a8 a10 a11 1 μ
set_option maxRecDepth 20000 in
theorem w_L_areSamples_L396 {p : Program} {l : Launch} {e : Env} {s : State} {m : MethodId} {args : Array Value} {below : List Frame} {meth : Method} {c : Code} {D : va_G} {Y : Nat → ClassId} {ad : Nat → Nat} (C0 : CX D Y ad (PA ad) rm_L_areSamples 0 0 p s args m c cL_areSamples 21 RL wsL_areSamples) (hlk : meth.locks = false) (hret : meth.sig.returnType = (some .boolean)) (a2 : Int32) (a6 : Int32) (a8 : Int32) (a10 : Int32) (a11 : Int32) (μ : Mem) (K : Int32 → Mem → Prop)  (hX : x_L_areSamples_L396 K a2 a6 a8 a10 a11 μ) : J p l e rm_L_areSamples s m args below meth c D Y ad (PA ad) 0 0 21 (MQ below (va_Qi K (BB D Y ad) (PA ad)) args s 0 0 (PA ad)) 396 [(0, .ref (ad 0)), (2, .int a2), (6, .int a6), (8, .int a8), (10, .int a10), (11, .int a11)] [] μ := by
  refine j_iconst C0 1 dL_areSamples_396 (by decide) rfl ?_
  refine j_goto C0 (tgt := 401) dL_areSamples_397 (by decide) ?_
  exact j_sub (l' := [(0, .ref (ad 0)), (2, .int a2), (6, .int a6), (8, .int a8), (10, .int a10), (11, .int a11)]) [0, 1, 2, 3, 4, 5] rfl (w_L_areSamples_L401 C0 hlk hret a2 a6 a8 a10 a11 1 μ K  hX)
def x_L_areSamples_L320 (K : Int32 → Mem → Prop) (a2 : Int32) (a3 : Int32) (a4 : Int32) (a5 : Int32) (a6 : Int32) (a7 : Int32) (a8 : Int32) (a9 : Int32) (a10 : Int32) (a11 : Int32) (a12 : Int32) (a13 : Int32) (a14 : Int32) (a15 : Int32) (a16 : Int32) (μ : Mem) : Prop :=
  (a16 = 0 → x_L_areSamples_L400 K a2 a6 a8 a10 a11 μ) ∧ (¬ (a16 = 0) → (a13 = a3 → (a14 = a4 → (a12 = a6 → x_X5_count 2 μ (fun r43 μ42 => ((r43 - a9) = a5 → x_X5_count 1 μ42 (fun r46 μ45 => (r46 = (a8 + a2) → (a15 = 0 → (a7 < 0 → x_L_areSamples_L396 K a2 a6 a8 a10 a11 μ45) ∧ (¬ (a7 < 0) → (a7 ≤ a2 → x_L_areSamples_L400 K a2 a6 a8 a10 a11 μ45) ∧ (¬ (a7 ≤ a2) → x_L_areSamples_L396 K a2 a6 a8 a10 a11 μ45))) ∧ (¬ (a15 = 0) → (a7 = a15 → x_L_areSamples_L396 K a2 a6 a8 a10 a11 μ45) ∧ (¬ (a7 = a15) → x_L_areSamples_L400 K a2 a6 a8 a10 a11 μ45))) ∧ (¬ (r46 = (a8 + a2)) → x_L_areSamples_L400 K a2 a6 a8 a10 a11 μ45))) ∧ (¬ ((r43 - a9) = a5) → x_L_areSamples_L400 K a2 a6 a8 a10 a11 μ42))) ∧ (¬ (a12 = a6) → x_L_areSamples_L400 K a2 a6 a8 a10 a11 μ)) ∧ (¬ (a14 = a4) → x_L_areSamples_L400 K a2 a6 a8 a10 a11 μ)) ∧ (¬ (a13 = a3) → x_L_areSamples_L400 K a2 a6 a8 a10 a11 μ))
set_option maxRecDepth 20000 in
theorem w_L_areSamples_L320 {p : Program} {l : Launch} {e : Env} {s : State} {m : MethodId} {args : Array Value} {below : List Frame} {meth : Method} {c : Code} {D : va_G} {Y : Nat → ClassId} {ad : Nat → Nat} (C0 : CX D Y ad (PA ad) rm_L_areSamples 0 0 p s args m c cL_areSamples 21 RL wsL_areSamples) (hlk : meth.locks = false) (hret : meth.sig.returnType = (some .boolean)) (a2 : Int32) (a3 : Int32) (a4 : Int32) (a5 : Int32) (a6 : Int32) (a7 : Int32) (a8 : Int32) (a9 : Int32) (a10 : Int32) (a11 : Int32) (a12 : Int32) (a13 : Int32) (a14 : Int32) (a15 : Int32) (a16 : Int32) (μ : Mem) (K : Int32 → Mem → Prop)  (hX : x_L_areSamples_L320 K a2 a3 a4 a5 a6 a7 a8 a9 a10 a11 a12 a13 a14 a15 a16 μ) : J p l e rm_L_areSamples s m args below meth c D Y ad (PA ad) 0 0 21 (MQ below (va_Qi K (BB D Y ad) (PA ad)) args s 0 0 (PA ad)) 320 [(0, .ref (ad 0)), (2, .int a2), (3, .int a3), (4, .int a4), (5, .int a5), (6, .int a6), (7, .int a7), (8, .int a8), (9, .int a9), (10, .int a10), (11, .int a11), (12, .int a12), (13, .int a13), (14, .int a14), (15, .int a15), (16, .int a16)] [] μ := by
  refine j_iload C0 15 dL_areSamples_320 rfl rfl ?_
  refine j_if_eq C0 (tgt := 400) dL_areSamples_322 (by decide) rfl (fun c25 => ?_) (fun c25 => ?_)
  · have hX := hX.1 c25
    exact j_sub (l' := [(0, .ref (ad 0)), (2, .int a2), (6, .int a6), (8, .int a8), (10, .int a10), (11, .int a11)]) [0, 1, 5, 7, 9, 10] rfl (w_L_areSamples_L400 C0 hlk hret a2 a6 a8 a10 a11 μ K  hX)
  · have hX := hX.2 c25
    refine j_iload C0 12 dL_areSamples_325 rfl rfl ?_
    refine j_iload_n C0 2 dL_areSamples_327 rfl rfl rfl ?_
    refine j_icmp_ne C0 (tgt := 400) dL_areSamples_328 (by decide) rfl (fun c39 => ?_) (fun c39 => ?_)
    · have hX := hX.1 c39
      refine j_iload C0 13 dL_areSamples_331 rfl rfl ?_
      refine j_iload C0 3 dL_areSamples_333 rfl rfl ?_
      refine j_icmp_ne C0 (tgt := 400) dL_areSamples_335 (by decide) rfl (fun c40 => ?_) (fun c40 => ?_)
      · have hX := hX.1 c40
        refine j_iload C0 11 dL_areSamples_338 rfl rfl ?_
        refine j_iload C0 5 dL_areSamples_340 rfl rfl ?_
        refine j_icmp_ne C0 (tgt := 400) dL_areSamples_342 (by decide) rfl (fun c41 => ?_) (fun c41 => ?_)
        · have hX := hX.1 c41
          refine j_aload_n C0 0 dL_areSamples_345 rfl rfl rfl ?_
          refine j_iconst C0 2 dL_areSamples_346 (by decide) rfl ?_
          refine j_callVi C0 1 [.int 2] (c_X5_count 2  hX) dL_areSamples_347 gL_areSamples_X5_count rfl (by decide +kernel) ⟨⟨Nat.le_of_ble_eq_true rfl, Nat.le_of_ble_eq_true rfl⟩, rfl, rfl⟩ (kd_lt (rfl : kd 0 = 5) (by decide)) (ce5 (rfl : kd 0 = 5)) rfl rfl rfl (Nat.le_of_ble_eq_true rfl) rfl (fun r43 μ42 hX => ?_)
          refine j_iload C0 8 dL_areSamples_350 rfl rfl ?_
          refine j_isub C0 dL_areSamples_352 rfl ?_
          refine j_iload C0 4 dL_areSamples_353 rfl rfl ?_
          refine j_icmp_ne C0 (tgt := 400) dL_areSamples_355 (by decide) rfl (fun c44 => ?_) (fun c44 => ?_)
          · have hX := hX.1 c44
            refine j_aload_n C0 0 dL_areSamples_358 rfl rfl rfl ?_
            refine j_iconst C0 1 dL_areSamples_359 (by decide) rfl ?_
            refine j_callVi C0 1 [.int 1] (c_X5_count 1  hX) dL_areSamples_360 gL_areSamples_X5_count rfl (by decide +kernel) ⟨⟨Nat.le_of_ble_eq_true rfl, Nat.le_of_ble_eq_true rfl⟩, rfl, rfl⟩ (kd_lt (rfl : kd 0 = 5) (by decide)) (ce5 (rfl : kd 0 = 5)) rfl rfl rfl (Nat.le_of_ble_eq_true rfl) rfl (fun r46 μ45 hX => ?_)
            refine j_iload C0 7 dL_areSamples_363 rfl rfl ?_
            refine j_iload_n C0 1 dL_areSamples_365 rfl rfl rfl ?_
            refine j_iadd C0 dL_areSamples_366 rfl ?_
            refine j_icmp_ne C0 (tgt := 400) dL_areSamples_367 (by decide) rfl (fun c47 => ?_) (fun c47 => ?_)
            · have hX := hX.1 c47
              refine j_iload C0 14 dL_areSamples_370 rfl rfl ?_
              refine j_if_ne C0 (tgt := 389) dL_areSamples_372 (by decide) rfl (fun c48 => ?_) (fun c48 => ?_)
              · have hX := hX.1 c48
                refine j_iload C0 6 dL_areSamples_375 rfl rfl ?_
                refine j_if_lt C0 (tgt := 396) dL_areSamples_377 (by decide) rfl (fun c49 => ?_) (fun c49 => ?_)
                · have hX := hX.1 c49
                  exact j_sub (l' := [(0, .ref (ad 0)), (2, .int a2), (6, .int a6), (8, .int a8), (10, .int a10), (11, .int a11)]) [0, 1, 5, 7, 9, 10] rfl (w_L_areSamples_L396 C0 hlk hret a2 a6 a8 a10 a11 μ45 K  hX)
                · have hX := hX.2 c49
                  refine j_iload C0 6 dL_areSamples_380 rfl rfl ?_
                  refine j_iload_n C0 1 dL_areSamples_382 rfl rfl rfl ?_
                  refine j_icmp_le C0 (tgt := 400) dL_areSamples_383 (by decide) rfl (fun c50 => ?_) (fun c50 => ?_)
                  · have hX := hX.1 c50
                    exact j_sub (l' := [(0, .ref (ad 0)), (2, .int a2), (6, .int a6), (8, .int a8), (10, .int a10), (11, .int a11)]) [0, 1, 5, 7, 9, 10] rfl (w_L_areSamples_L400 C0 hlk hret a2 a6 a8 a10 a11 μ45 K  hX)
                  · have hX := hX.2 c50
                    refine j_goto C0 (tgt := 396) dL_areSamples_386 (by decide) ?_
                    exact j_sub (l' := [(0, .ref (ad 0)), (2, .int a2), (6, .int a6), (8, .int a8), (10, .int a10), (11, .int a11)]) [0, 1, 5, 7, 9, 10] rfl (w_L_areSamples_L396 C0 hlk hret a2 a6 a8 a10 a11 μ45 K  hX)
              · have hX := hX.2 c48
                refine j_iload C0 6 dL_areSamples_389 rfl rfl ?_
                refine j_iload C0 14 dL_areSamples_391 rfl rfl ?_
                refine j_icmp_ne C0 (tgt := 400) dL_areSamples_393 (by decide) rfl (fun c51 => ?_) (fun c51 => ?_)
                · have hX := hX.1 c51
                  exact j_sub (l' := [(0, .ref (ad 0)), (2, .int a2), (6, .int a6), (8, .int a8), (10, .int a10), (11, .int a11)]) [0, 1, 5, 7, 9, 10] rfl (w_L_areSamples_L396 C0 hlk hret a2 a6 a8 a10 a11 μ45 K  hX)
                · have hX := hX.2 c51
                  exact j_sub (l' := [(0, .ref (ad 0)), (2, .int a2), (6, .int a6), (8, .int a8), (10, .int a10), (11, .int a11)]) [0, 1, 5, 7, 9, 10] rfl (w_L_areSamples_L400 C0 hlk hret a2 a6 a8 a10 a11 μ45 K  hX)
            · have hX := hX.2 c47
              exact j_sub (l' := [(0, .ref (ad 0)), (2, .int a2), (6, .int a6), (8, .int a8), (10, .int a10), (11, .int a11)]) [0, 1, 5, 7, 9, 10] rfl (w_L_areSamples_L400 C0 hlk hret a2 a6 a8 a10 a11 μ45 K  hX)
          · have hX := hX.2 c44
            exact j_sub (l' := [(0, .ref (ad 0)), (2, .int a2), (6, .int a6), (8, .int a8), (10, .int a10), (11, .int a11)]) [0, 1, 5, 7, 9, 10] rfl (w_L_areSamples_L400 C0 hlk hret a2 a6 a8 a10 a11 μ42 K  hX)
        · have hX := hX.2 c41
          exact j_sub (l' := [(0, .ref (ad 0)), (2, .int a2), (6, .int a6), (8, .int a8), (10, .int a10), (11, .int a11)]) [0, 1, 5, 7, 9, 10] rfl (w_L_areSamples_L400 C0 hlk hret a2 a6 a8 a10 a11 μ K  hX)
      · have hX := hX.2 c40
        exact j_sub (l' := [(0, .ref (ad 0)), (2, .int a2), (6, .int a6), (8, .int a8), (10, .int a10), (11, .int a11)]) [0, 1, 5, 7, 9, 10] rfl (w_L_areSamples_L400 C0 hlk hret a2 a6 a8 a10 a11 μ K  hX)
    · have hX := hX.2 c39
      exact j_sub (l' := [(0, .ref (ad 0)), (2, .int a2), (6, .int a6), (8, .int a8), (10, .int a10), (11, .int a11)]) [0, 1, 5, 7, 9, 10] rfl (w_L_areSamples_L400 C0 hlk hret a2 a6 a8 a10 a11 μ K  hX)
def x_L_areSamples_L312 (K : Int32 → Mem → Prop) (B : Int32 → Int32 → Int32 → Int32 → Int32 → Int32 → Int32 → Int32 → Int32 → Int32 → Int32 → Int32 → Int32 → Int32 → Int32 → Int32 → Mem → Prop) (a2 : Int32) (a3 : Int32) (a4 : Int32) (a5 : Int32) (a6 : Int32) (a7 : Int32) (a8 : Int32) (a9 : Int32) (a10 : Int32) (a11 : Int32) (a12 : Int32) (a13 : Int32) (a14 : Int32) (a15 : Int32) (a17 : Int32) (as0 : Int32) (μ : Mem) : Prop :=
  ∀ v75 : Int32, v75 = a17 + 1 → B a2 a3 a4 a5 a6 a7 a8 a9 a10 a11 a12 a13 a14 a15 as0 v75 μ
set_option maxRecDepth 20000 in
theorem w_L_areSamples_L312 {p : Program} {l : Launch} {e : Env} {s : State} {m : MethodId} {args : Array Value} {below : List Frame} {meth : Method} {c : Code} {D : va_G} {Y : Nat → ClassId} {ad : Nat → Nat} (C0 : CX D Y ad (PA ad) rm_L_areSamples 0 0 p s args m c cL_areSamples 21 RL wsL_areSamples) (hlk : meth.locks = false) (hret : meth.sig.returnType = (some .boolean)) (a2 : Int32) (a3 : Int32) (a4 : Int32) (a5 : Int32) (a6 : Int32) (a7 : Int32) (a8 : Int32) (a9 : Int32) (a10 : Int32) (a11 : Int32) (a12 : Int32) (a13 : Int32) (a14 : Int32) (a15 : Int32) (a17 : Int32) (as0 : Int32) (μ : Mem) (K : Int32 → Mem → Prop) (B : Int32 → Int32 → Int32 → Int32 → Int32 → Int32 → Int32 → Int32 → Int32 → Int32 → Int32 → Int32 → Int32 → Int32 → Int32 → Int32 → Mem → Prop) (hB : ∀ (a2 : Int32) (a3 : Int32) (a4 : Int32) (a5 : Int32) (a6 : Int32) (a7 : Int32) (a8 : Int32) (a9 : Int32) (a10 : Int32) (a11 : Int32) (a12 : Int32) (a13 : Int32) (a14 : Int32) (a15 : Int32) (a16 : Int32) (a17 : Int32) (μ : Mem), B a2 a3 a4 a5 a6 a7 a8 a9 a10 a11 a12 a13 a14 a15 a16 a17 μ → J p l e rm_L_areSamples s m args below meth c D Y ad (PA ad) 0 0 21 (MQ below (va_Qi K (BB D Y ad) (PA ad)) args s 0 0 (PA ad)) 120 [(0, .ref (ad 0)), (2, .int a2), (3, .int a3), (4, .int a4), (5, .int a5), (6, .int a6), (7, .int a7), (8, .int a8), (9, .int a9), (10, .int a10), (11, .int a11), (12, .int a12), (13, .int a13), (14, .int a14), (15, .int a15), (16, .int a16), (17, .int a17)] [] μ)  (hX : x_L_areSamples_L312 K B a2 a3 a4 a5 a6 a7 a8 a9 a10 a11 a12 a13 a14 a15 a17 as0 μ) : J p l e rm_L_areSamples s m args below meth c D Y ad (PA ad) 0 0 21 (MQ below (va_Qi K (BB D Y ad) (PA ad)) args s 0 0 (PA ad)) 312 [(0, .ref (ad 0)), (2, .int a2), (3, .int a3), (4, .int a4), (5, .int a5), (6, .int a6), (7, .int a7), (8, .int a8), (9, .int a9), (10, .int a10), (11, .int a11), (12, .int a12), (13, .int a13), (14, .int a14), (15, .int a15), (17, .int a17)] [.int as0] μ := by
  refine j_istore C0 [(16, .int as0), (0, .ref (ad 0)), (2, .int a2), (3, .int a3), (4, .int a4), (5, .int a5), (6, .int a6), (7, .int a7), (8, .int a8), (9, .int a9), (10, .int a10), (11, .int a11), (12, .int a12), (13, .int a13), (14, .int a14), (15, .int a15), (17, .int a17)] dL_areSamples_312 (by decide) rfl rfl ?_
  obtain ⟨v75, e_v75⟩ : ∃ z : Int32, z = a17 + 1 := ⟨_, rfl⟩
  have hX := hX v75 e_v75
  refine j_iinc C0 16 v75 [(17, .int v75), (16, .int as0), (0, .ref (ad 0)), (2, .int a2), (3, .int a3), (4, .int a4), (5, .int a5), (6, .int a6), (7, .int a7), (8, .int a8), (9, .int a9), (10, .int a10), (11, .int a11), (12, .int a12), (13, .int a13), (14, .int a14), (15, .int a15)] dL_areSamples_314 rfl (by rw [e_v75]; rfl) (by decide) rfl rfl ?_
  refine j_goto C0 (tgt := 120) dL_areSamples_317 (by decide) ?_
  exact j_sub (l' := [(0, .ref (ad 0)), (2, .int a2), (3, .int a3), (4, .int a4), (5, .int a5), (6, .int a6), (7, .int a7), (8, .int a8), (9, .int a9), (10, .int a10), (11, .int a11), (12, .int a12), (13, .int a13), (14, .int a14), (15, .int a15), (16, .int as0), (17, .int v75)]) [2, 3, 4, 5, 6, 7, 8, 9, 10, 11, 12, 13, 14, 15, 16, 1, 0] rfl (hB a2 a3 a4 a5 a6 a7 a8 a9 a10 a11 a12 a13 a14 a15 as0 v75 μ  hX)
def x_L_areSamples_L311 (K : Int32 → Mem → Prop) (B : Int32 → Int32 → Int32 → Int32 → Int32 → Int32 → Int32 → Int32 → Int32 → Int32 → Int32 → Int32 → Int32 → Int32 → Int32 → Int32 → Mem → Prop) (a2 : Int32) (a3 : Int32) (a4 : Int32) (a5 : Int32) (a6 : Int32) (a7 : Int32) (a8 : Int32) (a9 : Int32) (a10 : Int32) (a11 : Int32) (a12 : Int32) (a13 : Int32) (a14 : Int32) (a15 : Int32) (a17 : Int32) (μ : Mem) : Prop :=
  x_L_areSamples_L312 K B a2 a3 a4 a5 a6 a7 a8 a9 a10 a11 a12 a13 a14 a15 a17 0 μ
set_option maxRecDepth 20000 in
theorem w_L_areSamples_L311 {p : Program} {l : Launch} {e : Env} {s : State} {m : MethodId} {args : Array Value} {below : List Frame} {meth : Method} {c : Code} {D : va_G} {Y : Nat → ClassId} {ad : Nat → Nat} (C0 : CX D Y ad (PA ad) rm_L_areSamples 0 0 p s args m c cL_areSamples 21 RL wsL_areSamples) (hlk : meth.locks = false) (hret : meth.sig.returnType = (some .boolean)) (a2 : Int32) (a3 : Int32) (a4 : Int32) (a5 : Int32) (a6 : Int32) (a7 : Int32) (a8 : Int32) (a9 : Int32) (a10 : Int32) (a11 : Int32) (a12 : Int32) (a13 : Int32) (a14 : Int32) (a15 : Int32) (a17 : Int32) (μ : Mem) (K : Int32 → Mem → Prop) (B : Int32 → Int32 → Int32 → Int32 → Int32 → Int32 → Int32 → Int32 → Int32 → Int32 → Int32 → Int32 → Int32 → Int32 → Int32 → Int32 → Mem → Prop) (hB : ∀ (a2 : Int32) (a3 : Int32) (a4 : Int32) (a5 : Int32) (a6 : Int32) (a7 : Int32) (a8 : Int32) (a9 : Int32) (a10 : Int32) (a11 : Int32) (a12 : Int32) (a13 : Int32) (a14 : Int32) (a15 : Int32) (a16 : Int32) (a17 : Int32) (μ : Mem), B a2 a3 a4 a5 a6 a7 a8 a9 a10 a11 a12 a13 a14 a15 a16 a17 μ → J p l e rm_L_areSamples s m args below meth c D Y ad (PA ad) 0 0 21 (MQ below (va_Qi K (BB D Y ad) (PA ad)) args s 0 0 (PA ad)) 120 [(0, .ref (ad 0)), (2, .int a2), (3, .int a3), (4, .int a4), (5, .int a5), (6, .int a6), (7, .int a7), (8, .int a8), (9, .int a9), (10, .int a10), (11, .int a11), (12, .int a12), (13, .int a13), (14, .int a14), (15, .int a15), (16, .int a16), (17, .int a17)] [] μ)  (hX : x_L_areSamples_L311 K B a2 a3 a4 a5 a6 a7 a8 a9 a10 a11 a12 a13 a14 a15 a17 μ) : J p l e rm_L_areSamples s m args below meth c D Y ad (PA ad) 0 0 21 (MQ below (va_Qi K (BB D Y ad) (PA ad)) args s 0 0 (PA ad)) 311 [(0, .ref (ad 0)), (2, .int a2), (3, .int a3), (4, .int a4), (5, .int a5), (6, .int a6), (7, .int a7), (8, .int a8), (9, .int a9), (10, .int a10), (11, .int a11), (12, .int a12), (13, .int a13), (14, .int a14), (15, .int a15), (17, .int a17)] [] μ := by
  refine j_iconst C0 0 dL_areSamples_311 (by decide) rfl ?_
  exact j_sub (l' := [(0, .ref (ad 0)), (2, .int a2), (3, .int a3), (4, .int a4), (5, .int a5), (6, .int a6), (7, .int a7), (8, .int a8), (9, .int a9), (10, .int a10), (11, .int a11), (12, .int a12), (13, .int a13), (14, .int a14), (15, .int a15), (17, .int a17)]) [0, 1, 2, 3, 4, 5, 6, 7, 8, 9, 10, 11, 12, 13, 14, 15] rfl (w_L_areSamples_L312 C0 hlk hret a2 a3 a4 a5 a6 a7 a8 a9 a10 a11 a12 a13 a14 a15 a17 0 μ K B hB  hX)
def x_L_areSamples_L286 (K : Int32 → Mem → Prop) (B : Int32 → Int32 → Int32 → Int32 → Int32 → Int32 → Int32 → Int32 → Int32 → Int32 → Int32 → Int32 → Int32 → Int32 → Int32 → Int32 → Mem → Prop) (a2 : Int32) (a3 : Int32) (a4 : Int32) (a5 : Int32) (a6 : Int32) (a7 : Int32) (a8 : Int32) (a9 : Int32) (a10 : Int32) (a11 : Int32) (a12 : Int32) (a13 : Int32) (a14 : Int32) (a15 : Int32) (a17 : Int32) (μ : Mem) : Prop :=
  x_X5_count 5 μ (fun r78 μ77 => (r78 = a10 → x_X5_count 6 μ77 (fun r81 μ80 => (r81 = a11 → x_L_areSamples_L312 K B a2 a3 a4 a5 a6 a7 a8 a9 a10 a11 a12 a13 a14 a15 a17 1 μ80) ∧ (¬ (r81 = a11) → x_L_areSamples_L311 K B a2 a3 a4 a5 a6 a7 a8 a9 a10 a11 a12 a13 a14 a15 a17 μ80))) ∧ (¬ (r78 = a10) → x_L_areSamples_L311 K B a2 a3 a4 a5 a6 a7 a8 a9 a10 a11 a12 a13 a14 a15 a17 μ77))
set_option maxRecDepth 20000 in
theorem w_L_areSamples_L286 {p : Program} {l : Launch} {e : Env} {s : State} {m : MethodId} {args : Array Value} {below : List Frame} {meth : Method} {c : Code} {D : va_G} {Y : Nat → ClassId} {ad : Nat → Nat} (C0 : CX D Y ad (PA ad) rm_L_areSamples 0 0 p s args m c cL_areSamples 21 RL wsL_areSamples) (hlk : meth.locks = false) (hret : meth.sig.returnType = (some .boolean)) (a2 : Int32) (a3 : Int32) (a4 : Int32) (a5 : Int32) (a6 : Int32) (a7 : Int32) (a8 : Int32) (a9 : Int32) (a10 : Int32) (a11 : Int32) (a12 : Int32) (a13 : Int32) (a14 : Int32) (a15 : Int32) (a17 : Int32) (μ : Mem) (K : Int32 → Mem → Prop) (B : Int32 → Int32 → Int32 → Int32 → Int32 → Int32 → Int32 → Int32 → Int32 → Int32 → Int32 → Int32 → Int32 → Int32 → Int32 → Int32 → Mem → Prop) (hB : ∀ (a2 : Int32) (a3 : Int32) (a4 : Int32) (a5 : Int32) (a6 : Int32) (a7 : Int32) (a8 : Int32) (a9 : Int32) (a10 : Int32) (a11 : Int32) (a12 : Int32) (a13 : Int32) (a14 : Int32) (a15 : Int32) (a16 : Int32) (a17 : Int32) (μ : Mem), B a2 a3 a4 a5 a6 a7 a8 a9 a10 a11 a12 a13 a14 a15 a16 a17 μ → J p l e rm_L_areSamples s m args below meth c D Y ad (PA ad) 0 0 21 (MQ below (va_Qi K (BB D Y ad) (PA ad)) args s 0 0 (PA ad)) 120 [(0, .ref (ad 0)), (2, .int a2), (3, .int a3), (4, .int a4), (5, .int a5), (6, .int a6), (7, .int a7), (8, .int a8), (9, .int a9), (10, .int a10), (11, .int a11), (12, .int a12), (13, .int a13), (14, .int a14), (15, .int a15), (16, .int a16), (17, .int a17)] [] μ)  (hX : x_L_areSamples_L286 K B a2 a3 a4 a5 a6 a7 a8 a9 a10 a11 a12 a13 a14 a15 a17 μ) : J p l e rm_L_areSamples s m args below meth c D Y ad (PA ad) 0 0 21 (MQ below (va_Qi K (BB D Y ad) (PA ad)) args s 0 0 (PA ad)) 286 [(0, .ref (ad 0)), (2, .int a2), (3, .int a3), (4, .int a4), (5, .int a5), (6, .int a6), (7, .int a7), (8, .int a8), (9, .int a9), (10, .int a10), (11, .int a11), (12, .int a12), (13, .int a13), (14, .int a14), (15, .int a15), (17, .int a17)] [] μ := by
  refine j_aload_n C0 0 dL_areSamples_286 rfl rfl rfl ?_
  refine j_iconst C0 5 dL_areSamples_287 (by decide) rfl ?_
  refine j_callVi C0 1 [.int 5] (c_X5_count 5  hX) dL_areSamples_288 gL_areSamples_X5_count rfl (by decide +kernel) ⟨⟨Nat.le_of_ble_eq_true rfl, Nat.le_of_ble_eq_true rfl⟩, rfl, rfl⟩ (kd_lt (rfl : kd 0 = 5) (by decide)) (ce5 (rfl : kd 0 = 5)) rfl rfl rfl (Nat.le_of_ble_eq_true rfl) rfl (fun r78 μ77 hX => ?_)
  refine j_iload C0 9 dL_areSamples_291 rfl rfl ?_
  refine j_icmp_ne C0 (tgt := 311) dL_areSamples_293 (by decide) rfl (fun c79 => ?_) (fun c79 => ?_)
  · have hX := hX.1 c79
    refine j_aload_n C0 0 dL_areSamples_296 rfl rfl rfl ?_
    refine j_bipush C0 6 dL_areSamples_297 (by decide) rfl ?_
    refine j_callVi C0 1 [.int 6] (c_X5_count 6  hX) dL_areSamples_299 gL_areSamples_X5_count rfl (by decide +kernel) ⟨⟨Nat.le_of_ble_eq_true rfl, Nat.le_of_ble_eq_true rfl⟩, rfl, rfl⟩ (kd_lt (rfl : kd 0 = 5) (by decide)) (ce5 (rfl : kd 0 = 5)) rfl rfl rfl (Nat.le_of_ble_eq_true rfl) rfl (fun r81 μ80 hX => ?_)
    refine j_iload C0 10 dL_areSamples_302 rfl rfl ?_
    refine j_icmp_ne C0 (tgt := 311) dL_areSamples_304 (by decide) rfl (fun c82 => ?_) (fun c82 => ?_)
    · have hX := hX.1 c82
      refine j_iconst C0 1 dL_areSamples_307 (by decide) rfl ?_
      refine j_goto C0 (tgt := 312) dL_areSamples_308 (by decide) ?_
      exact j_sub (l' := [(0, .ref (ad 0)), (2, .int a2), (3, .int a3), (4, .int a4), (5, .int a5), (6, .int a6), (7, .int a7), (8, .int a8), (9, .int a9), (10, .int a10), (11, .int a11), (12, .int a12), (13, .int a13), (14, .int a14), (15, .int a15), (17, .int a17)]) [0, 1, 2, 3, 4, 5, 6, 7, 8, 9, 10, 11, 12, 13, 14, 15] rfl (w_L_areSamples_L312 C0 hlk hret a2 a3 a4 a5 a6 a7 a8 a9 a10 a11 a12 a13 a14 a15 a17 1 μ80 K B hB  hX)
    · have hX := hX.2 c82
      exact j_sub (l' := [(0, .ref (ad 0)), (2, .int a2), (3, .int a3), (4, .int a4), (5, .int a5), (6, .int a6), (7, .int a7), (8, .int a8), (9, .int a9), (10, .int a10), (11, .int a11), (12, .int a12), (13, .int a13), (14, .int a14), (15, .int a15), (17, .int a17)]) [0, 1, 2, 3, 4, 5, 6, 7, 8, 9, 10, 11, 12, 13, 14, 15] rfl (w_L_areSamples_L311 C0 hlk hret a2 a3 a4 a5 a6 a7 a8 a9 a10 a11 a12 a13 a14 a15 a17 μ80 K B hB  hX)
  · have hX := hX.2 c79
    exact j_sub (l' := [(0, .ref (ad 0)), (2, .int a2), (3, .int a3), (4, .int a4), (5, .int a5), (6, .int a6), (7, .int a7), (8, .int a8), (9, .int a9), (10, .int a10), (11, .int a11), (12, .int a12), (13, .int a13), (14, .int a14), (15, .int a15), (17, .int a17)]) [0, 1, 2, 3, 4, 5, 6, 7, 8, 9, 10, 11, 12, 13, 14, 15] rfl (w_L_areSamples_L311 C0 hlk hret a2 a3 a4 a5 a6 a7 a8 a9 a10 a11 a12 a13 a14 a15 a17 μ77 K B hB  hX)
def x_L_areSamples_L239 (K : Int32 → Mem → Prop) (B : Int32 → Int32 → Int32 → Int32 → Int32 → Int32 → Int32 → Int32 → Int32 → Int32 → Int32 → Int32 → Int32 → Int32 → Int32 → Int32 → Mem → Prop) (a2 : Int32) (a3 : Int32) (a4 : Int32) (a5 : Int32) (a6 : Int32) (a7 : Int32) (a8 : Int32) (a9 : Int32) (a10 : Int32) (a13 : Int32) (a14 : Int32) (a15 : Int32) (a17 : Int32) (a18 : Int32) (a20 : Int32) (as0 : Int32) (as1 : Int32) (μ : Mem) : Prop :=
  ∀ v67 : Int32, v67 = (as1 + as0) → (a20 = a18 → x_X5_sample 0 μ (fun r70 μ69 => (r70 = a20 → x_X5_count 0 μ69 (fun r73 μ72 => (r73 < a20 → x_L_areSamples_L311 K B a2 a3 a4 a5 a6 a7 a8 a9 a10 v67 a20 a13 a14 a15 a17 μ72) ∧ (¬ (r73 < a20) → (a17 = 0 → x_L_areSamples_L286 K B a2 a3 a4 a5 a6 a7 a8 a9 a10 v67 a20 a13 a14 a15 a17 μ72) ∧ (¬ (a17 = 0) → x_X5_sample 1 μ72 (fun r84 μ83 => (r84 < 0 → x_L_areSamples_L311 K B a2 a3 a4 a5 a6 a7 a8 a9 a10 v67 a20 a13 a14 a15 a17 μ83) ∧ (¬ (r84 < 0) → x_L_areSamples_L286 K B a2 a3 a4 a5 a6 a7 a8 a9 a10 v67 a20 a13 a14 a15 a17 μ83)))))) ∧ (¬ (r70 = a20) → x_L_areSamples_L311 K B a2 a3 a4 a5 a6 a7 a8 a9 a10 v67 a20 a13 a14 a15 a17 μ69))) ∧ (¬ (a20 = a18) → x_L_areSamples_L311 K B a2 a3 a4 a5 a6 a7 a8 a9 a10 v67 a20 a13 a14 a15 a17 μ)
set_option maxRecDepth 20000 in
theorem w_L_areSamples_L239 {p : Program} {l : Launch} {e : Env} {s : State} {m : MethodId} {args : Array Value} {below : List Frame} {meth : Method} {c : Code} {D : va_G} {Y : Nat → ClassId} {ad : Nat → Nat} (C0 : CX D Y ad (PA ad) rm_L_areSamples 0 0 p s args m c cL_areSamples 21 RL wsL_areSamples) (hlk : meth.locks = false) (hret : meth.sig.returnType = (some .boolean)) (a2 : Int32) (a3 : Int32) (a4 : Int32) (a5 : Int32) (a6 : Int32) (a7 : Int32) (a8 : Int32) (a9 : Int32) (a10 : Int32) (a13 : Int32) (a14 : Int32) (a15 : Int32) (a17 : Int32) (a18 : Int32) (a20 : Int32) (as0 : Int32) (as1 : Int32) (μ : Mem) (K : Int32 → Mem → Prop) (B : Int32 → Int32 → Int32 → Int32 → Int32 → Int32 → Int32 → Int32 → Int32 → Int32 → Int32 → Int32 → Int32 → Int32 → Int32 → Int32 → Mem → Prop) (hB : ∀ (a2 : Int32) (a3 : Int32) (a4 : Int32) (a5 : Int32) (a6 : Int32) (a7 : Int32) (a8 : Int32) (a9 : Int32) (a10 : Int32) (a11 : Int32) (a12 : Int32) (a13 : Int32) (a14 : Int32) (a15 : Int32) (a16 : Int32) (a17 : Int32) (μ : Mem), B a2 a3 a4 a5 a6 a7 a8 a9 a10 a11 a12 a13 a14 a15 a16 a17 μ → J p l e rm_L_areSamples s m args below meth c D Y ad (PA ad) 0 0 21 (MQ below (va_Qi K (BB D Y ad) (PA ad)) args s 0 0 (PA ad)) 120 [(0, .ref (ad 0)), (2, .int a2), (3, .int a3), (4, .int a4), (5, .int a5), (6, .int a6), (7, .int a7), (8, .int a8), (9, .int a9), (10, .int a10), (11, .int a11), (12, .int a12), (13, .int a13), (14, .int a14), (15, .int a15), (16, .int a16), (17, .int a17)] [] μ)  (hX : x_L_areSamples_L239 K B a2 a3 a4 a5 a6 a7 a8 a9 a10 a13 a14 a15 a17 a18 a20 as0 as1 μ) : J p l e rm_L_areSamples s m args below meth c D Y ad (PA ad) 0 0 21 (MQ below (va_Qi K (BB D Y ad) (PA ad)) args s 0 0 (PA ad)) 239 [(0, .ref (ad 0)), (2, .int a2), (3, .int a3), (4, .int a4), (5, .int a5), (6, .int a6), (7, .int a7), (8, .int a8), (9, .int a9), (10, .int a10), (13, .int a13), (14, .int a14), (15, .int a15), (17, .int a17), (18, .int a18), (20, .int a20)] [.int as0, .int as1] μ := by
  refine j_iadd C0 dL_areSamples_239 rfl ?_
  refine j_topi (fun v67 e_v67 => ?_)
  have hX := hX v67 e_v67
  refine j_istore C0 [(11, .int v67), (0, .ref (ad 0)), (2, .int a2), (3, .int a3), (4, .int a4), (5, .int a5), (6, .int a6), (7, .int a7), (8, .int a8), (9, .int a9), (10, .int a10), (13, .int a13), (14, .int a14), (15, .int a15), (17, .int a17), (18, .int a18), (20, .int a20)] dL_areSamples_240 (by decide) rfl rfl ?_
  refine j_iload C0 16 dL_areSamples_242 rfl rfl ?_
  refine j_istore C0 [(12, .int a20), (11, .int v67), (0, .ref (ad 0)), (2, .int a2), (3, .int a3), (4, .int a4), (5, .int a5), (6, .int a6), (7, .int a7), (8, .int a8), (9, .int a9), (10, .int a10), (13, .int a13), (14, .int a14), (15, .int a15), (17, .int a17), (18, .int a18), (20, .int a20)] dL_areSamples_244 (by decide) rfl rfl ?_
  refine j_iload C0 17 dL_areSamples_246 rfl rfl ?_
  refine j_iload C0 16 dL_areSamples_248 rfl rfl ?_
  refine j_icmp_ne C0 (tgt := 311) dL_areSamples_250 (by decide) rfl (fun c68 => ?_) (fun c68 => ?_)
  · have hX := hX.1 c68
    refine j_aload_n C0 2 dL_areSamples_253 rfl rfl rfl ?_
    refine j_iconst C0 0 dL_areSamples_254 (by decide) rfl ?_
    refine j_callVi C0 1 [.int 0] (c_X5_sample 0  hX) dL_areSamples_255 gL_areSamples_X5_sample rfl (by decide +kernel) ⟨⟨Nat.le_of_ble_eq_true rfl, Nat.le_of_ble_eq_true rfl⟩, rfl, rfl⟩ (kd_lt (rfl : kd 0 = 5) (by decide)) (ce5 (rfl : kd 0 = 5)) rfl rfl rfl (Nat.le_of_ble_eq_true rfl) rfl (fun r70 μ69 hX => ?_)
    refine j_iload C0 17 dL_areSamples_258 rfl rfl ?_
    refine j_icmp_ne C0 (tgt := 311) dL_areSamples_260 (by decide) rfl (fun c71 => ?_) (fun c71 => ?_)
    · have hX := hX.1 c71
      refine j_iload C0 17 dL_areSamples_263 rfl rfl ?_
      refine j_aload_n C0 2 dL_areSamples_265 rfl rfl rfl ?_
      refine j_iconst C0 0 dL_areSamples_266 (by decide) rfl ?_
      refine j_callVi C0 1 [.int 0] (c_X5_count 0  hX) dL_areSamples_267 gL_areSamples_X5_count rfl (by decide +kernel) ⟨⟨Nat.le_of_ble_eq_true rfl, Nat.le_of_ble_eq_true rfl⟩, rfl, rfl⟩ (kd_lt (rfl : kd 0 = 5) (by decide)) (ce5 (rfl : kd 0 = 5)) rfl rfl rfl (Nat.le_of_ble_eq_true rfl) rfl (fun r73 μ72 hX => ?_)
      refine j_icmp_gt C0 (tgt := 311) dL_areSamples_270 (by decide) rfl (fun c74 => ?_) (fun c74 => ?_)
      · have hX := hX.1 c74
        exact j_sub (l' := [(0, .ref (ad 0)), (2, .int a2), (3, .int a3), (4, .int a4), (5, .int a5), (6, .int a6), (7, .int a7), (8, .int a8), (9, .int a9), (10, .int a10), (11, .int v67), (12, .int a20), (13, .int a13), (14, .int a14), (15, .int a15), (17, .int a17)]) [2, 3, 4, 5, 6, 7, 8, 9, 10, 11, 1, 0, 12, 13, 14, 15] rfl (w_L_areSamples_L311 C0 hlk hret a2 a3 a4 a5 a6 a7 a8 a9 a10 v67 a20 a13 a14 a15 a17 μ72 K B hB  hX)
      · have hX := hX.2 c74
        refine j_iload C0 15 dL_areSamples_273 rfl rfl ?_
        refine j_if_eq C0 (tgt := 286) dL_areSamples_275 (by decide) rfl (fun c76 => ?_) (fun c76 => ?_)
        · have hX := hX.1 c76
          exact j_sub (l' := [(0, .ref (ad 0)), (2, .int a2), (3, .int a3), (4, .int a4), (5, .int a5), (6, .int a6), (7, .int a7), (8, .int a8), (9, .int a9), (10, .int a10), (11, .int v67), (12, .int a20), (13, .int a13), (14, .int a14), (15, .int a15), (17, .int a17)]) [2, 3, 4, 5, 6, 7, 8, 9, 10, 11, 1, 0, 12, 13, 14, 15] rfl (w_L_areSamples_L286 C0 hlk hret a2 a3 a4 a5 a6 a7 a8 a9 a10 v67 a20 a13 a14 a15 a17 μ72 K B hB  hX)
        · have hX := hX.2 c76
          refine j_aload_n C0 2 dL_areSamples_278 rfl rfl rfl ?_
          refine j_iconst C0 1 dL_areSamples_279 (by decide) rfl ?_
          refine j_callVi C0 1 [.int 1] (c_X5_sample 1  hX) dL_areSamples_280 gL_areSamples_X5_sample rfl (by decide +kernel) ⟨⟨Nat.le_of_ble_eq_true rfl, Nat.le_of_ble_eq_true rfl⟩, rfl, rfl⟩ (kd_lt (rfl : kd 0 = 5) (by decide)) (ce5 (rfl : kd 0 = 5)) rfl rfl rfl (Nat.le_of_ble_eq_true rfl) rfl (fun r84 μ83 hX => ?_)
          refine j_if_lt C0 (tgt := 311) dL_areSamples_283 (by decide) rfl (fun c85 => ?_) (fun c85 => ?_)
          · have hX := hX.1 c85
            exact j_sub (l' := [(0, .ref (ad 0)), (2, .int a2), (3, .int a3), (4, .int a4), (5, .int a5), (6, .int a6), (7, .int a7), (8, .int a8), (9, .int a9), (10, .int a10), (11, .int v67), (12, .int a20), (13, .int a13), (14, .int a14), (15, .int a15), (17, .int a17)]) [2, 3, 4, 5, 6, 7, 8, 9, 10, 11, 1, 0, 12, 13, 14, 15] rfl (w_L_areSamples_L311 C0 hlk hret a2 a3 a4 a5 a6 a7 a8 a9 a10 v67 a20 a13 a14 a15 a17 μ83 K B hB  hX)
          · have hX := hX.2 c85
            exact j_sub (l' := [(0, .ref (ad 0)), (2, .int a2), (3, .int a3), (4, .int a4), (5, .int a5), (6, .int a6), (7, .int a7), (8, .int a8), (9, .int a9), (10, .int a10), (11, .int v67), (12, .int a20), (13, .int a13), (14, .int a14), (15, .int a15), (17, .int a17)]) [2, 3, 4, 5, 6, 7, 8, 9, 10, 11, 1, 0, 12, 13, 14, 15] rfl (w_L_areSamples_L286 C0 hlk hret a2 a3 a4 a5 a6 a7 a8 a9 a10 v67 a20 a13 a14 a15 a17 μ83 K B hB  hX)
    · have hX := hX.2 c71
      exact j_sub (l' := [(0, .ref (ad 0)), (2, .int a2), (3, .int a3), (4, .int a4), (5, .int a5), (6, .int a6), (7, .int a7), (8, .int a8), (9, .int a9), (10, .int a10), (11, .int v67), (12, .int a20), (13, .int a13), (14, .int a14), (15, .int a15), (17, .int a17)]) [2, 3, 4, 5, 6, 7, 8, 9, 10, 11, 1, 0, 12, 13, 14, 15] rfl (w_L_areSamples_L311 C0 hlk hret a2 a3 a4 a5 a6 a7 a8 a9 a10 v67 a20 a13 a14 a15 a17 μ69 K B hB  hX)
  · have hX := hX.2 c68
    exact j_sub (l' := [(0, .ref (ad 0)), (2, .int a2), (3, .int a3), (4, .int a4), (5, .int a5), (6, .int a6), (7, .int a7), (8, .int a8), (9, .int a9), (10, .int a10), (11, .int v67), (12, .int a20), (13, .int a13), (14, .int a14), (15, .int a15), (17, .int a17)]) [2, 3, 4, 5, 6, 7, 8, 9, 10, 11, 1, 0, 12, 13, 14, 15] rfl (w_L_areSamples_L311 C0 hlk hret a2 a3 a4 a5 a6 a7 a8 a9 a10 v67 a20 a13 a14 a15 a17 μ K B hB  hX)
def x_L_areSamples_L238 (K : Int32 → Mem → Prop) (B : Int32 → Int32 → Int32 → Int32 → Int32 → Int32 → Int32 → Int32 → Int32 → Int32 → Int32 → Int32 → Int32 → Int32 → Int32 → Int32 → Mem → Prop) (a2 : Int32) (a3 : Int32) (a4 : Int32) (a5 : Int32) (a6 : Int32) (a7 : Int32) (a8 : Int32) (a9 : Int32) (a10 : Int32) (a13 : Int32) (a14 : Int32) (a15 : Int32) (a17 : Int32) (a18 : Int32) (a20 : Int32) (as0 : Int32) (μ : Mem) : Prop :=
  x_L_areSamples_L239 K B a2 a3 a4 a5 a6 a7 a8 a9 a10 a13 a14 a15 a17 a18 a20 0 as0 μ
set_option maxRecDepth 20000 in
theorem w_L_areSamples_L238 {p : Program} {l : Launch} {e : Env} {s : State} {m : MethodId} {args : Array Value} {below : List Frame} {meth : Method} {c : Code} {D : va_G} {Y : Nat → ClassId} {ad : Nat → Nat} (C0 : CX D Y ad (PA ad) rm_L_areSamples 0 0 p s args m c cL_areSamples 21 RL wsL_areSamples) (hlk : meth.locks = false) (hret : meth.sig.returnType = (some .boolean)) (a2 : Int32) (a3 : Int32) (a4 : Int32) (a5 : Int32) (a6 : Int32) (a7 : Int32) (a8 : Int32) (a9 : Int32) (a10 : Int32) (a13 : Int32) (a14 : Int32) (a15 : Int32) (a17 : Int32) (a18 : Int32) (a20 : Int32) (as0 : Int32) (μ : Mem) (K : Int32 → Mem → Prop) (B : Int32 → Int32 → Int32 → Int32 → Int32 → Int32 → Int32 → Int32 → Int32 → Int32 → Int32 → Int32 → Int32 → Int32 → Int32 → Int32 → Mem → Prop) (hB : ∀ (a2 : Int32) (a3 : Int32) (a4 : Int32) (a5 : Int32) (a6 : Int32) (a7 : Int32) (a8 : Int32) (a9 : Int32) (a10 : Int32) (a11 : Int32) (a12 : Int32) (a13 : Int32) (a14 : Int32) (a15 : Int32) (a16 : Int32) (a17 : Int32) (μ : Mem), B a2 a3 a4 a5 a6 a7 a8 a9 a10 a11 a12 a13 a14 a15 a16 a17 μ → J p l e rm_L_areSamples s m args below meth c D Y ad (PA ad) 0 0 21 (MQ below (va_Qi K (BB D Y ad) (PA ad)) args s 0 0 (PA ad)) 120 [(0, .ref (ad 0)), (2, .int a2), (3, .int a3), (4, .int a4), (5, .int a5), (6, .int a6), (7, .int a7), (8, .int a8), (9, .int a9), (10, .int a10), (11, .int a11), (12, .int a12), (13, .int a13), (14, .int a14), (15, .int a15), (16, .int a16), (17, .int a17)] [] μ)  (hX : x_L_areSamples_L238 K B a2 a3 a4 a5 a6 a7 a8 a9 a10 a13 a14 a15 a17 a18 a20 as0 μ) : J p l e rm_L_areSamples s m args below meth c D Y ad (PA ad) 0 0 21 (MQ below (va_Qi K (BB D Y ad) (PA ad)) args s 0 0 (PA ad)) 238 [(0, .ref (ad 0)), (2, .int a2), (3, .int a3), (4, .int a4), (5, .int a5), (6, .int a6), (7, .int a7), (8, .int a8), (9, .int a9), (10, .int a10), (13, .int a13), (14, .int a14), (15, .int a15), (17, .int a17), (18, .int a18), (20, .int a20)] [.int as0] μ := by
  refine j_iconst C0 0 dL_areSamples_238 (by decide) rfl ?_
  exact j_sub (l' := [(0, .ref (ad 0)), (2, .int a2), (3, .int a3), (4, .int a4), (5, .int a5), (6, .int a6), (7, .int a7), (8, .int a8), (9, .int a9), (10, .int a10), (13, .int a13), (14, .int a14), (15, .int a15), (17, .int a17), (18, .int a18), (20, .int a20)]) [0, 1, 2, 3, 4, 5, 6, 7, 8, 9, 10, 11, 12, 13, 14, 15] rfl (w_L_areSamples_L239 C0 hlk hret a2 a3 a4 a5 a6 a7 a8 a9 a10 a13 a14 a15 a17 a18 a20 0 as0 μ K B hB  hX)
def x_L_areSamples_L208 (K : Int32 → Mem → Prop) (B : Int32 → Int32 → Int32 → Int32 → Int32 → Int32 → Int32 → Int32 → Int32 → Int32 → Int32 → Int32 → Int32 → Int32 → Int32 → Int32 → Mem → Prop) (a2 : Int32) (a3 : Int32) (a4 : Int32) (a5 : Int32) (a6 : Int32) (a7 : Int32) (a8 : Int32) (a9 : Int32) (a10 : Int32) (a11 : Int32) (a12 : Int32) (a13 : Int32) (a14 : Int32) (a17 : Int32) (a18 : Int32) (a20 : Int32) (as0 : Int32) (μ : Mem) : Prop :=
  ∀ v65 : Int32, v65 = ((a10 + a20) - (a10 + a20) / 1000003 * 1000003) → (a12 < 0 → x_L_areSamples_L238 K B a2 a3 a4 a5 a6 a7 a8 a9 v65 a13 a14 as0 a17 a18 a20 a11 μ) ∧ (¬ (a12 < 0) → (a20 ≤ a12 → x_L_areSamples_L238 K B a2 a3 a4 a5 a6 a7 a8 a9 v65 a13 a14 as0 a17 a18 a20 a11 μ) ∧ (¬ (a20 ≤ a12) → x_L_areSamples_L239 K B a2 a3 a4 a5 a6 a7 a8 a9 v65 a13 a14 as0 a17 a18 a20 1 a11 μ))
set_option maxRecDepth 20000 in
theorem w_L_areSamples_L208 {p : Program} {l : Launch} {e : Env} {s : State} {m : MethodId} {args : Array Value} {below : List Frame} {meth : Method} {c : Code} {D : va_G} {Y : Nat → ClassId} {ad : Nat → Nat} (C0 : CX D Y ad (PA ad) rm_L_areSamples 0 0 p s args m c cL_areSamples 21 RL wsL_areSamples) (hlk : meth.locks = false) (hret : meth.sig.returnType = (some .boolean)) (a2 : Int32) (a3 : Int32) (a4 : Int32) (a5 : Int32) (a6 : Int32) (a7 : Int32) (a8 : Int32) (a9 : Int32) (a10 : Int32) (a11 : Int32) (a12 : Int32) (a13 : Int32) (a14 : Int32) (a17 : Int32) (a18 : Int32) (a20 : Int32) (as0 : Int32) (μ : Mem) (K : Int32 → Mem → Prop) (B : Int32 → Int32 → Int32 → Int32 → Int32 → Int32 → Int32 → Int32 → Int32 → Int32 → Int32 → Int32 → Int32 → Int32 → Int32 → Int32 → Mem → Prop) (hB : ∀ (a2 : Int32) (a3 : Int32) (a4 : Int32) (a5 : Int32) (a6 : Int32) (a7 : Int32) (a8 : Int32) (a9 : Int32) (a10 : Int32) (a11 : Int32) (a12 : Int32) (a13 : Int32) (a14 : Int32) (a15 : Int32) (a16 : Int32) (a17 : Int32) (μ : Mem), B a2 a3 a4 a5 a6 a7 a8 a9 a10 a11 a12 a13 a14 a15 a16 a17 μ → J p l e rm_L_areSamples s m args below meth c D Y ad (PA ad) 0 0 21 (MQ below (va_Qi K (BB D Y ad) (PA ad)) args s 0 0 (PA ad)) 120 [(0, .ref (ad 0)), (2, .int a2), (3, .int a3), (4, .int a4), (5, .int a5), (6, .int a6), (7, .int a7), (8, .int a8), (9, .int a9), (10, .int a10), (11, .int a11), (12, .int a12), (13, .int a13), (14, .int a14), (15, .int a15), (16, .int a16), (17, .int a17)] [] μ)  (hX : x_L_areSamples_L208 K B a2 a3 a4 a5 a6 a7 a8 a9 a10 a11 a12 a13 a14 a17 a18 a20 as0 μ) : J p l e rm_L_areSamples s m args below meth c D Y ad (PA ad) 0 0 21 (MQ below (va_Qi K (BB D Y ad) (PA ad)) args s 0 0 (PA ad)) 208 [(0, .ref (ad 0)), (2, .int a2), (3, .int a3), (4, .int a4), (5, .int a5), (6, .int a6), (7, .int a7), (8, .int a8), (9, .int a9), (10, .int a10), (11, .int a11), (12, .int a12), (13, .int a13), (14, .int a14), (17, .int a17), (18, .int a18), (20, .int a20)] [.int as0] μ := by
  refine j_istore C0 [(15, .int as0), (0, .ref (ad 0)), (2, .int a2), (3, .int a3), (4, .int a4), (5, .int a5), (6, .int a6), (7, .int a7), (8, .int a8), (9, .int a9), (10, .int a10), (11, .int a11), (12, .int a12), (13, .int a13), (14, .int a14), (17, .int a17), (18, .int a18), (20, .int a20)] dL_areSamples_208 (by decide) rfl rfl ?_
  refine j_iload C0 10 dL_areSamples_210 rfl rfl ?_
  refine j_iload C0 17 dL_areSamples_212 rfl rfl ?_
  refine j_iadd C0 dL_areSamples_214 rfl ?_
  refine j_ldc C0 1000003 dL_areSamples_215 hw_L_areSamples_0 rfl ?_
  refine j_irem C0 dL_areSamples_217 (by decide) rfl ?_
  refine j_topi (fun v65 e_v65 => ?_)
  have hX := hX v65 e_v65
  refine j_istore C0 [(10, .int v65), (15, .int as0), (0, .ref (ad 0)), (2, .int a2), (3, .int a3), (4, .int a4), (5, .int a5), (6, .int a6), (7, .int a7), (8, .int a8), (9, .int a9), (11, .int a11), (12, .int a12), (13, .int a13), (14, .int a14), (17, .int a17), (18, .int a18), (20, .int a20)] dL_areSamples_218 (by decide) rfl rfl ?_
  refine j_iload C0 11 dL_areSamples_220 rfl rfl ?_
  refine j_iload C0 12 dL_areSamples_222 rfl rfl ?_
  refine j_if_lt C0 (tgt := 238) dL_areSamples_224 (by decide) rfl (fun c66 => ?_) (fun c66 => ?_)
  · have hX := hX.1 c66
    exact j_sub (l' := [(0, .ref (ad 0)), (2, .int a2), (3, .int a3), (4, .int a4), (5, .int a5), (6, .int a6), (7, .int a7), (8, .int a8), (9, .int a9), (10, .int v65), (13, .int a13), (14, .int a14), (15, .int as0), (17, .int a17), (18, .int a18), (20, .int a20)]) [2, 3, 4, 5, 6, 7, 8, 9, 10, 0, 13, 14, 1, 15, 16, 17] rfl (w_L_areSamples_L238 C0 hlk hret a2 a3 a4 a5 a6 a7 a8 a9 v65 a13 a14 as0 a17 a18 a20 a11 μ K B hB  hX)
  · have hX := hX.2 c66
    refine j_iload C0 17 dL_areSamples_227 rfl rfl ?_
    refine j_iload C0 12 dL_areSamples_229 rfl rfl ?_
    refine j_icmp_le C0 (tgt := 238) dL_areSamples_231 (by decide) rfl (fun c86 => ?_) (fun c86 => ?_)
    · have hX := hX.1 c86
      exact j_sub (l' := [(0, .ref (ad 0)), (2, .int a2), (3, .int a3), (4, .int a4), (5, .int a5), (6, .int a6), (7, .int a7), (8, .int a8), (9, .int a9), (10, .int v65), (13, .int a13), (14, .int a14), (15, .int as0), (17, .int a17), (18, .int a18), (20, .int a20)]) [2, 3, 4, 5, 6, 7, 8, 9, 10, 0, 13, 14, 1, 15, 16, 17] rfl (w_L_areSamples_L238 C0 hlk hret a2 a3 a4 a5 a6 a7 a8 a9 v65 a13 a14 as0 a17 a18 a20 a11 μ K B hB  hX)
    · have hX := hX.2 c86
      refine j_iconst C0 1 dL_areSamples_234 (by decide) rfl ?_
      refine j_goto C0 (tgt := 239) dL_areSamples_235 (by decide) ?_
      exact j_sub (l' := [(0, .ref (ad 0)), (2, .int a2), (3, .int a3), (4, .int a4), (5, .int a5), (6, .int a6), (7, .int a7), (8, .int a8), (9, .int a9), (10, .int v65), (13, .int a13), (14, .int a14), (15, .int as0), (17, .int a17), (18, .int a18), (20, .int a20)]) [2, 3, 4, 5, 6, 7, 8, 9, 10, 0, 13, 14, 1, 15, 16, 17] rfl (w_L_areSamples_L239 C0 hlk hret a2 a3 a4 a5 a6 a7 a8 a9 v65 a13 a14 as0 a17 a18 a20 1 a11 μ K B hB  hX)
def x_L_areSamples_L206 (K : Int32 → Mem → Prop) (B : Int32 → Int32 → Int32 → Int32 → Int32 → Int32 → Int32 → Int32 → Int32 → Int32 → Int32 → Int32 → Int32 → Int32 → Int32 → Int32 → Mem → Prop) (a2 : Int32) (a3 : Int32) (a4 : Int32) (a5 : Int32) (a6 : Int32) (a7 : Int32) (a8 : Int32) (a9 : Int32) (a10 : Int32) (a11 : Int32) (a12 : Int32) (a13 : Int32) (a14 : Int32) (a15 : Int32) (a17 : Int32) (a18 : Int32) (a20 : Int32) (μ : Mem) : Prop :=
  x_L_areSamples_L208 K B a2 a3 a4 a5 a6 a7 a8 a9 a10 a11 a12 a13 a14 a17 a18 a20 a15 μ
set_option maxRecDepth 20000 in
theorem w_L_areSamples_L206 {p : Program} {l : Launch} {e : Env} {s : State} {m : MethodId} {args : Array Value} {below : List Frame} {meth : Method} {c : Code} {D : va_G} {Y : Nat → ClassId} {ad : Nat → Nat} (C0 : CX D Y ad (PA ad) rm_L_areSamples 0 0 p s args m c cL_areSamples 21 RL wsL_areSamples) (hlk : meth.locks = false) (hret : meth.sig.returnType = (some .boolean)) (a2 : Int32) (a3 : Int32) (a4 : Int32) (a5 : Int32) (a6 : Int32) (a7 : Int32) (a8 : Int32) (a9 : Int32) (a10 : Int32) (a11 : Int32) (a12 : Int32) (a13 : Int32) (a14 : Int32) (a15 : Int32) (a17 : Int32) (a18 : Int32) (a20 : Int32) (μ : Mem) (K : Int32 → Mem → Prop) (B : Int32 → Int32 → Int32 → Int32 → Int32 → Int32 → Int32 → Int32 → Int32 → Int32 → Int32 → Int32 → Int32 → Int32 → Int32 → Int32 → Mem → Prop) (hB : ∀ (a2 : Int32) (a3 : Int32) (a4 : Int32) (a5 : Int32) (a6 : Int32) (a7 : Int32) (a8 : Int32) (a9 : Int32) (a10 : Int32) (a11 : Int32) (a12 : Int32) (a13 : Int32) (a14 : Int32) (a15 : Int32) (a16 : Int32) (a17 : Int32) (μ : Mem), B a2 a3 a4 a5 a6 a7 a8 a9 a10 a11 a12 a13 a14 a15 a16 a17 μ → J p l e rm_L_areSamples s m args below meth c D Y ad (PA ad) 0 0 21 (MQ below (va_Qi K (BB D Y ad) (PA ad)) args s 0 0 (PA ad)) 120 [(0, .ref (ad 0)), (2, .int a2), (3, .int a3), (4, .int a4), (5, .int a5), (6, .int a6), (7, .int a7), (8, .int a8), (9, .int a9), (10, .int a10), (11, .int a11), (12, .int a12), (13, .int a13), (14, .int a14), (15, .int a15), (16, .int a16), (17, .int a17)] [] μ)  (hX : x_L_areSamples_L206 K B a2 a3 a4 a5 a6 a7 a8 a9 a10 a11 a12 a13 a14 a15 a17 a18 a20 μ) : J p l e rm_L_areSamples s m args below meth c D Y ad (PA ad) 0 0 21 (MQ below (va_Qi K (BB D Y ad) (PA ad)) args s 0 0 (PA ad)) 206 [(0, .ref (ad 0)), (2, .int a2), (3, .int a3), (4, .int a4), (5, .int a5), (6, .int a6), (7, .int a7), (8, .int a8), (9, .int a9), (10, .int a10), (11, .int a11), (12, .int a12), (13, .int a13), (14, .int a14), (15, .int a15), (17, .int a17), (18, .int a18), (20, .int a20)] [] μ := by
  refine j_iload C0 14 dL_areSamples_206 rfl rfl ?_
  exact j_sub (l' := [(0, .ref (ad 0)), (2, .int a2), (3, .int a3), (4, .int a4), (5, .int a5), (6, .int a6), (7, .int a7), (8, .int a8), (9, .int a9), (10, .int a10), (11, .int a11), (12, .int a12), (13, .int a13), (14, .int a14), (17, .int a17), (18, .int a18), (20, .int a20)]) [0, 1, 2, 3, 4, 5, 6, 7, 8, 9, 10, 11, 12, 13, 15, 16, 17] rfl (w_L_areSamples_L208 C0 hlk hret a2 a3 a4 a5 a6 a7 a8 a9 a10 a11 a12 a13 a14 a17 a18 a20 a15 μ K B hB  hX)
def x_L_areSamples_L182 (K : Int32 → Mem → Prop) (B : Int32 → Int32 → Int32 → Int32 → Int32 → Int32 → Int32 → Int32 → Int32 → Int32 → Int32 → Int32 → Int32 → Int32 → Int32 → Int32 → Mem → Prop) (a2 : Int32) (a3 : Int32) (a4 : Int32) (a5 : Int32) (a6 : Int32) (a7 : Int32) (a8 : Int32) (a9 : Int32) (a10 : Int32) (a11 : Int32) (a12 : Int32) (a13 : Int32) (a15 : Int32) (a17 : Int32) (a18 : Int32) (a19 : Int32) (a20 : Int32) (as0 : Int32) (μ : Mem) : Prop :=
  (a15 = 0 → x_X5_count 2 μ (fun r63 μ62 => (r63 ≤ a19 → x_L_areSamples_L206 K B a2 a3 a4 a5 a6 a7 a8 a9 a10 a11 a12 a13 as0 a15 a17 a18 a20 μ62) ∧ (¬ (r63 ≤ a19) → x_L_areSamples_L208 K B a2 a3 a4 a5 a6 a7 a8 a9 a10 a11 a12 a13 as0 a17 a18 a20 (a17 + 1) μ62))) ∧ (¬ (a15 = 0) → x_L_areSamples_L206 K B a2 a3 a4 a5 a6 a7 a8 a9 a10 a11 a12 a13 as0 a15 a17 a18 a20 μ)
set_option maxRecDepth 20000 in
theorem w_L_areSamples_L182 {p : Program} {l : Launch} {e : Env} {s : State} {m : MethodId} {args : Array Value} {below : List Frame} {meth : Method} {c : Code} {D : va_G} {Y : Nat → ClassId} {ad : Nat → Nat} (C0 : CX D Y ad (PA ad) rm_L_areSamples 0 0 p s args m c cL_areSamples 21 RL wsL_areSamples) (hlk : meth.locks = false) (hret : meth.sig.returnType = (some .boolean)) (a2 : Int32) (a3 : Int32) (a4 : Int32) (a5 : Int32) (a6 : Int32) (a7 : Int32) (a8 : Int32) (a9 : Int32) (a10 : Int32) (a11 : Int32) (a12 : Int32) (a13 : Int32) (a15 : Int32) (a17 : Int32) (a18 : Int32) (a19 : Int32) (a20 : Int32) (as0 : Int32) (μ : Mem) (K : Int32 → Mem → Prop) (B : Int32 → Int32 → Int32 → Int32 → Int32 → Int32 → Int32 → Int32 → Int32 → Int32 → Int32 → Int32 → Int32 → Int32 → Int32 → Int32 → Mem → Prop) (hB : ∀ (a2 : Int32) (a3 : Int32) (a4 : Int32) (a5 : Int32) (a6 : Int32) (a7 : Int32) (a8 : Int32) (a9 : Int32) (a10 : Int32) (a11 : Int32) (a12 : Int32) (a13 : Int32) (a14 : Int32) (a15 : Int32) (a16 : Int32) (a17 : Int32) (μ : Mem), B a2 a3 a4 a5 a6 a7 a8 a9 a10 a11 a12 a13 a14 a15 a16 a17 μ → J p l e rm_L_areSamples s m args below meth c D Y ad (PA ad) 0 0 21 (MQ below (va_Qi K (BB D Y ad) (PA ad)) args s 0 0 (PA ad)) 120 [(0, .ref (ad 0)), (2, .int a2), (3, .int a3), (4, .int a4), (5, .int a5), (6, .int a6), (7, .int a7), (8, .int a8), (9, .int a9), (10, .int a10), (11, .int a11), (12, .int a12), (13, .int a13), (14, .int a14), (15, .int a15), (16, .int a16), (17, .int a17)] [] μ)  (hX : x_L_areSamples_L182 K B a2 a3 a4 a5 a6 a7 a8 a9 a10 a11 a12 a13 a15 a17 a18 a19 a20 as0 μ) : J p l e rm_L_areSamples s m args below meth c D Y ad (PA ad) 0 0 21 (MQ below (va_Qi K (BB D Y ad) (PA ad)) args s 0 0 (PA ad)) 182 [(0, .ref (ad 0)), (2, .int a2), (3, .int a3), (4, .int a4), (5, .int a5), (6, .int a6), (7, .int a7), (8, .int a8), (9, .int a9), (10, .int a10), (11, .int a11), (12, .int a12), (13, .int a13), (15, .int a15), (17, .int a17), (18, .int a18), (19, .int a19), (20, .int a20)] [.int as0] μ := by
  refine j_istore C0 [(14, .int as0), (0, .ref (ad 0)), (2, .int a2), (3, .int a3), (4, .int a4), (5, .int a5), (6, .int a6), (7, .int a7), (8, .int a8), (9, .int a9), (10, .int a10), (11, .int a11), (12, .int a12), (13, .int a13), (15, .int a15), (17, .int a17), (18, .int a18), (19, .int a19), (20, .int a20)] dL_areSamples_182 (by decide) rfl rfl ?_
  refine j_iload C0 14 dL_areSamples_184 rfl rfl ?_
  refine j_if_ne C0 (tgt := 206) dL_areSamples_186 (by decide) rfl (fun c61 => ?_) (fun c61 => ?_)
  · have hX := hX.1 c61
    refine j_aload_n C0 1 dL_areSamples_189 rfl rfl rfl ?_
    refine j_iconst C0 2 dL_areSamples_190 (by decide) rfl ?_
    refine j_callVi C0 1 [.int 2] (c_X5_count 2  hX) dL_areSamples_191 gL_areSamples_X5_count rfl (by decide +kernel) ⟨⟨Nat.le_of_ble_eq_true rfl, Nat.le_of_ble_eq_true rfl⟩, rfl, rfl⟩ (kd_lt (rfl : kd 0 = 5) (by decide)) (ce5 (rfl : kd 0 = 5)) rfl rfl rfl (Nat.le_of_ble_eq_true rfl) rfl (fun r63 μ62 hX => ?_)
    refine j_iload C0 17 dL_areSamples_194 rfl rfl ?_
    refine j_icmp_le C0 (tgt := 206) dL_areSamples_196 (by decide) rfl (fun c64 => ?_) (fun c64 => ?_)
    · have hX := hX.1 c64
      exact j_sub (l' := [(0, .ref (ad 0)), (2, .int a2), (3, .int a3), (4, .int a4), (5, .int a5), (6, .int a6), (7, .int a7), (8, .int a8), (9, .int a9), (10, .int a10), (11, .int a11), (12, .int a12), (13, .int a13), (14, .int as0), (15, .int a15), (17, .int a17), (18, .int a18), (20, .int a20)]) [1, 2, 3, 4, 5, 6, 7, 8, 9, 10, 11, 12, 13, 0, 14, 15, 16, 18] rfl (w_L_areSamples_L206 C0 hlk hret a2 a3 a4 a5 a6 a7 a8 a9 a10 a11 a12 a13 as0 a15 a17 a18 a20 μ62 K B hB  hX)
    · have hX := hX.2 c64
      refine j_iload C0 15 dL_areSamples_199 rfl rfl ?_
      refine j_iconst C0 1 dL_areSamples_201 (by decide) rfl ?_
      refine j_iadd C0 dL_areSamples_202 rfl ?_
      refine j_goto C0 (tgt := 208) dL_areSamples_203 (by decide) ?_
      exact j_sub (l' := [(0, .ref (ad 0)), (2, .int a2), (3, .int a3), (4, .int a4), (5, .int a5), (6, .int a6), (7, .int a7), (8, .int a8), (9, .int a9), (10, .int a10), (11, .int a11), (12, .int a12), (13, .int a13), (14, .int as0), (17, .int a17), (18, .int a18), (20, .int a20)]) [1, 2, 3, 4, 5, 6, 7, 8, 9, 10, 11, 12, 13, 0, 15, 16, 18] rfl (w_L_areSamples_L208 C0 hlk hret a2 a3 a4 a5 a6 a7 a8 a9 a10 a11 a12 a13 as0 a17 a18 a20 (a17 + 1) μ62 K B hB  hX)
  · have hX := hX.2 c61
    exact j_sub (l' := [(0, .ref (ad 0)), (2, .int a2), (3, .int a3), (4, .int a4), (5, .int a5), (6, .int a6), (7, .int a7), (8, .int a8), (9, .int a9), (10, .int a10), (11, .int a11), (12, .int a12), (13, .int a13), (14, .int as0), (15, .int a15), (17, .int a17), (18, .int a18), (20, .int a20)]) [1, 2, 3, 4, 5, 6, 7, 8, 9, 10, 11, 12, 13, 0, 14, 15, 16, 18] rfl (w_L_areSamples_L206 C0 hlk hret a2 a3 a4 a5 a6 a7 a8 a9 a10 a11 a12 a13 as0 a15 a17 a18 a20 μ K B hB  hX)
def x_L_areSamples_L166 (K : Int32 → Mem → Prop) (B : Int32 → Int32 → Int32 → Int32 → Int32 → Int32 → Int32 → Int32 → Int32 → Int32 → Int32 → Int32 → Int32 → Int32 → Int32 → Int32 → Mem → Prop) (a2 : Int32) (a3 : Int32) (a4 : Int32) (a5 : Int32) (a6 : Int32) (a7 : Int32) (a8 : Int32) (a9 : Int32) (a10 : Int32) (a11 : Int32) (a12 : Int32) (a14 : Int32) (a15 : Int32) (a17 : Int32) (a18 : Int32) (a19 : Int32) (a20 : Int32) (as0 : Int32) (μ : Mem) : Prop :=
  (a14 ≤ a20 → x_L_areSamples_L182 K B a2 a3 a4 a5 a6 a7 a8 a9 a10 a11 a12 as0 a15 a17 a18 a19 a20 a14 μ) ∧ (¬ (a14 ≤ a20) → x_L_areSamples_L182 K B a2 a3 a4 a5 a6 a7 a8 a9 a10 a11 a12 as0 a15 a17 a18 a19 a20 a20 μ)
set_option maxRecDepth 20000 in
theorem w_L_areSamples_L166 {p : Program} {l : Launch} {e : Env} {s : State} {m : MethodId} {args : Array Value} {below : List Frame} {meth : Method} {c : Code} {D : va_G} {Y : Nat → ClassId} {ad : Nat → Nat} (C0 : CX D Y ad (PA ad) rm_L_areSamples 0 0 p s args m c cL_areSamples 21 RL wsL_areSamples) (hlk : meth.locks = false) (hret : meth.sig.returnType = (some .boolean)) (a2 : Int32) (a3 : Int32) (a4 : Int32) (a5 : Int32) (a6 : Int32) (a7 : Int32) (a8 : Int32) (a9 : Int32) (a10 : Int32) (a11 : Int32) (a12 : Int32) (a14 : Int32) (a15 : Int32) (a17 : Int32) (a18 : Int32) (a19 : Int32) (a20 : Int32) (as0 : Int32) (μ : Mem) (K : Int32 → Mem → Prop) (B : Int32 → Int32 → Int32 → Int32 → Int32 → Int32 → Int32 → Int32 → Int32 → Int32 → Int32 → Int32 → Int32 → Int32 → Int32 → Int32 → Mem → Prop) (hB : ∀ (a2 : Int32) (a3 : Int32) (a4 : Int32) (a5 : Int32) (a6 : Int32) (a7 : Int32) (a8 : Int32) (a9 : Int32) (a10 : Int32) (a11 : Int32) (a12 : Int32) (a13 : Int32) (a14 : Int32) (a15 : Int32) (a16 : Int32) (a17 : Int32) (μ : Mem), B a2 a3 a4 a5 a6 a7 a8 a9 a10 a11 a12 a13 a14 a15 a16 a17 μ → J p l e rm_L_areSamples s m args below meth c D Y ad (PA ad) 0 0 21 (MQ below (va_Qi K (BB D Y ad) (PA ad)) args s 0 0 (PA ad)) 120 [(0, .ref (ad 0)), (2, .int a2), (3, .int a3), (4, .int a4), (5, .int a5), (6, .int a6), (7, .int a7), (8, .int a8), (9, .int a9), (10, .int a10), (11, .int a11), (12, .int a12), (13, .int a13), (14, .int a14), (15, .int a15), (16, .int a16), (17, .int a17)] [] μ)  (hX : x_L_areSamples_L166 K B a2 a3 a4 a5 a6 a7 a8 a9 a10 a11 a12 a14 a15 a17 a18 a19 a20 as0 μ) : J p l e rm_L_areSamples s m args below meth c D Y ad (PA ad) 0 0 21 (MQ below (va_Qi K (BB D Y ad) (PA ad)) args s 0 0 (PA ad)) 166 [(0, .ref (ad 0)), (2, .int a2), (3, .int a3), (4, .int a4), (5, .int a5), (6, .int a6), (7, .int a7), (8, .int a8), (9, .int a9), (10, .int a10), (11, .int a11), (12, .int a12), (14, .int a14), (15, .int a15), (17, .int a17), (18, .int a18), (19, .int a19), (20, .int a20)] [.int as0] μ := by
  refine j_istore C0 [(13, .int as0), (0, .ref (ad 0)), (2, .int a2), (3, .int a3), (4, .int a4), (5, .int a5), (6, .int a6), (7, .int a7), (8, .int a8), (9, .int a9), (10, .int a10), (11, .int a11), (12, .int a12), (14, .int a14), (15, .int a15), (17, .int a17), (18, .int a18), (19, .int a19), (20, .int a20)] dL_areSamples_166 (by decide) rfl rfl ?_
  refine j_iload C0 18 dL_areSamples_168 rfl rfl ?_
  refine j_iload C0 13 dL_areSamples_170 rfl rfl ?_
  refine j_icmp_ge C0 (tgt := 180) dL_areSamples_172 (by decide) rfl (fun c60 => ?_) (fun c60 => ?_)
  · have hX := hX.1 c60
    refine j_iload C0 13 dL_areSamples_180 rfl rfl ?_
    exact j_sub (l' := [(0, .ref (ad 0)), (2, .int a2), (3, .int a3), (4, .int a4), (5, .int a5), (6, .int a6), (7, .int a7), (8, .int a8), (9, .int a9), (10, .int a10), (11, .int a11), (12, .int a12), (13, .int as0), (15, .int a15), (17, .int a17), (18, .int a18), (19, .int a19), (20, .int a20)]) [1, 2, 3, 4, 5, 6, 7, 8, 9, 10, 11, 12, 0, 14, 15, 16, 17, 18] rfl (w_L_areSamples_L182 C0 hlk hret a2 a3 a4 a5 a6 a7 a8 a9 a10 a11 a12 as0 a15 a17 a18 a19 a20 a14 μ K B hB  hX)
  · have hX := hX.2 c60
    refine j_iload C0 18 dL_areSamples_175 rfl rfl ?_
    refine j_goto C0 (tgt := 182) dL_areSamples_177 (by decide) ?_
    exact j_sub (l' := [(0, .ref (ad 0)), (2, .int a2), (3, .int a3), (4, .int a4), (5, .int a5), (6, .int a6), (7, .int a7), (8, .int a8), (9, .int a9), (10, .int a10), (11, .int a11), (12, .int a12), (13, .int as0), (15, .int a15), (17, .int a17), (18, .int a18), (19, .int a19), (20, .int a20)]) [1, 2, 3, 4, 5, 6, 7, 8, 9, 10, 11, 12, 0, 14, 15, 16, 17, 18] rfl (w_L_areSamples_L182 C0 hlk hret a2 a3 a4 a5 a6 a7 a8 a9 a10 a11 a12 as0 a15 a17 a18 a19 a20 a20 μ K B hB  hX)
def xb_L_areSamples_L120 (K : Int32 → Mem → Prop) (B : Int32 → Int32 → Int32 → Int32 → Int32 → Int32 → Int32 → Int32 → Int32 → Int32 → Int32 → Int32 → Int32 → Int32 → Int32 → Int32 → Mem → Prop) (a2 : Int32) (a3 : Int32) (a4 : Int32) (a5 : Int32) (a6 : Int32) (a7 : Int32) (a8 : Int32) (a9 : Int32) (a10 : Int32) (a11 : Int32) (a12 : Int32) (a13 : Int32) (a14 : Int32) (a15 : Int32) (a16 : Int32) (a17 : Int32) (μ : Mem) : Prop :=
  (a2 ≤ a17 → x_L_areSamples_L320 K a2 a3 a4 a5 a6 a7 a8 a9 a10 a11 a12 a13 a14 a15 a16 μ) ∧ (¬ (a2 ≤ a17) → (a16 = 0 → x_L_areSamples_L320 K a2 a3 a4 a5 a6 a7 a8 a9 a10 a11 a12 a13 a14 a15 a16 μ) ∧ (¬ (a16 = 0) → x_X5_count 4 μ (fun r54 μ53 => x_X5_count 2 μ53 (fun r56 μ55 => x_X5_make 1 μ55 (fun r58 μ57 => (r58 ≤ a13 → x_L_areSamples_L166 K B a2 a3 a4 a5 a6 a7 a8 a9 a10 a11 a12 a14 a15 a17 r54 r56 r58 a13 μ57) ∧ (¬ (r58 ≤ a13) → x_L_areSamples_L166 K B a2 a3 a4 a5 a6 a7 a8 a9 a10 a11 a12 a14 a15 a17 r54 r56 r58 r58 μ57))))))
def x_L_areSamples_L120 (K : Int32 → Mem → Prop) : Nat → Int32 → Int32 → Int32 → Int32 → Int32 → Int32 → Int32 → Int32 → Int32 → Int32 → Int32 → Int32 → Int32 → Int32 → Int32 → Int32 → Mem → Prop
  | 0 => fun _ _ _ _ _ _ _ _ _ _ _ _ _ _ _ _ _ => False
  | n + 1 => fun a2 a3 a4 a5 a6 a7 a8 a9 a10 a11 a12 a13 a14 a15 a16 a17 μ => xb_L_areSamples_L120 K (x_L_areSamples_L120 K n) a2 a3 a4 a5 a6 a7 a8 a9 a10 a11 a12 a13 a14 a15 a16 a17 μ
set_option maxRecDepth 20000 in
theorem wb_L_areSamples_L120 {p : Program} {l : Launch} {e : Env} {s : State} {m : MethodId} {args : Array Value} {below : List Frame} {meth : Method} {c : Code} {D : va_G} {Y : Nat → ClassId} {ad : Nat → Nat} (C0 : CX D Y ad (PA ad) rm_L_areSamples 0 0 p s args m c cL_areSamples 21 RL wsL_areSamples) (hlk : meth.locks = false) (hret : meth.sig.returnType = (some .boolean)) (a2 : Int32) (a3 : Int32) (a4 : Int32) (a5 : Int32) (a6 : Int32) (a7 : Int32) (a8 : Int32) (a9 : Int32) (a10 : Int32) (a11 : Int32) (a12 : Int32) (a13 : Int32) (a14 : Int32) (a15 : Int32) (a16 : Int32) (a17 : Int32) (μ : Mem) (K : Int32 → Mem → Prop) (B : Int32 → Int32 → Int32 → Int32 → Int32 → Int32 → Int32 → Int32 → Int32 → Int32 → Int32 → Int32 → Int32 → Int32 → Int32 → Int32 → Mem → Prop) (hB : ∀ (a2 : Int32) (a3 : Int32) (a4 : Int32) (a5 : Int32) (a6 : Int32) (a7 : Int32) (a8 : Int32) (a9 : Int32) (a10 : Int32) (a11 : Int32) (a12 : Int32) (a13 : Int32) (a14 : Int32) (a15 : Int32) (a16 : Int32) (a17 : Int32) (μ : Mem), B a2 a3 a4 a5 a6 a7 a8 a9 a10 a11 a12 a13 a14 a15 a16 a17 μ → J p l e rm_L_areSamples s m args below meth c D Y ad (PA ad) 0 0 21 (MQ below (va_Qi K (BB D Y ad) (PA ad)) args s 0 0 (PA ad)) 120 [(0, .ref (ad 0)), (2, .int a2), (3, .int a3), (4, .int a4), (5, .int a5), (6, .int a6), (7, .int a7), (8, .int a8), (9, .int a9), (10, .int a10), (11, .int a11), (12, .int a12), (13, .int a13), (14, .int a14), (15, .int a15), (16, .int a16), (17, .int a17)] [] μ)  (hX : xb_L_areSamples_L120 K B a2 a3 a4 a5 a6 a7 a8 a9 a10 a11 a12 a13 a14 a15 a16 a17 μ) : J p l e rm_L_areSamples s m args below meth c D Y ad (PA ad) 0 0 21 (MQ below (va_Qi K (BB D Y ad) (PA ad)) args s 0 0 (PA ad)) 120 [(0, .ref (ad 0)), (2, .int a2), (3, .int a3), (4, .int a4), (5, .int a5), (6, .int a6), (7, .int a7), (8, .int a8), (9, .int a9), (10, .int a10), (11, .int a11), (12, .int a12), (13, .int a13), (14, .int a14), (15, .int a15), (16, .int a16), (17, .int a17)] [] μ := by
  refine j_iload C0 16 dL_areSamples_120 rfl rfl ?_
  refine j_iload_n C0 1 dL_areSamples_122 rfl rfl rfl ?_
  refine j_icmp_ge C0 (tgt := 320) dL_areSamples_123 (by decide) rfl (fun c24 => ?_) (fun c24 => ?_)
  · have hX := hX.1 c24
    exact j_sub (l' := [(0, .ref (ad 0)), (2, .int a2), (3, .int a3), (4, .int a4), (5, .int a5), (6, .int a6), (7, .int a7), (8, .int a8), (9, .int a9), (10, .int a10), (11, .int a11), (12, .int a12), (13, .int a13), (14, .int a14), (15, .int a15), (16, .int a16)]) [0, 1, 2, 3, 4, 5, 6, 7, 8, 9, 10, 11, 12, 13, 14, 15] rfl (w_L_areSamples_L320 C0 hlk hret a2 a3 a4 a5 a6 a7 a8 a9 a10 a11 a12 a13 a14 a15 a16 μ K  hX)
  · have hX := hX.2 c24
    refine j_iload C0 15 dL_areSamples_126 rfl rfl ?_
    refine j_if_eq C0 (tgt := 320) dL_areSamples_128 (by decide) rfl (fun c52 => ?_) (fun c52 => ?_)
    · have hX := hX.1 c52
      exact j_sub (l' := [(0, .ref (ad 0)), (2, .int a2), (3, .int a3), (4, .int a4), (5, .int a5), (6, .int a6), (7, .int a7), (8, .int a8), (9, .int a9), (10, .int a10), (11, .int a11), (12, .int a12), (13, .int a13), (14, .int a14), (15, .int a15), (16, .int a16)]) [0, 1, 2, 3, 4, 5, 6, 7, 8, 9, 10, 11, 12, 13, 14, 15] rfl (w_L_areSamples_L320 C0 hlk hret a2 a3 a4 a5 a6 a7 a8 a9 a10 a11 a12 a13 a14 a15 a16 μ K  hX)
    · have hX := hX.2 c52
      refine j_aload_n C0 0 dL_areSamples_131 rfl rfl rfl ?_
      refine j_iconst C0 4 dL_areSamples_132 (by decide) rfl ?_
      refine j_callVi C0 1 [.int 4] (c_X5_count 4  hX) dL_areSamples_133 gL_areSamples_X5_count rfl (by decide +kernel) ⟨⟨Nat.le_of_ble_eq_true rfl, Nat.le_of_ble_eq_true rfl⟩, rfl, rfl⟩ (kd_lt (rfl : kd 0 = 5) (by decide)) (ce5 (rfl : kd 0 = 5)) rfl rfl rfl (Nat.le_of_ble_eq_true rfl) rfl (fun r54 μ53 hX => ?_)
      refine j_istore C0 [(18, .int r54), (0, .ref (ad 0)), (2, .int a2), (3, .int a3), (4, .int a4), (5, .int a5), (6, .int a6), (7, .int a7), (8, .int a8), (9, .int a9), (10, .int a10), (11, .int a11), (12, .int a12), (13, .int a13), (14, .int a14), (15, .int a15), (16, .int a16), (17, .int a17)] dL_areSamples_136 (by decide) rfl rfl ?_
      refine j_aload_n C0 1 dL_areSamples_138 rfl rfl rfl ?_
      refine j_iconst C0 2 dL_areSamples_139 (by decide) rfl ?_
      refine j_callVi C0 1 [.int 2] (c_X5_count 2  hX) dL_areSamples_140 gL_areSamples_X5_count rfl (by decide +kernel) ⟨⟨Nat.le_of_ble_eq_true rfl, Nat.le_of_ble_eq_true rfl⟩, rfl, rfl⟩ (kd_lt (rfl : kd 0 = 5) (by decide)) (ce5 (rfl : kd 0 = 5)) rfl rfl rfl (Nat.le_of_ble_eq_true rfl) rfl (fun r56 μ55 hX => ?_)
      refine j_istore C0 [(19, .int r56), (18, .int r54), (0, .ref (ad 0)), (2, .int a2), (3, .int a3), (4, .int a4), (5, .int a5), (6, .int a6), (7, .int a7), (8, .int a8), (9, .int a9), (10, .int a10), (11, .int a11), (12, .int a12), (13, .int a13), (14, .int a14), (15, .int a15), (16, .int a16), (17, .int a17)] dL_areSamples_143 (by decide) rfl rfl ?_
      refine j_aload_n C0 2 dL_areSamples_145 rfl rfl rfl ?_
      refine j_iconst C0 1 dL_areSamples_146 (by decide) rfl ?_
      refine j_callVi C0 1 [.int 1] (c_X5_make 1  hX) dL_areSamples_147 gL_areSamples_X5_make rfl (by decide +kernel) ⟨⟨Nat.le_of_ble_eq_true rfl, Nat.le_of_ble_eq_true rfl⟩, rfl, rfl⟩ (kd_lt (rfl : kd 0 = 5) (by decide)) (ce5 (rfl : kd 0 = 5)) rfl rfl rfl (Nat.le_of_ble_eq_true rfl) rfl (fun r58 μ57 hX => ?_)
      refine j_istore C0 [(20, .int r58), (19, .int r56), (18, .int r54), (0, .ref (ad 0)), (2, .int a2), (3, .int a3), (4, .int a4), (5, .int a5), (6, .int a6), (7, .int a7), (8, .int a8), (9, .int a9), (10, .int a10), (11, .int a11), (12, .int a12), (13, .int a13), (14, .int a14), (15, .int a15), (16, .int a16), (17, .int a17)] dL_areSamples_150 (by decide) rfl rfl ?_
      refine j_iload C0 0 dL_areSamples_152 rfl rfl ?_
      refine j_iload C0 15 dL_areSamples_154 rfl rfl ?_
      refine j_icmp_le C0 (tgt := 164) dL_areSamples_156 (by decide) rfl (fun c59 => ?_) (fun c59 => ?_)
      · have hX := hX.1 c59
        refine j_iload C0 15 dL_areSamples_164 rfl rfl ?_
        exact j_sub (l' := [(0, .ref (ad 0)), (2, .int a2), (3, .int a3), (4, .int a4), (5, .int a5), (6, .int a6), (7, .int a7), (8, .int a8), (9, .int a9), (10, .int a10), (11, .int a11), (12, .int a12), (14, .int a14), (15, .int a15), (17, .int a17), (18, .int r54), (19, .int r56), (20, .int r58)]) [3, 4, 5, 6, 7, 8, 9, 10, 11, 12, 13, 14, 16, 17, 19, 2, 1, 0] rfl (w_L_areSamples_L166 C0 hlk hret a2 a3 a4 a5 a6 a7 a8 a9 a10 a11 a12 a14 a15 a17 r54 r56 r58 a13 μ57 K B hB  hX)
      · have hX := hX.2 c59
        refine j_iload C0 0 dL_areSamples_159 rfl rfl ?_
        refine j_goto C0 (tgt := 166) dL_areSamples_161 (by decide) ?_
        exact j_sub (l' := [(0, .ref (ad 0)), (2, .int a2), (3, .int a3), (4, .int a4), (5, .int a5), (6, .int a6), (7, .int a7), (8, .int a8), (9, .int a9), (10, .int a10), (11, .int a11), (12, .int a12), (14, .int a14), (15, .int a15), (17, .int a17), (18, .int r54), (19, .int r56), (20, .int r58)]) [3, 4, 5, 6, 7, 8, 9, 10, 11, 12, 13, 14, 16, 17, 19, 2, 1, 0] rfl (w_L_areSamples_L166 C0 hlk hret a2 a3 a4 a5 a6 a7 a8 a9 a10 a11 a12 a14 a15 a17 r54 r56 r58 r58 μ57 K B hB  hX)
theorem w_L_areSamples_L120 {p : Program} {l : Launch} {e : Env} {s : State} {m : MethodId} {args : Array Value} {below : List Frame} {meth : Method} {c : Code} {D : va_G} {Y : Nat → ClassId} {ad : Nat → Nat} (C0 : CX D Y ad (PA ad) rm_L_areSamples 0 0 p s args m c cL_areSamples 21 RL wsL_areSamples) (hlk : meth.locks = false) (hret : meth.sig.returnType = (some .boolean)) (K : Int32 → Mem → Prop) : ∀ (n : Nat) (a2 : Int32) (a3 : Int32) (a4 : Int32) (a5 : Int32) (a6 : Int32) (a7 : Int32) (a8 : Int32) (a9 : Int32) (a10 : Int32) (a11 : Int32) (a12 : Int32) (a13 : Int32) (a14 : Int32) (a15 : Int32) (a16 : Int32) (a17 : Int32) (μ : Mem)  (hX : x_L_areSamples_L120 K n a2 a3 a4 a5 a6 a7 a8 a9 a10 a11 a12 a13 a14 a15 a16 a17 μ), J p l e rm_L_areSamples s m args below meth c D Y ad (PA ad) 0 0 21 (MQ below (va_Qi K (BB D Y ad) (PA ad)) args s 0 0 (PA ad)) 120 [(0, .ref (ad 0)), (2, .int a2), (3, .int a3), (4, .int a4), (5, .int a5), (6, .int a6), (7, .int a7), (8, .int a8), (9, .int a9), (10, .int a10), (11, .int a11), (12, .int a12), (13, .int a13), (14, .int a14), (15, .int a15), (16, .int a16), (17, .int a17)] [] μ
  | 0, a2, a3, a4, a5, a6, a7, a8, a9, a10, a11, a12, a13, a14, a15, a16, a17, μ, hX => hX.elim
  | n + 1, a2, a3, a4, a5, a6, a7, a8, a9, a10, a11, a12, a13, a14, a15, a16, a17, μ, hX => wb_L_areSamples_L120 C0 hlk hret a2 a3 a4 a5 a6 a7 a8 a9 a10 a11 a12 a13 a14 a15 a16 a17 μ K (x_L_areSamples_L120 K n) (fun a2 a3 a4 a5 a6 a7 a8 a9 a10 a11 a12 a13 a14 a15 a16 a17 μ  hx => w_L_areSamples_L120 C0 hlk hret K n a2 a3 a4 a5 a6 a7 a8 a9 a10 a11 a12 a13 a14 a15 a16 a17 μ  hx)  hX
def x_L_areSamples_L115 (K : Int32 → Mem → Prop) (a2 : Int32) (a3 : Int32) (a4 : Int32) (a5 : Int32) (a6 : Int32) (a7 : Int32) (a8 : Int32) (a9 : Int32) (a10 : Int32) (a11 : Int32) (a12 : Int32) (a13 : Int32) (a14 : Int32) (a15 : Int32) (as0 : Int32) (μ : Mem) : Prop :=
  ∃ n : Nat, x_L_areSamples_L120 K n a2 a3 a4 a5 a6 a7 a8 a9 a10 a11 a12 a13 a14 a15 as0 0 μ
set_option maxRecDepth 20000 in
theorem w_L_areSamples_L115 {p : Program} {l : Launch} {e : Env} {s : State} {m : MethodId} {args : Array Value} {below : List Frame} {meth : Method} {c : Code} {D : va_G} {Y : Nat → ClassId} {ad : Nat → Nat} (C0 : CX D Y ad (PA ad) rm_L_areSamples 0 0 p s args m c cL_areSamples 21 RL wsL_areSamples) (hlk : meth.locks = false) (hret : meth.sig.returnType = (some .boolean)) (a2 : Int32) (a3 : Int32) (a4 : Int32) (a5 : Int32) (a6 : Int32) (a7 : Int32) (a8 : Int32) (a9 : Int32) (a10 : Int32) (a11 : Int32) (a12 : Int32) (a13 : Int32) (a14 : Int32) (a15 : Int32) (as0 : Int32) (μ : Mem) (K : Int32 → Mem → Prop)  (hX : x_L_areSamples_L115 K a2 a3 a4 a5 a6 a7 a8 a9 a10 a11 a12 a13 a14 a15 as0 μ) : J p l e rm_L_areSamples s m args below meth c D Y ad (PA ad) 0 0 21 (MQ below (va_Qi K (BB D Y ad) (PA ad)) args s 0 0 (PA ad)) 115 [(0, .ref (ad 0)), (2, .int a2), (3, .int a3), (4, .int a4), (5, .int a5), (6, .int a6), (7, .int a7), (8, .int a8), (9, .int a9), (10, .int a10), (11, .int a11), (12, .int a12), (13, .int a13), (14, .int a14), (15, .int a15)] [.int as0] μ := by
  refine j_istore C0 [(16, .int as0), (0, .ref (ad 0)), (2, .int a2), (3, .int a3), (4, .int a4), (5, .int a5), (6, .int a6), (7, .int a7), (8, .int a8), (9, .int a9), (10, .int a10), (11, .int a11), (12, .int a12), (13, .int a13), (14, .int a14), (15, .int a15)] dL_areSamples_115 (by decide) rfl rfl ?_
  refine j_iconst C0 0 dL_areSamples_117 (by decide) rfl ?_
  refine j_istore C0 [(17, .int 0), (16, .int as0), (0, .ref (ad 0)), (2, .int a2), (3, .int a3), (4, .int a4), (5, .int a5), (6, .int a6), (7, .int a7), (8, .int a8), (9, .int a9), (10, .int a10), (11, .int a11), (12, .int a12), (13, .int a13), (14, .int a14), (15, .int a15)] dL_areSamples_118 (by decide) rfl rfl ?_
  obtain ⟨n, hX⟩ := hX
  exact j_sub (l' := [(0, .ref (ad 0)), (2, .int a2), (3, .int a3), (4, .int a4), (5, .int a5), (6, .int a6), (7, .int a7), (8, .int a8), (9, .int a9), (10, .int a10), (11, .int a11), (12, .int a12), (13, .int a13), (14, .int a14), (15, .int a15), (16, .int as0), (17, .int 0)]) [2, 3, 4, 5, 6, 7, 8, 9, 10, 11, 12, 13, 14, 15, 16, 1, 0] rfl (w_L_areSamples_L120 C0 hlk hret K n a2 a3 a4 a5 a6 a7 a8 a9 a10 a11 a12 a13 a14 a15 as0 0 μ  hX)
def x_L_areSamples_L87 (K : Int32 → Mem → Prop) (a2 : Int32) (a3 : Int32) (a4 : Int32) (a5 : Int32) (a6 : Int32) (a7 : Int32) (a8 : Int32) (a9 : Int32) (a10 : Int32) (a11 : Int32) (as0 : Int32) (μ : Mem) : Prop :=
  x_X5_save 0 μ (fun r22 μ21 => (r22 = a8 → x_L_areSamples_L115 K a2 a3 a4 a5 a6 a7 a8 a9 a10 a11 as0 0 1000 0 1 μ21) ∧ (¬ (r22 = a8) → x_L_areSamples_L115 K a2 a3 a4 a5 a6 a7 a8 a9 a10 a11 as0 0 1000 0 0 μ21))
set_option maxRecDepth 20000 in
theorem w_L_areSamples_L87 {p : Program} {l : Launch} {e : Env} {s : State} {m : MethodId} {args : Array Value} {below : List Frame} {meth : Method} {c : Code} {D : va_G} {Y : Nat → ClassId} {ad : Nat → Nat} (C0 : CX D Y ad (PA ad) rm_L_areSamples 0 0 p s args m c cL_areSamples 21 RL wsL_areSamples) (hlk : meth.locks = false) (hret : meth.sig.returnType = (some .boolean)) (a2 : Int32) (a3 : Int32) (a4 : Int32) (a5 : Int32) (a6 : Int32) (a7 : Int32) (a8 : Int32) (a9 : Int32) (a10 : Int32) (a11 : Int32) (as0 : Int32) (μ : Mem) (K : Int32 → Mem → Prop)  (hX : x_L_areSamples_L87 K a2 a3 a4 a5 a6 a7 a8 a9 a10 a11 as0 μ) : J p l e rm_L_areSamples s m args below meth c D Y ad (PA ad) 0 0 21 (MQ below (va_Qi K (BB D Y ad) (PA ad)) args s 0 0 (PA ad)) 87 [(0, .ref (ad 0)), (2, .int a2), (3, .int a3), (4, .int a4), (5, .int a5), (6, .int a6), (7, .int a7), (8, .int a8), (9, .int a9), (10, .int a10), (11, .int a11)] [.int as0] μ := by
  refine j_istore C0 [(12, .int as0), (0, .ref (ad 0)), (2, .int a2), (3, .int a3), (4, .int a4), (5, .int a5), (6, .int a6), (7, .int a7), (8, .int a8), (9, .int a9), (10, .int a10), (11, .int a11)] dL_areSamples_87 (by decide) rfl rfl ?_
  refine j_iconst C0 0 dL_areSamples_89 (by decide) rfl ?_
  refine j_istore C0 [(13, .int 0), (12, .int as0), (0, .ref (ad 0)), (2, .int a2), (3, .int a3), (4, .int a4), (5, .int a5), (6, .int a6), (7, .int a7), (8, .int a8), (9, .int a9), (10, .int a10), (11, .int a11)] dL_areSamples_90 (by decide) rfl rfl ?_
  refine j_sipush C0 1000 dL_areSamples_92 (by decide) rfl ?_
  refine j_istore C0 [(14, .int 1000), (13, .int 0), (12, .int as0), (0, .ref (ad 0)), (2, .int a2), (3, .int a3), (4, .int a4), (5, .int a5), (6, .int a6), (7, .int a7), (8, .int a8), (9, .int a9), (10, .int a10), (11, .int a11)] dL_areSamples_95 (by decide) rfl rfl ?_
  refine j_iconst C0 0 dL_areSamples_97 (by decide) rfl ?_
  refine j_istore C0 [(15, .int 0), (14, .int 1000), (13, .int 0), (12, .int as0), (0, .ref (ad 0)), (2, .int a2), (3, .int a3), (4, .int a4), (5, .int a5), (6, .int a6), (7, .int a7), (8, .int a8), (9, .int a9), (10, .int a10), (11, .int a11)] dL_areSamples_98 (by decide) rfl rfl ?_
  refine j_aload_n C0 4 dL_areSamples_100 rfl rfl rfl ?_
  refine j_iconst C0 0 dL_areSamples_101 (by decide) rfl ?_
  refine j_callVi C0 1 [.int 0] (c_X5_save 0  hX) dL_areSamples_102 gL_areSamples_X5_save rfl (by decide +kernel) ⟨⟨Nat.le_of_ble_eq_true rfl, Nat.le_of_ble_eq_true rfl⟩, rfl, rfl⟩ (kd_lt (rfl : kd 0 = 5) (by decide)) (ce5 (rfl : kd 0 = 5)) rfl rfl rfl (Nat.le_of_ble_eq_true rfl) rfl (fun r22 μ21 hX => ?_)
  refine j_iload C0 11 dL_areSamples_105 rfl rfl ?_
  refine j_icmp_ne C0 (tgt := 114) dL_areSamples_107 (by decide) rfl (fun c23 => ?_) (fun c23 => ?_)
  · have hX := hX.1 c23
    refine j_iconst C0 1 dL_areSamples_110 (by decide) rfl ?_
    refine j_goto C0 (tgt := 115) dL_areSamples_111 (by decide) ?_
    exact j_sub (l' := [(0, .ref (ad 0)), (2, .int a2), (3, .int a3), (4, .int a4), (5, .int a5), (6, .int a6), (7, .int a7), (8, .int a8), (9, .int a9), (10, .int a10), (11, .int a11), (12, .int as0), (13, .int 0), (14, .int 1000), (15, .int 0)]) [4, 5, 6, 7, 8, 9, 10, 11, 12, 13, 14, 3, 2, 1, 0] rfl (w_L_areSamples_L115 C0 hlk hret a2 a3 a4 a5 a6 a7 a8 a9 a10 a11 as0 0 1000 0 1 μ21 K  hX)
  · have hX := hX.2 c23
    refine j_iconst C0 0 dL_areSamples_114 (by decide) rfl ?_
    exact j_sub (l' := [(0, .ref (ad 0)), (2, .int a2), (3, .int a3), (4, .int a4), (5, .int a5), (6, .int a6), (7, .int a7), (8, .int a8), (9, .int a9), (10, .int a10), (11, .int a11), (12, .int as0), (13, .int 0), (14, .int 1000), (15, .int 0)]) [4, 5, 6, 7, 8, 9, 10, 11, 12, 13, 14, 3, 2, 1, 0] rfl (w_L_areSamples_L115 C0 hlk hret a2 a3 a4 a5 a6 a7 a8 a9 a10 a11 as0 0 1000 0 0 μ21 K  hX)
def x_L_areSamples (a1 : Int32) (μ : Mem) (K : Int32 → Mem → Prop) : Prop :=
  ∀ v1 : Int32, v1 = ((1 : Int32) + (a1 - a1 / 31 * 31)) → x_X5_ifMade v1 0 μ (fun r3 μ2 => x_X5_ifMade v1 1 μ2 (fun r5 μ4 => x_X5_ifMade v1 2 μ4 (fun r7 μ6 => x_X5_ifMade v1 3 μ6 (fun r9 μ8 => x_X5_untilClip  μ8 (fun r11 μ10 => x_X5_count 1 μ10 (fun r13 μ12 => x_X5_count 2 μ12 (fun r15 μ14 => x_X5_count 5 μ14 (fun r17 μ16 => x_X5_count 6 μ16 (fun r19 μ18 => (r13 ≤ 0 → x_L_areSamples_L87 K v1 r3 r5 r7 r9 r11 r13 r15 r17 r19 (-1) μ18) ∧ (¬ (r13 ≤ 0) → x_X5_sample 0 μ18 (fun r88 μ87 => x_L_areSamples_L87 K v1 r3 r5 r7 r9 r11 r13 r15 r17 r19 r88 μ87)))))))))))
set_option maxRecDepth 20000 in
theorem w_L_areSamples {p : Program} {l : Launch} {e : Env} {s : State} {m : MethodId} {args : Array Value} {below : List Frame} {meth : Method} {c : Code} {D : va_G} {Y : Nat → ClassId} {ad : Nat → Nat} (C0 : CX D Y ad (PA ad) rm_L_areSamples 0 0 p s args m c cL_areSamples 21 RL wsL_areSamples) (hlk : meth.locks = false) (hret : meth.sig.returnType = (some .boolean)) (a1 : Int32) (μ : Mem) (K : Int32 → Mem → Prop)  (hX : x_L_areSamples a1 μ K) : J p l e rm_L_areSamples s m args below meth c D Y ad (PA ad) 0 0 21 (MQ below (va_Qi K (BB D Y ad) (PA ad)) args s 0 0 (PA ad)) 0 [(0, .ref (ad 0)), (1, .int a1)] [] μ := by
  refine j_iconst C0 1 dL_areSamples_0 (by decide) rfl ?_
  refine j_iload_n C0 1 dL_areSamples_1 rfl rfl rfl ?_
  refine j_bipush C0 31 dL_areSamples_2 (by decide) rfl ?_
  refine j_irem C0 dL_areSamples_4 (by decide) rfl ?_
  refine j_iadd C0 dL_areSamples_5 rfl ?_
  refine j_topi (fun v1 e_v1 => ?_)
  have hX := hX v1 e_v1
  refine j_istore_n C0 [(2, .int v1), (0, .ref (ad 0)), (1, .int a1)] dL_areSamples_6 rfl (by decide) rfl rfl ?_
  refine j_aload_n C0 1 dL_areSamples_7 rfl rfl rfl ?_
  refine j_iload_n C0 0 dL_areSamples_8 rfl rfl rfl ?_
  refine j_iconst C0 0 dL_areSamples_9 (by decide) rfl ?_
  refine j_callVi C0 2 [.int v1, .int 0] (c_X5_ifMade v1 0  hX) dL_areSamples_10 gL_areSamples_X5_ifMade rfl (by decide +kernel) ⟨⟨Nat.le_of_ble_eq_true rfl, Nat.le_of_ble_eq_true rfl⟩, rfl, rfl⟩ (kd_lt (rfl : kd 0 = 5) (by decide)) (ce5 (rfl : kd 0 = 5)) rfl rfl rfl (Nat.le_of_ble_eq_true rfl) rfl (fun r3 μ2 hX => ?_)
  refine j_istore_n C0 [(3, .int r3), (2, .int v1), (0, .ref (ad 0)), (1, .int a1)] dL_areSamples_13 rfl (by decide) rfl rfl ?_
  refine j_aload_n C0 2 dL_areSamples_14 rfl rfl rfl ?_
  refine j_iload_n C0 1 dL_areSamples_15 rfl rfl rfl ?_
  refine j_iconst C0 1 dL_areSamples_16 (by decide) rfl ?_
  refine j_callVi C0 2 [.int v1, .int 1] (c_X5_ifMade v1 1  hX) dL_areSamples_17 gL_areSamples_X5_ifMade rfl (by decide +kernel) ⟨⟨Nat.le_of_ble_eq_true rfl, Nat.le_of_ble_eq_true rfl⟩, rfl, rfl⟩ (kd_lt (rfl : kd 0 = 5) (by decide)) (ce5 (rfl : kd 0 = 5)) rfl rfl rfl (Nat.le_of_ble_eq_true rfl) rfl (fun r5 μ4 hX => ?_)
  refine j_istore C0 [(4, .int r5), (3, .int r3), (2, .int v1), (0, .ref (ad 0)), (1, .int a1)] dL_areSamples_20 (by decide) rfl rfl ?_
  refine j_aload_n C0 3 dL_areSamples_22 rfl rfl rfl ?_
  refine j_iload_n C0 2 dL_areSamples_23 rfl rfl rfl ?_
  refine j_iconst C0 2 dL_areSamples_24 (by decide) rfl ?_
  refine j_callVi C0 2 [.int v1, .int 2] (c_X5_ifMade v1 2  hX) dL_areSamples_25 gL_areSamples_X5_ifMade rfl (by decide +kernel) ⟨⟨Nat.le_of_ble_eq_true rfl, Nat.le_of_ble_eq_true rfl⟩, rfl, rfl⟩ (kd_lt (rfl : kd 0 = 5) (by decide)) (ce5 (rfl : kd 0 = 5)) rfl rfl rfl (Nat.le_of_ble_eq_true rfl) rfl (fun r7 μ6 hX => ?_)
  refine j_istore C0 [(5, .int r7), (4, .int r5), (3, .int r3), (2, .int v1), (0, .ref (ad 0)), (1, .int a1)] dL_areSamples_28 (by decide) rfl rfl ?_
  refine j_aload_n C0 4 dL_areSamples_30 rfl rfl rfl ?_
  refine j_iload_n C0 3 dL_areSamples_31 rfl rfl rfl ?_
  refine j_iconst C0 3 dL_areSamples_32 (by decide) rfl ?_
  refine j_callVi C0 2 [.int v1, .int 3] (c_X5_ifMade v1 3  hX) dL_areSamples_33 gL_areSamples_X5_ifMade rfl (by decide +kernel) ⟨⟨Nat.le_of_ble_eq_true rfl, Nat.le_of_ble_eq_true rfl⟩, rfl, rfl⟩ (kd_lt (rfl : kd 0 = 5) (by decide)) (ce5 (rfl : kd 0 = 5)) rfl rfl rfl (Nat.le_of_ble_eq_true rfl) rfl (fun r9 μ8 hX => ?_)
  refine j_istore C0 [(6, .int r9), (5, .int r7), (4, .int r5), (3, .int r3), (2, .int v1), (0, .ref (ad 0)), (1, .int a1)] dL_areSamples_36 (by decide) rfl rfl ?_
  refine j_aload_n C0 5 dL_areSamples_38 rfl rfl rfl ?_
  refine j_callVi C0 0 [] (c_X5_untilClip   hX) dL_areSamples_39 gL_areSamples_X5_untilClip rfl (by decide +kernel) ⟨⟨Nat.le_of_ble_eq_true rfl, Nat.le_of_ble_eq_true rfl⟩, rfl, rfl⟩ (kd_lt (rfl : kd 0 = 5) (by decide)) (ce5 (rfl : kd 0 = 5)) rfl rfl rfl (Nat.le_of_ble_eq_true rfl) rfl (fun r11 μ10 hX => ?_)
  refine j_istore C0 [(7, .int r11), (6, .int r9), (5, .int r7), (4, .int r5), (3, .int r3), (2, .int v1), (0, .ref (ad 0)), (1, .int a1)] dL_areSamples_42 (by decide) rfl rfl ?_
  refine j_aload_n C0 6 dL_areSamples_44 rfl rfl rfl ?_
  refine j_iconst C0 1 dL_areSamples_45 (by decide) rfl ?_
  refine j_callVi C0 1 [.int 1] (c_X5_count 1  hX) dL_areSamples_46 gL_areSamples_X5_count rfl (by decide +kernel) ⟨⟨Nat.le_of_ble_eq_true rfl, Nat.le_of_ble_eq_true rfl⟩, rfl, rfl⟩ (kd_lt (rfl : kd 0 = 5) (by decide)) (ce5 (rfl : kd 0 = 5)) rfl rfl rfl (Nat.le_of_ble_eq_true rfl) rfl (fun r13 μ12 hX => ?_)
  refine j_istore C0 [(8, .int r13), (7, .int r11), (6, .int r9), (5, .int r7), (4, .int r5), (3, .int r3), (2, .int v1), (0, .ref (ad 0)), (1, .int a1)] dL_areSamples_49 (by decide) rfl rfl ?_
  refine j_aload_n C0 7 dL_areSamples_51 rfl rfl rfl ?_
  refine j_iconst C0 2 dL_areSamples_52 (by decide) rfl ?_
  refine j_callVi C0 1 [.int 2] (c_X5_count 2  hX) dL_areSamples_53 gL_areSamples_X5_count rfl (by decide +kernel) ⟨⟨Nat.le_of_ble_eq_true rfl, Nat.le_of_ble_eq_true rfl⟩, rfl, rfl⟩ (kd_lt (rfl : kd 0 = 5) (by decide)) (ce5 (rfl : kd 0 = 5)) rfl rfl rfl (Nat.le_of_ble_eq_true rfl) rfl (fun r15 μ14 hX => ?_)
  refine j_istore C0 [(9, .int r15), (8, .int r13), (7, .int r11), (6, .int r9), (5, .int r7), (4, .int r5), (3, .int r3), (2, .int v1), (0, .ref (ad 0)), (1, .int a1)] dL_areSamples_56 (by decide) rfl rfl ?_
  refine j_aload_n C0 8 dL_areSamples_58 rfl rfl rfl ?_
  refine j_iconst C0 5 dL_areSamples_59 (by decide) rfl ?_
  refine j_callVi C0 1 [.int 5] (c_X5_count 5  hX) dL_areSamples_60 gL_areSamples_X5_count rfl (by decide +kernel) ⟨⟨Nat.le_of_ble_eq_true rfl, Nat.le_of_ble_eq_true rfl⟩, rfl, rfl⟩ (kd_lt (rfl : kd 0 = 5) (by decide)) (ce5 (rfl : kd 0 = 5)) rfl rfl rfl (Nat.le_of_ble_eq_true rfl) rfl (fun r17 μ16 hX => ?_)
  refine j_istore C0 [(10, .int r17), (9, .int r15), (8, .int r13), (7, .int r11), (6, .int r9), (5, .int r7), (4, .int r5), (3, .int r3), (2, .int v1), (0, .ref (ad 0)), (1, .int a1)] dL_areSamples_63 (by decide) rfl rfl ?_
  refine j_aload_n C0 9 dL_areSamples_65 rfl rfl rfl ?_
  refine j_bipush C0 6 dL_areSamples_66 (by decide) rfl ?_
  refine j_callVi C0 1 [.int 6] (c_X5_count 6  hX) dL_areSamples_68 gL_areSamples_X5_count rfl (by decide +kernel) ⟨⟨Nat.le_of_ble_eq_true rfl, Nat.le_of_ble_eq_true rfl⟩, rfl, rfl⟩ (kd_lt (rfl : kd 0 = 5) (by decide)) (ce5 (rfl : kd 0 = 5)) rfl rfl rfl (Nat.le_of_ble_eq_true rfl) rfl (fun r19 μ18 hX => ?_)
  refine j_istore C0 [(11, .int r19), (10, .int r17), (9, .int r15), (8, .int r13), (7, .int r11), (6, .int r9), (5, .int r7), (4, .int r5), (3, .int r3), (2, .int v1), (0, .ref (ad 0)), (1, .int a1)] dL_areSamples_71 (by decide) rfl rfl ?_
  refine j_iload C0 3 dL_areSamples_73 rfl rfl ?_
  refine j_if_le C0 (tgt := 86) dL_areSamples_75 (by decide) rfl (fun c20 => ?_) (fun c20 => ?_)
  · have hX := hX.1 c20
    refine j_iconst C0 (-1) dL_areSamples_86 (by decide) rfl ?_
    exact j_sub (l' := [(0, .ref (ad 0)), (2, .int v1), (3, .int r3), (4, .int r5), (5, .int r7), (6, .int r9), (7, .int r11), (8, .int r13), (9, .int r15), (10, .int r17), (11, .int r19)]) [10, 9, 8, 7, 6, 5, 4, 3, 2, 1, 0] rfl (w_L_areSamples_L87 C0 hlk hret v1 r3 r5 r7 r9 r11 r13 r15 r17 r19 (-1) μ18 K  hX)
  · have hX := hX.2 c20
    refine j_aload_n C0 10 dL_areSamples_78 rfl rfl rfl ?_
    refine j_iconst C0 0 dL_areSamples_79 (by decide) rfl ?_
    refine j_callVi C0 1 [.int 0] (c_X5_sample 0  hX) dL_areSamples_80 gL_areSamples_X5_sample rfl (by decide +kernel) ⟨⟨Nat.le_of_ble_eq_true rfl, Nat.le_of_ble_eq_true rfl⟩, rfl, rfl⟩ (kd_lt (rfl : kd 0 = 5) (by decide)) (ce5 (rfl : kd 0 = 5)) rfl rfl rfl (Nat.le_of_ble_eq_true rfl) rfl (fun r88 μ87 hX => ?_)
    refine j_goto C0 (tgt := 87) dL_areSamples_83 (by decide) ?_
    exact j_sub (l' := [(0, .ref (ad 0)), (2, .int v1), (3, .int r3), (4, .int r5), (5, .int r7), (6, .int r9), (7, .int r11), (8, .int r13), (9, .int r15), (10, .int r17), (11, .int r19)]) [10, 9, 8, 7, 6, 5, 4, 3, 2, 1, 0] rfl (w_L_areSamples_L87 C0 hlk hret v1 r3 r5 r7 r9 r11 r13 r15 r17 r19 r88 μ87 K  hX)
theorem c_L_areSamples {l : Launch} {D : va_G} {Y : Nat → ClassId} {ad : Nat → Nat} (a1 : Int32) {μ : Mem} {K : Int32 → Mem → Prop}  (hX : x_L_areSamples a1 μ K) : ConI l yL_areSamples wsL_areSamples rm_L_areSamples [.ref (ad 0), .int a1] D Y ad μ K := conI_of (cc := cL_areSamples) (maxL := 21) (ret := (some .boolean)) (own := RL) _ (by decide +kernel) rfl rfl (Nat.le_of_ble_eq_true rfl) (fun p e s m args below meth c C0 hlk hret => j_sub (l' := [(0, .ref (ad 0)), (1, .int a1)]) [0, 1] rfl (w_L_areSamples C0 hlk hret a1 μ K  hX))
/-! PhaseTonesLaw.acts(LPhaseTones;I)Z -/
abbrev rm_L_acts : Room := rmf 6 129
theorem hw_L_acts_0 : Cond.constant RL 18 (65536) ∈ wsL_acts := by decide +kernel
def x_L_acts_L263 (K : Int32 → Mem → Prop) (as0 : Int32) (as1 : Int32) (μ : Mem) : Prop :=
  (as1 = as0 → K 1 μ) ∧ (¬ (as1 = as0) → K 0 μ)
set_option maxRecDepth 20000 in
theorem w_L_acts_L263 {p : Program} {l : Launch} {e : Env} {s : State} {m : MethodId} {args : Array Value} {below : List Frame} {meth : Method} {c : Code} {D : va_G} {Y : Nat → ClassId} {ad : Nat → Nat} (C0 : CX D Y ad (PA ad) rm_L_acts 0 0 p s args m c cL_acts 18 RL wsL_acts) (hlk : meth.locks = false) (hret : meth.sig.returnType = (some .boolean)) (as0 : Int32) (as1 : Int32) (μ : Mem) (K : Int32 → Mem → Prop)  (hX : x_L_acts_L263 K as0 as1 μ) : J p l e rm_L_acts s m args below meth c D Y ad (PA ad) 0 0 18 (MQ below (va_Qi K (BB D Y ad) (PA ad)) args s 0 0 (PA ad)) 263 [] [.int as0, .int as1] μ := by
  refine j_icmp_ne C0 (tgt := 270) dL_acts_263 (by decide) rfl (fun c47 => ?_) (fun c47 => ?_)
  · have hX := hX.1 c47
    refine j_iconst C0 1 dL_acts_266 (by decide) rfl ?_
    refine j_goto C0 (tgt := 271) dL_acts_267 (by decide) ?_
    exact j_zret C0 hlk hret dL_acts_271 zb1 hX
  · have hX := hX.2 c47
    refine j_iconst C0 0 dL_acts_270 (by decide) rfl ?_
    exact j_zret C0 hlk hret dL_acts_271 zb0 hX
def x_L_acts_L241 (K : Int32 → Mem → Prop) (a2 : Int32) (a7 : Int32) (as0 : Int32) (as1 : Int32) (μ : Mem) : Prop :=
  x_X5_turn as1 as0 μ (fun r42 μ41 => (r42 < 0 → K 0 μ41) ∧ (¬ (r42 < 0) → x_X5_wheel a2 4 μ41 (fun r45 μ44 => (a7 = 0 → x_L_acts_L263 K 1 r45 μ44) ∧ (¬ (a7 = 0) → x_L_acts_L263 K 0 r45 μ44))))
set_option maxRecDepth 20000 in
theorem w_L_acts_L241 {p : Program} {l : Launch} {e : Env} {s : State} {m : MethodId} {args : Array Value} {below : List Frame} {meth : Method} {c : Code} {D : va_G} {Y : Nat → ClassId} {ad : Nat → Nat} (C0 : CX D Y ad (PA ad) rm_L_acts 0 0 p s args m c cL_acts 18 RL wsL_acts) (hlk : meth.locks = false) (hret : meth.sig.returnType = (some .boolean)) (a2 : Int32) (a7 : Int32) (as0 : Int32) (as1 : Int32) (μ : Mem) (K : Int32 → Mem → Prop)  (hX : x_L_acts_L241 K a2 a7 as0 as1 μ) : J p l e rm_L_acts s m args below meth c D Y ad (PA ad) 0 0 18 (MQ below (va_Qi K (BB D Y ad) (PA ad)) args s 0 0 (PA ad)) 241 [(0, .ref (ad 0)), (2, .int a2), (7, .int a7)] [.int as0, .int as1, .ref (ad 0)] μ := by
  refine j_callVi C0 2 [.int as1, .int as0] (c_X5_turn as1 as0  hX) dL_acts_241 gL_acts_X5_turn rfl (by decide +kernel) ⟨⟨Nat.le_of_ble_eq_true rfl, Nat.le_of_ble_eq_true rfl⟩, rfl, rfl⟩ (kd_lt (rfl : kd 0 = 5) (by decide)) (ce5 (rfl : kd 0 = 5)) rfl rfl rfl (Nat.le_of_ble_eq_true rfl) rfl (fun r42 μ41 hX => ?_)
  refine j_if_lt C0 (tgt := 270) dL_acts_244 (by decide) rfl (fun c43 => ?_) (fun c43 => ?_)
  · have hX := hX.1 c43
    refine j_iconst C0 0 dL_acts_270 (by decide) rfl ?_
    exact j_zret C0 hlk hret dL_acts_271 zb0 hX
  · have hX := hX.2 c43
    refine j_aload_n C0 0 dL_acts_247 rfl rfl rfl ?_
    refine j_iload_n C0 1 dL_acts_248 rfl rfl rfl ?_
    refine j_iconst C0 4 dL_acts_249 (by decide) rfl ?_
    refine j_callVi C0 2 [.int a2, .int 4] (c_X5_wheel a2 4  hX) dL_acts_250 gL_acts_X5_wheel rfl (by decide +kernel) ⟨⟨Nat.le_of_ble_eq_true rfl, Nat.le_of_ble_eq_true rfl⟩, rfl, rfl⟩ (kd_lt (rfl : kd 0 = 5) (by decide)) (ce5 (rfl : kd 0 = 5)) rfl rfl rfl (Nat.le_of_ble_eq_true rfl) rfl (fun r45 μ44 hX => ?_)
    refine j_iload C0 2 dL_acts_253 rfl rfl ?_
    refine j_if_eq C0 (tgt := 262) dL_acts_255 (by decide) rfl (fun c46 => ?_) (fun c46 => ?_)
    · have hX := hX.1 c46
      refine j_iconst C0 1 dL_acts_262 (by decide) rfl ?_
      exact j_sub (l' := []) [] rfl (w_L_acts_L263 C0 hlk hret 1 r45 μ44 K  hX)
    · have hX := hX.2 c46
      refine j_iconst C0 0 dL_acts_258 (by decide) rfl ?_
      refine j_goto C0 (tgt := 263) dL_acts_259 (by decide) ?_
      exact j_sub (l' := []) [] rfl (w_L_acts_L263 C0 hlk hret 0 r45 μ44 K  hX)
def x_L_acts_L215 (K : Int32 → Mem → Prop) (a2 : Int32) (as0 : Int32) (μ : Mem) : Prop :=
  x_X5_turn a2 as0 μ (fun r38 μ37 => (r38 = (-5) → (as0 = 0 → x_L_acts_L241 K a2 as0 1 a2 μ37) ∧ (¬ (as0 = 0) → x_L_acts_L241 K a2 as0 0 a2 μ37)) ∧ (¬ (r38 = (-5)) → K 0 μ37))
set_option maxRecDepth 20000 in
theorem w_L_acts_L215 {p : Program} {l : Launch} {e : Env} {s : State} {m : MethodId} {args : Array Value} {below : List Frame} {meth : Method} {c : Code} {D : va_G} {Y : Nat → ClassId} {ad : Nat → Nat} (C0 : CX D Y ad (PA ad) rm_L_acts 0 0 p s args m c cL_acts 18 RL wsL_acts) (hlk : meth.locks = false) (hret : meth.sig.returnType = (some .boolean)) (a2 : Int32) (as0 : Int32) (μ : Mem) (K : Int32 → Mem → Prop)  (hX : x_L_acts_L215 K a2 as0 μ) : J p l e rm_L_acts s m args below meth c D Y ad (PA ad) 0 0 18 (MQ below (va_Qi K (BB D Y ad) (PA ad)) args s 0 0 (PA ad)) 215 [(0, .ref (ad 0)), (2, .int a2)] [.int as0] μ := by
  refine j_istore C0 [(7, .int as0), (0, .ref (ad 0)), (2, .int a2)] dL_acts_215 (by decide) rfl rfl ?_
  refine j_aload_n C0 1 dL_acts_217 rfl rfl rfl ?_
  refine j_iload_n C0 2 dL_acts_218 rfl rfl rfl ?_
  refine j_iload C0 0 dL_acts_219 rfl rfl ?_
  refine j_callVi C0 2 [.int a2, .int as0] (c_X5_turn a2 as0  hX) dL_acts_221 gL_acts_X5_turn rfl (by decide +kernel) ⟨⟨Nat.le_of_ble_eq_true rfl, Nat.le_of_ble_eq_true rfl⟩, rfl, rfl⟩ (kd_lt (rfl : kd 0 = 5) (by decide)) (ce5 (rfl : kd 0 = 5)) rfl rfl rfl (Nat.le_of_ble_eq_true rfl) rfl (fun r38 μ37 hX => ?_)
  refine j_bipush C0 (-5) dL_acts_224 (by decide) rfl ?_
  refine j_icmp_ne C0 (tgt := 270) dL_acts_226 (by decide) rfl (fun c39 => ?_) (fun c39 => ?_)
  · have hX := hX.1 c39
    refine j_aload_n C0 1 dL_acts_229 rfl rfl rfl ?_
    refine j_iload_n C0 2 dL_acts_230 rfl rfl rfl ?_
    refine j_iload C0 0 dL_acts_231 rfl rfl ?_
    refine j_if_ne C0 (tgt := 240) dL_acts_233 (by decide) rfl (fun c40 => ?_) (fun c40 => ?_)
    · have hX := hX.1 c40
      refine j_iconst C0 1 dL_acts_236 (by decide) rfl ?_
      refine j_goto C0 (tgt := 241) dL_acts_237 (by decide) ?_
      exact j_sub (l' := [(0, .ref (ad 0)), (2, .int a2), (7, .int as0)]) [1, 2, 0] rfl (w_L_acts_L241 C0 hlk hret a2 as0 1 a2 μ37 K  hX)
    · have hX := hX.2 c40
      refine j_iconst C0 0 dL_acts_240 (by decide) rfl ?_
      exact j_sub (l' := [(0, .ref (ad 0)), (2, .int a2), (7, .int as0)]) [1, 2, 0] rfl (w_L_acts_L241 C0 hlk hret a2 as0 0 a2 μ37 K  hX)
  · have hX := hX.2 c39
    refine j_iconst C0 0 dL_acts_270 (by decide) rfl ?_
    exact j_zret C0 hlk hret dL_acts_271 zb0 hX
def x_L_acts_L307 (K : Int32 → Mem → Prop) (a1 : Int32) (a2 : Int32) (a3 : Int32) (μ : Mem) : Prop :=
  x_X5_wheel a2 5 μ (fun r59 μ58 => x_X5_wheel a2 9 μ58 (fun r61 μ60 => ∀ v62 : Int32, v62 = ((1 : Int32) + ((a1 >>> ((8 : Int32) &&& 31)) - (a1 >>> ((8 : Int32) &&& 31)) / 60 * 60)) → x_X5_sweep a2 a3 v62 μ60 (fun r64 μ63 => (r59 = 4 → (r64 = (-4) → K 1 μ63) ∧ (¬ (r64 = (-4)) → K 0 μ63)) ∧ (¬ (r59 = 4) → (r64 = (r59 + 1) → x_X5_wheel a2 9 μ63 (fun r69 μ68 => (r69 = (r61 + v62) → x_X5_wheel a2 10 μ68 (fun r72 μ71 => (r72 = a3 → K 1 μ71) ∧ (¬ (r72 = a3) → K 0 μ71))) ∧ (¬ (r69 = (r61 + v62)) → K 0 μ68))) ∧ (¬ (r64 = (r59 + 1)) → K 0 μ63)))))
set_option maxRecDepth 20000 in
theorem w_L_acts_L307 {p : Program} {l : Launch} {e : Env} {s : State} {m : MethodId} {args : Array Value} {below : List Frame} {meth : Method} {c : Code} {D : va_G} {Y : Nat → ClassId} {ad : Nat → Nat} (C0 : CX D Y ad (PA ad) rm_L_acts 0 0 p s args m c cL_acts 18 RL wsL_acts) (hlk : meth.locks = false) (hret : meth.sig.returnType = (some .boolean)) (a1 : Int32) (a2 : Int32) (a3 : Int32) (μ : Mem) (K : Int32 → Mem → Prop)  (hX : x_L_acts_L307 K a1 a2 a3 μ) : J p l e rm_L_acts s m args below meth c D Y ad (PA ad) 0 0 18 (MQ below (va_Qi K (BB D Y ad) (PA ad)) args s 0 0 (PA ad)) 307 [(0, .ref (ad 0)), (1, .int a1), (2, .int a2), (3, .int a3)] [] μ := by
  refine j_aload_n C0 0 dL_acts_307 rfl rfl rfl ?_
  refine j_iload_n C0 2 dL_acts_308 rfl rfl rfl ?_
  refine j_iconst C0 5 dL_acts_309 (by decide) rfl ?_
  refine j_callVi C0 2 [.int a2, .int 5] (c_X5_wheel a2 5  hX) dL_acts_310 gL_acts_X5_wheel rfl (by decide +kernel) ⟨⟨Nat.le_of_ble_eq_true rfl, Nat.le_of_ble_eq_true rfl⟩, rfl, rfl⟩ (kd_lt (rfl : kd 0 = 5) (by decide)) (ce5 (rfl : kd 0 = 5)) rfl rfl rfl (Nat.le_of_ble_eq_true rfl) rfl (fun r59 μ58 hX => ?_)
  refine j_istore C0 [(9, .int r59), (0, .ref (ad 0)), (1, .int a1), (2, .int a2), (3, .int a3)] dL_acts_313 (by decide) rfl rfl ?_
  refine j_aload_n C0 1 dL_acts_315 rfl rfl rfl ?_
  refine j_iload_n C0 3 dL_acts_316 rfl rfl rfl ?_
  refine j_bipush C0 9 dL_acts_317 (by decide) rfl ?_
  refine j_callVi C0 2 [.int a2, .int 9] (c_X5_wheel a2 9  hX) dL_acts_319 gL_acts_X5_wheel rfl (by decide +kernel) ⟨⟨Nat.le_of_ble_eq_true rfl, Nat.le_of_ble_eq_true rfl⟩, rfl, rfl⟩ (kd_lt (rfl : kd 0 = 5) (by decide)) (ce5 (rfl : kd 0 = 5)) rfl rfl rfl (Nat.le_of_ble_eq_true rfl) rfl (fun r61 μ60 hX => ?_)
  refine j_istore C0 [(10, .int r61), (9, .int r59), (0, .ref (ad 0)), (1, .int a1), (2, .int a2), (3, .int a3)] dL_acts_322 (by decide) rfl rfl ?_
  refine j_iconst C0 1 dL_acts_324 (by decide) rfl ?_
  refine j_iload_n C0 3 dL_acts_325 rfl rfl rfl ?_
  refine j_bipush C0 8 dL_acts_326 (by decide) rfl ?_
  refine j_ishr C0 dL_acts_328 rfl ?_
  refine j_bipush C0 60 dL_acts_329 (by decide) rfl ?_
  refine j_irem C0 dL_acts_331 (by decide) rfl ?_
  refine j_iadd C0 dL_acts_332 rfl ?_
  refine j_topi (fun v62 e_v62 => ?_)
  have hX := hX v62 e_v62
  refine j_istore C0 [(11, .int v62), (10, .int r61), (9, .int r59), (0, .ref (ad 0)), (1, .int a1), (2, .int a2), (3, .int a3)] dL_acts_333 (by decide) rfl rfl ?_
  refine j_aload_n C0 3 dL_acts_335 rfl rfl rfl ?_
  refine j_iload_n C0 5 dL_acts_336 rfl rfl rfl ?_
  refine j_iload_n C0 6 dL_acts_337 rfl rfl rfl ?_
  refine j_iload C0 0 dL_acts_338 rfl rfl ?_
  refine j_callVi C0 3 [.int a2, .int a3, .int v62] (c_X5_sweep a2 a3 v62  hX) dL_acts_340 gL_acts_X5_sweep rfl (by decide +kernel) ⟨⟨Nat.le_of_ble_eq_true rfl, Nat.le_of_ble_eq_true rfl⟩, rfl, rfl⟩ (kd_lt (rfl : kd 0 = 5) (by decide)) (ce5 (rfl : kd 0 = 5)) rfl rfl rfl (Nat.le_of_ble_eq_true rfl) rfl (fun r64 μ63 hX => ?_)
  refine j_istore C0 [(12, .int r64), (11, .int v62), (10, .int r61), (9, .int r59), (0, .ref (ad 0)), (1, .int a1), (2, .int a2), (3, .int a3)] dL_acts_343 (by decide) rfl rfl ?_
  refine j_iload C0 3 dL_acts_345 rfl rfl ?_
  refine j_iconst C0 4 dL_acts_347 (by decide) rfl ?_
  refine j_icmp_ne C0 (tgt := 366) dL_acts_348 (by decide) rfl (fun c65 => ?_) (fun c65 => ?_)
  · have hX := hX.1 c65
    refine j_iload C0 0 dL_acts_351 rfl rfl ?_
    refine j_bipush C0 (-4) dL_acts_353 (by decide) rfl ?_
    refine j_icmp_ne C0 (tgt := 362) dL_acts_355 (by decide) rfl (fun c66 => ?_) (fun c66 => ?_)
    · have hX := hX.1 c66
      refine j_iconst C0 1 dL_acts_358 (by decide) rfl ?_
      refine j_goto C0 (tgt := 406) dL_acts_359 (by decide) ?_
      exact j_zret C0 hlk hret dL_acts_406 zb1 hX
    · have hX := hX.2 c66
      refine j_iconst C0 0 dL_acts_362 (by decide) rfl ?_
      refine j_goto C0 (tgt := 406) dL_acts_363 (by decide) ?_
      exact j_zret C0 hlk hret dL_acts_406 zb0 hX
  · have hX := hX.2 c65
    refine j_iload C0 0 dL_acts_366 rfl rfl ?_
    refine j_iload C0 3 dL_acts_368 rfl rfl ?_
    refine j_iconst C0 1 dL_acts_370 (by decide) rfl ?_
    refine j_iadd C0 dL_acts_371 rfl ?_
    refine j_icmp_ne C0 (tgt := 405) dL_acts_372 (by decide) rfl (fun c67 => ?_) (fun c67 => ?_)
    · have hX := hX.1 c67
      refine j_aload_n C0 4 dL_acts_375 rfl rfl rfl ?_
      refine j_iload_n C0 6 dL_acts_376 rfl rfl rfl ?_
      refine j_bipush C0 9 dL_acts_377 (by decide) rfl ?_
      refine j_callVi C0 2 [.int a2, .int 9] (c_X5_wheel a2 9  hX) dL_acts_379 gL_acts_X5_wheel rfl (by decide +kernel) ⟨⟨Nat.le_of_ble_eq_true rfl, Nat.le_of_ble_eq_true rfl⟩, rfl, rfl⟩ (kd_lt (rfl : kd 0 = 5) (by decide)) (ce5 (rfl : kd 0 = 5)) rfl rfl rfl (Nat.le_of_ble_eq_true rfl) rfl (fun r69 μ68 hX => ?_)
      refine j_iload C0 2 dL_acts_382 rfl rfl ?_
      refine j_iload C0 1 dL_acts_384 rfl rfl ?_
      refine j_iadd C0 dL_acts_386 rfl ?_
      refine j_icmp_ne C0 (tgt := 405) dL_acts_387 (by decide) rfl (fun c70 => ?_) (fun c70 => ?_)
      · have hX := hX.1 c70
        refine j_aload_n C0 4 dL_acts_390 rfl rfl rfl ?_
        refine j_iload_n C0 6 dL_acts_391 rfl rfl rfl ?_
        refine j_bipush C0 10 dL_acts_392 (by decide) rfl ?_
        refine j_callVi C0 2 [.int a2, .int 10] (c_X5_wheel a2 10  hX) dL_acts_394 gL_acts_X5_wheel rfl (by decide +kernel) ⟨⟨Nat.le_of_ble_eq_true rfl, Nat.le_of_ble_eq_true rfl⟩, rfl, rfl⟩ (kd_lt (rfl : kd 0 = 5) (by decide)) (ce5 (rfl : kd 0 = 5)) rfl rfl rfl (Nat.le_of_ble_eq_true rfl) rfl (fun r72 μ71 hX => ?_)
        refine j_iload_n C0 7 dL_acts_397 rfl rfl rfl ?_
        refine j_icmp_ne C0 (tgt := 405) dL_acts_398 (by decide) rfl (fun c73 => ?_) (fun c73 => ?_)
        · have hX := hX.1 c73
          refine j_iconst C0 1 dL_acts_401 (by decide) rfl ?_
          refine j_goto C0 (tgt := 406) dL_acts_402 (by decide) ?_
          exact j_zret C0 hlk hret dL_acts_406 zb1 hX
        · have hX := hX.2 c73
          refine j_iconst C0 0 dL_acts_405 (by decide) rfl ?_
          exact j_zret C0 hlk hret dL_acts_406 zb0 hX
      · have hX := hX.2 c70
        refine j_iconst C0 0 dL_acts_405 (by decide) rfl ?_
        exact j_zret C0 hlk hret dL_acts_406 zb0 hX
    · have hX := hX.2 c67
      refine j_iconst C0 0 dL_acts_405 (by decide) rfl ?_
      exact j_zret C0 hlk hret dL_acts_406 zb0 hX
def x_L_acts (a1 : Int32) (μ : Mem) (K : Int32 → Mem → Prop) : Prop :=
  ∀ v1 : Int32, v1 = ((a1 >>> ((4 : Int32) &&& 31)) - (a1 >>> ((4 : Int32) &&& 31)) / 4 * 4) → ∀ v2 : Int32, v2 = ((a1 >>> ((6 : Int32) &&& 31)) - (a1 >>> ((6 : Int32) &&& 31)) / 65536 * 65536) → ((a1 - a1 / 10 * 10) = 0 → x_X5_wheel v1 1 μ (fun r5 μ4 => x_X5_step v1 v2 μ4 (fun r7 μ6 => (r7 = r5 → x_X5_wheel v1 1 μ6 (fun r10 μ9 => (r10 = v2 → x_X5_wheel v1 5 μ9 (fun r13 μ12 => (r13 = 0 → K 1 μ12) ∧ (¬ (r13 = 0) → K 0 μ12))) ∧ (¬ (r10 = v2) → K 0 μ9))) ∧ (¬ (r7 = r5) → K 0 μ6)))) ∧ (¬ ((a1 - a1 / 10 * 10) = 0) → ((a1 - a1 / 10 * 10) = 1 → x_X5_wheel v1 2 μ (fun r17 μ16 => x_X5_table v1 ((a1 >>> ((6 : Int32) &&& 31)) - (a1 >>> ((6 : Int32) &&& 31)) / 4 * 4) μ16 (fun r19 μ18 => (r19 = r17 → x_X5_wheel v1 2 μ18 (fun r22 μ21 => (r22 = ((a1 >>> ((6 : Int32) &&& 31)) - (a1 >>> ((6 : Int32) &&& 31)) / 4 * 4) → K 1 μ21) ∧ (¬ (r22 = ((a1 >>> ((6 : Int32) &&& 31)) - (a1 >>> ((6 : Int32) &&& 31)) / 4 * 4)) → K 0 μ21))) ∧ (¬ (r19 = r17) → K 0 μ18)))) ∧ (¬ ((a1 - a1 / 10 * 10) = 1) → ((a1 - a1 / 10 * 10) = 2 → x_X5_wheel v1 3 μ (fun r26 μ25 => x_X5_volume v1 ((a1 >>> ((6 : Int32) &&& 31)) - (a1 >>> ((6 : Int32) &&& 31)) / 17 * 17) μ25 (fun r28 μ27 => (r28 = r26 → x_X5_wheel v1 3 μ27 (fun r31 μ30 => (r31 = ((a1 >>> ((6 : Int32) &&& 31)) - (a1 >>> ((6 : Int32) &&& 31)) / 17 * 17) → K 1 μ30) ∧ (¬ (r31 = ((a1 >>> ((6 : Int32) &&& 31)) - (a1 >>> ((6 : Int32) &&& 31)) / 17 * 17)) → K 0 μ30))) ∧ (¬ (r28 = r26) → K 0 μ27)))) ∧ (¬ ((a1 - a1 / 10 * 10) = 2) → ((a1 - a1 / 10 * 10) = 3 → x_X5_wheel v1 4 μ (fun r35 μ34 => (r35 = 1 → x_L_acts_L215 K v1 1 μ34) ∧ (¬ (r35 = 1) → x_L_acts_L215 K v1 0 μ34))) ∧ (¬ ((a1 - a1 / 10 * 10) = 3) → ((a1 - a1 / 10 * 10) = 4 → x_X5_wheel v1 0 μ (fun r50 μ49 => x_X5_phase v1 v2 μ49 (fun r52 μ51 => (r52 = r50 → x_X5_wheel v1 0 μ51 (fun r55 μ54 => (r55 = v2 → K 1 μ54) ∧ (¬ (r55 = v2) → K 0 μ54))) ∧ (¬ (r52 = r50) → K 0 μ51)))) ∧ (¬ ((a1 - a1 / 10 * 10) = 4) → ((a1 - a1 / 10 * 10) = 5 → x_L_acts_L307 K a1 v1 v2 μ) ∧ (¬ ((a1 - a1 / 10 * 10) = 5) → ((a1 - a1 / 10 * 10) = 6 → x_L_acts_L307 K a1 v1 v2 μ) ∧ (¬ ((a1 - a1 / 10 * 10) = 6) → ((a1 - a1 / 10 * 10) = 7 → x_X5_valueOf v1 ((a1 >>> ((6 : Int32) &&& 31)) - (a1 >>> ((6 : Int32) &&& 31)) / 16 * 16) μ (fun r77 μ76 => x_X5_count 0 μ76 (fun r79 μ78 => x_X5_fill v1 ((a1 >>> ((6 : Int32) &&& 31)) - (a1 >>> ((6 : Int32) &&& 31)) / 16 * 16) ((a1 >>> ((10 : Int32) &&& 31)) - (a1 >>> ((10 : Int32) &&& 31)) / 16 * 16) μ78 (fun r81 μ80 => (r81 = r77 → x_X5_valueOf v1 ((a1 >>> ((6 : Int32) &&& 31)) - (a1 >>> ((6 : Int32) &&& 31)) / 16 * 16) μ80 (fun r84 μ83 => (r84 = ((a1 >>> ((10 : Int32) &&& 31)) - (a1 >>> ((10 : Int32) &&& 31)) / 16 * 16) → x_X5_clip ((1 : Int32) + ((a1 >>> ((14 : Int32) &&& 31)) - (a1 >>> ((14 : Int32) &&& 31)) / 960 * 960)) μ83 (fun r87 μ86 => (r87 = r79 → x_X5_count 0 μ86 (fun r90 μ89 => (r90 = ((1 : Int32) + ((a1 >>> ((14 : Int32) &&& 31)) - (a1 >>> ((14 : Int32) &&& 31)) / 960 * 960)) → K 1 μ89) ∧ (¬ (r90 = ((1 : Int32) + ((a1 >>> ((14 : Int32) &&& 31)) - (a1 >>> ((14 : Int32) &&& 31)) / 960 * 960))) → K 0 μ89))) ∧ (¬ (r87 = r79) → K 0 μ86))) ∧ (¬ (r84 = ((a1 >>> ((10 : Int32) &&& 31)) - (a1 >>> ((10 : Int32) &&& 31)) / 16 * 16)) → K 0 μ83))) ∧ (¬ (r81 = r77) → K 0 μ80))))) ∧ (¬ ((a1 - a1 / 10 * 10) = 7) → x_X5_count 1 μ (fun r93 μ92 => ∀ v94 : Int32, v94 = ((1 : Int32) + ((a1 >>> ((4 : Int32) &&& 31)) - (a1 >>> ((4 : Int32) &&& 31)) / 200 * 200)) → x_X5_ifMade v94 3 μ92 (fun r96 μ95 => x_X5_make v94 μ95 (fun r98 μ97 => (r98 = r96 → x_X5_count 1 μ97 (fun r101 μ100 => (r101 = (r93 + v94) → x_X5_sample 0 μ100 (fun r104 μ103 => (r104 = r96 → K 1 μ103) ∧ (¬ (r104 = r96) → K 0 μ103))) ∧ (¬ (r101 = (r93 + v94)) → K 0 μ100))) ∧ (¬ (r98 = r96) → K 0 μ97))))))))))))
set_option maxRecDepth 20000 in
theorem w_L_acts {p : Program} {l : Launch} {e : Env} {s : State} {m : MethodId} {args : Array Value} {below : List Frame} {meth : Method} {c : Code} {D : va_G} {Y : Nat → ClassId} {ad : Nat → Nat} (C0 : CX D Y ad (PA ad) rm_L_acts 0 0 p s args m c cL_acts 18 RL wsL_acts) (hlk : meth.locks = false) (hret : meth.sig.returnType = (some .boolean)) (a1 : Int32) (μ : Mem) (K : Int32 → Mem → Prop)  (hX : x_L_acts a1 μ K) : J p l e rm_L_acts s m args below meth c D Y ad (PA ad) 0 0 18 (MQ below (va_Qi K (BB D Y ad) (PA ad)) args s 0 0 (PA ad)) 0 [(0, .ref (ad 0)), (1, .int a1)] [] μ := by
  refine j_iload_n C0 1 dL_acts_0 rfl rfl rfl ?_
  refine j_iconst C0 4 dL_acts_1 (by decide) rfl ?_
  refine j_ishr C0 dL_acts_2 rfl ?_
  refine j_iconst C0 4 dL_acts_3 (by decide) rfl ?_
  refine j_irem C0 dL_acts_4 (by decide) rfl ?_
  refine j_topi (fun v1 e_v1 => ?_)
  have hX := hX v1 e_v1
  refine j_istore_n C0 [(2, .int v1), (0, .ref (ad 0)), (1, .int a1)] dL_acts_5 rfl (by decide) rfl rfl ?_
  refine j_iload_n C0 2 dL_acts_6 rfl rfl rfl ?_
  refine j_bipush C0 6 dL_acts_7 (by decide) rfl ?_
  refine j_ishr C0 dL_acts_9 rfl ?_
  refine j_ldc C0 65536 dL_acts_10 hw_L_acts_0 rfl ?_
  refine j_irem C0 dL_acts_12 (by decide) rfl ?_
  refine j_topi (fun v2 e_v2 => ?_)
  have hX := hX v2 e_v2
  refine j_istore_n C0 [(3, .int v2), (2, .int v1), (0, .ref (ad 0)), (1, .int a1)] dL_acts_13 rfl (by decide) rfl rfl ?_
  refine j_iload_n C0 3 dL_acts_14 rfl rfl rfl ?_
  refine j_bipush C0 10 dL_acts_15 (by decide) rfl ?_
  refine j_irem C0 dL_acts_17 (by decide) rfl ?_
  by_cases c3 : (a1 - a1 / 10 * 10) = 0
  · have hX := hX.1 c3
    refine j_tableIn C0 (off := 46) (tgt := 64) dL_acts_18 (by rw [c3]; decide) (by rw [c3]; decide) (by rw [c3]; decide) (by decide) ?_
    refine j_aload_n C0 2 dL_acts_64 rfl rfl rfl ?_
    refine j_iload_n C0 1 dL_acts_65 rfl rfl rfl ?_
    refine j_iconst C0 1 dL_acts_66 (by decide) rfl ?_
    refine j_callVi C0 2 [.int v1, .int 1] (c_X5_wheel v1 1  hX) dL_acts_67 gL_acts_X5_wheel rfl (by decide +kernel) ⟨⟨Nat.le_of_ble_eq_true rfl, Nat.le_of_ble_eq_true rfl⟩, rfl, rfl⟩ (kd_lt (rfl : kd 0 = 5) (by decide)) (ce5 (rfl : kd 0 = 5)) rfl rfl rfl (Nat.le_of_ble_eq_true rfl) rfl (fun r5 μ4 hX => ?_)
    refine j_istore C0 [(4, .int r5), (3, .int v2), (2, .int v1), (0, .ref (ad 0)), (1, .int a1)] dL_acts_70 (by decide) rfl rfl ?_
    refine j_aload_n C0 3 dL_acts_72 rfl rfl rfl ?_
    refine j_iload_n C0 2 dL_acts_73 rfl rfl rfl ?_
    refine j_iload_n C0 1 dL_acts_74 rfl rfl rfl ?_
    refine j_callVi C0 2 [.int v1, .int v2] (c_X5_step v1 v2  hX) dL_acts_75 gL_acts_X5_step rfl (by decide +kernel) ⟨⟨Nat.le_of_ble_eq_true rfl, Nat.le_of_ble_eq_true rfl⟩, rfl, rfl⟩ (kd_lt (rfl : kd 0 = 5) (by decide)) (ce5 (rfl : kd 0 = 5)) rfl rfl rfl (Nat.le_of_ble_eq_true rfl) rfl (fun r7 μ6 hX => ?_)
    refine j_iload C0 0 dL_acts_78 rfl rfl ?_
    refine j_icmp_ne C0 (tgt := 106) dL_acts_80 (by decide) rfl (fun c8 => ?_) (fun c8 => ?_)
    · have hX := hX.1 c8
      refine j_aload_n C0 3 dL_acts_83 rfl rfl rfl ?_
      refine j_iload_n C0 2 dL_acts_84 rfl rfl rfl ?_
      refine j_iconst C0 1 dL_acts_85 (by decide) rfl ?_
      refine j_callVi C0 2 [.int v1, .int 1] (c_X5_wheel v1 1  hX) dL_acts_86 gL_acts_X5_wheel rfl (by decide +kernel) ⟨⟨Nat.le_of_ble_eq_true rfl, Nat.le_of_ble_eq_true rfl⟩, rfl, rfl⟩ (kd_lt (rfl : kd 0 = 5) (by decide)) (ce5 (rfl : kd 0 = 5)) rfl rfl rfl (Nat.le_of_ble_eq_true rfl) rfl (fun r10 μ9 hX => ?_)
      refine j_iload_n C0 1 dL_acts_89 rfl rfl rfl ?_
      refine j_icmp_ne C0 (tgt := 106) dL_acts_90 (by decide) rfl (fun c11 => ?_) (fun c11 => ?_)
      · have hX := hX.1 c11
        refine j_aload_n C0 3 dL_acts_93 rfl rfl rfl ?_
        refine j_iload_n C0 2 dL_acts_94 rfl rfl rfl ?_
        refine j_iconst C0 5 dL_acts_95 (by decide) rfl ?_
        refine j_callVi C0 2 [.int v1, .int 5] (c_X5_wheel v1 5  hX) dL_acts_96 gL_acts_X5_wheel rfl (by decide +kernel) ⟨⟨Nat.le_of_ble_eq_true rfl, Nat.le_of_ble_eq_true rfl⟩, rfl, rfl⟩ (kd_lt (rfl : kd 0 = 5) (by decide)) (ce5 (rfl : kd 0 = 5)) rfl rfl rfl (Nat.le_of_ble_eq_true rfl) rfl (fun r13 μ12 hX => ?_)
        refine j_if_ne C0 (tgt := 106) dL_acts_99 (by decide) rfl (fun c14 => ?_) (fun c14 => ?_)
        · have hX := hX.1 c14
          refine j_iconst C0 1 dL_acts_102 (by decide) rfl ?_
          refine j_goto C0 (tgt := 107) dL_acts_103 (by decide) ?_
          exact j_zret C0 hlk hret dL_acts_107 zb1 hX
        · have hX := hX.2 c14
          refine j_iconst C0 0 dL_acts_106 (by decide) rfl ?_
          exact j_zret C0 hlk hret dL_acts_107 zb0 hX
      · have hX := hX.2 c11
        refine j_iconst C0 0 dL_acts_106 (by decide) rfl ?_
        exact j_zret C0 hlk hret dL_acts_107 zb0 hX
    · have hX := hX.2 c8
      refine j_iconst C0 0 dL_acts_106 (by decide) rfl ?_
      exact j_zret C0 hlk hret dL_acts_107 zb0 hX
  · have hX := hX.2 c3
    by_cases c15 : (a1 - a1 / 10 * 10) = 1
    · have hX := hX.1 c15
      refine j_tableIn C0 (off := 90) (tgt := 108) dL_acts_18 (by rw [c15]; decide) (by rw [c15]; decide) (by rw [c15]; decide) (by decide) ?_
      refine j_aload_n C0 2 dL_acts_108 rfl rfl rfl ?_
      refine j_iload_n C0 1 dL_acts_109 rfl rfl rfl ?_
      refine j_iconst C0 2 dL_acts_110 (by decide) rfl ?_
      refine j_callVi C0 2 [.int v1, .int 2] (c_X5_wheel v1 2  hX) dL_acts_111 gL_acts_X5_wheel rfl (by decide +kernel) ⟨⟨Nat.le_of_ble_eq_true rfl, Nat.le_of_ble_eq_true rfl⟩, rfl, rfl⟩ (kd_lt (rfl : kd 0 = 5) (by decide)) (ce5 (rfl : kd 0 = 5)) rfl rfl rfl (Nat.le_of_ble_eq_true rfl) rfl (fun r17 μ16 hX => ?_)
      refine j_istore C0 [(5, .int r17), (3, .int v2), (2, .int v1), (0, .ref (ad 0)), (1, .int a1)] dL_acts_114 (by decide) rfl rfl ?_
      refine j_aload_n C0 3 dL_acts_116 rfl rfl rfl ?_
      refine j_iload_n C0 2 dL_acts_117 rfl rfl rfl ?_
      refine j_iload_n C0 4 dL_acts_118 rfl rfl rfl ?_
      refine j_bipush C0 6 dL_acts_119 (by decide) rfl ?_
      refine j_ishr C0 dL_acts_121 rfl ?_
      refine j_iconst C0 4 dL_acts_122 (by decide) rfl ?_
      refine j_irem C0 dL_acts_123 (by decide) rfl ?_
      refine j_callVi C0 2 [.int v1, .int ((a1 >>> ((6 : Int32) &&& 31)) - (a1 >>> ((6 : Int32) &&& 31)) / 4 * 4)] (c_X5_table v1 ((a1 >>> ((6 : Int32) &&& 31)) - (a1 >>> ((6 : Int32) &&& 31)) / 4 * 4)  hX) dL_acts_124 gL_acts_X5_table rfl (by decide +kernel) ⟨⟨Nat.le_of_ble_eq_true rfl, Nat.le_of_ble_eq_true rfl⟩, rfl, rfl⟩ (kd_lt (rfl : kd 0 = 5) (by decide)) (ce5 (rfl : kd 0 = 5)) rfl rfl rfl (Nat.le_of_ble_eq_true rfl) rfl (fun r19 μ18 hX => ?_)
      refine j_iload C0 0 dL_acts_127 rfl rfl ?_
      refine j_icmp_ne C0 (tgt := 151) dL_acts_129 (by decide) rfl (fun c20 => ?_) (fun c20 => ?_)
      · have hX := hX.1 c20
        refine j_aload_n C0 3 dL_acts_132 rfl rfl rfl ?_
        refine j_iload_n C0 2 dL_acts_133 rfl rfl rfl ?_
        refine j_iconst C0 2 dL_acts_134 (by decide) rfl ?_
        refine j_callVi C0 2 [.int v1, .int 2] (c_X5_wheel v1 2  hX) dL_acts_135 gL_acts_X5_wheel rfl (by decide +kernel) ⟨⟨Nat.le_of_ble_eq_true rfl, Nat.le_of_ble_eq_true rfl⟩, rfl, rfl⟩ (kd_lt (rfl : kd 0 = 5) (by decide)) (ce5 (rfl : kd 0 = 5)) rfl rfl rfl (Nat.le_of_ble_eq_true rfl) rfl (fun r22 μ21 hX => ?_)
        refine j_iload_n C0 4 dL_acts_138 rfl rfl rfl ?_
        refine j_bipush C0 6 dL_acts_139 (by decide) rfl ?_
        refine j_ishr C0 dL_acts_141 rfl ?_
        refine j_iconst C0 4 dL_acts_142 (by decide) rfl ?_
        refine j_irem C0 dL_acts_143 (by decide) rfl ?_
        refine j_icmp_ne C0 (tgt := 151) dL_acts_144 (by decide) rfl (fun c23 => ?_) (fun c23 => ?_)
        · have hX := hX.1 c23
          refine j_iconst C0 1 dL_acts_147 (by decide) rfl ?_
          refine j_goto C0 (tgt := 152) dL_acts_148 (by decide) ?_
          exact j_zret C0 hlk hret dL_acts_152 zb1 hX
        · have hX := hX.2 c23
          refine j_iconst C0 0 dL_acts_151 (by decide) rfl ?_
          exact j_zret C0 hlk hret dL_acts_152 zb0 hX
      · have hX := hX.2 c20
        refine j_iconst C0 0 dL_acts_151 (by decide) rfl ?_
        exact j_zret C0 hlk hret dL_acts_152 zb0 hX
    · have hX := hX.2 c15
      by_cases c24 : (a1 - a1 / 10 * 10) = 2
      · have hX := hX.1 c24
        refine j_tableIn C0 (off := 135) (tgt := 153) dL_acts_18 (by rw [c24]; decide) (by rw [c24]; decide) (by rw [c24]; decide) (by decide) ?_
        refine j_aload_n C0 2 dL_acts_153 rfl rfl rfl ?_
        refine j_iload_n C0 1 dL_acts_154 rfl rfl rfl ?_
        refine j_iconst C0 3 dL_acts_155 (by decide) rfl ?_
        refine j_callVi C0 2 [.int v1, .int 3] (c_X5_wheel v1 3  hX) dL_acts_156 gL_acts_X5_wheel rfl (by decide +kernel) ⟨⟨Nat.le_of_ble_eq_true rfl, Nat.le_of_ble_eq_true rfl⟩, rfl, rfl⟩ (kd_lt (rfl : kd 0 = 5) (by decide)) (ce5 (rfl : kd 0 = 5)) rfl rfl rfl (Nat.le_of_ble_eq_true rfl) rfl (fun r26 μ25 hX => ?_)
        refine j_istore C0 [(6, .int r26), (3, .int v2), (2, .int v1), (0, .ref (ad 0)), (1, .int a1)] dL_acts_159 (by decide) rfl rfl ?_
        refine j_aload_n C0 3 dL_acts_161 rfl rfl rfl ?_
        refine j_iload_n C0 2 dL_acts_162 rfl rfl rfl ?_
        refine j_iload_n C0 4 dL_acts_163 rfl rfl rfl ?_
        refine j_bipush C0 6 dL_acts_164 (by decide) rfl ?_
        refine j_ishr C0 dL_acts_166 rfl ?_
        refine j_bipush C0 17 dL_acts_167 (by decide) rfl ?_
        refine j_irem C0 dL_acts_169 (by decide) rfl ?_
        refine j_callVi C0 2 [.int v1, .int ((a1 >>> ((6 : Int32) &&& 31)) - (a1 >>> ((6 : Int32) &&& 31)) / 17 * 17)] (c_X5_volume v1 ((a1 >>> ((6 : Int32) &&& 31)) - (a1 >>> ((6 : Int32) &&& 31)) / 17 * 17)  hX) dL_acts_170 gL_acts_X5_volume rfl (by decide +kernel) ⟨⟨Nat.le_of_ble_eq_true rfl, Nat.le_of_ble_eq_true rfl⟩, rfl, rfl⟩ (kd_lt (rfl : kd 0 = 5) (by decide)) (ce5 (rfl : kd 0 = 5)) rfl rfl rfl (Nat.le_of_ble_eq_true rfl) rfl (fun r28 μ27 hX => ?_)
        refine j_iload C0 0 dL_acts_173 rfl rfl ?_
        refine j_icmp_ne C0 (tgt := 198) dL_acts_175 (by decide) rfl (fun c29 => ?_) (fun c29 => ?_)
        · have hX := hX.1 c29
          refine j_aload_n C0 3 dL_acts_178 rfl rfl rfl ?_
          refine j_iload_n C0 2 dL_acts_179 rfl rfl rfl ?_
          refine j_iconst C0 3 dL_acts_180 (by decide) rfl ?_
          refine j_callVi C0 2 [.int v1, .int 3] (c_X5_wheel v1 3  hX) dL_acts_181 gL_acts_X5_wheel rfl (by decide +kernel) ⟨⟨Nat.le_of_ble_eq_true rfl, Nat.le_of_ble_eq_true rfl⟩, rfl, rfl⟩ (kd_lt (rfl : kd 0 = 5) (by decide)) (ce5 (rfl : kd 0 = 5)) rfl rfl rfl (Nat.le_of_ble_eq_true rfl) rfl (fun r31 μ30 hX => ?_)
          refine j_iload_n C0 4 dL_acts_184 rfl rfl rfl ?_
          refine j_bipush C0 6 dL_acts_185 (by decide) rfl ?_
          refine j_ishr C0 dL_acts_187 rfl ?_
          refine j_bipush C0 17 dL_acts_188 (by decide) rfl ?_
          refine j_irem C0 dL_acts_190 (by decide) rfl ?_
          refine j_icmp_ne C0 (tgt := 198) dL_acts_191 (by decide) rfl (fun c32 => ?_) (fun c32 => ?_)
          · have hX := hX.1 c32
            refine j_iconst C0 1 dL_acts_194 (by decide) rfl ?_
            refine j_goto C0 (tgt := 199) dL_acts_195 (by decide) ?_
            exact j_zret C0 hlk hret dL_acts_199 zb1 hX
          · have hX := hX.2 c32
            refine j_iconst C0 0 dL_acts_198 (by decide) rfl ?_
            exact j_zret C0 hlk hret dL_acts_199 zb0 hX
        · have hX := hX.2 c29
          refine j_iconst C0 0 dL_acts_198 (by decide) rfl ?_
          exact j_zret C0 hlk hret dL_acts_199 zb0 hX
      · have hX := hX.2 c24
        by_cases c33 : (a1 - a1 / 10 * 10) = 3
        · have hX := hX.1 c33
          refine j_tableIn C0 (off := 182) (tgt := 200) dL_acts_18 (by rw [c33]; decide) (by rw [c33]; decide) (by rw [c33]; decide) (by decide) ?_
          refine j_aload_n C0 2 dL_acts_200 rfl rfl rfl ?_
          refine j_iload_n C0 1 dL_acts_201 rfl rfl rfl ?_
          refine j_iconst C0 4 dL_acts_202 (by decide) rfl ?_
          refine j_callVi C0 2 [.int v1, .int 4] (c_X5_wheel v1 4  hX) dL_acts_203 gL_acts_X5_wheel rfl (by decide +kernel) ⟨⟨Nat.le_of_ble_eq_true rfl, Nat.le_of_ble_eq_true rfl⟩, rfl, rfl⟩ (kd_lt (rfl : kd 0 = 5) (by decide)) (ce5 (rfl : kd 0 = 5)) rfl rfl rfl (Nat.le_of_ble_eq_true rfl) rfl (fun r35 μ34 hX => ?_)
          refine j_iconst C0 1 dL_acts_206 (by decide) rfl ?_
          refine j_icmp_ne C0 (tgt := 214) dL_acts_207 (by decide) rfl (fun c36 => ?_) (fun c36 => ?_)
          · have hX := hX.1 c36
            refine j_iconst C0 1 dL_acts_210 (by decide) rfl ?_
            refine j_goto C0 (tgt := 215) dL_acts_211 (by decide) ?_
            exact j_sub (l' := [(0, .ref (ad 0)), (2, .int v1)]) [2, 1] rfl (w_L_acts_L215 C0 hlk hret v1 1 μ34 K  hX)
          · have hX := hX.2 c36
            refine j_iconst C0 0 dL_acts_214 (by decide) rfl ?_
            exact j_sub (l' := [(0, .ref (ad 0)), (2, .int v1)]) [2, 1] rfl (w_L_acts_L215 C0 hlk hret v1 0 μ34 K  hX)
        · have hX := hX.2 c33
          by_cases c48 : (a1 - a1 / 10 * 10) = 4
          · have hX := hX.1 c48
            refine j_tableIn C0 (off := 254) (tgt := 272) dL_acts_18 (by rw [c48]; decide) (by rw [c48]; decide) (by rw [c48]; decide) (by decide) ?_
            refine j_aload_n C0 2 dL_acts_272 rfl rfl rfl ?_
            refine j_iload_n C0 1 dL_acts_273 rfl rfl rfl ?_
            refine j_iconst C0 0 dL_acts_274 (by decide) rfl ?_
            refine j_callVi C0 2 [.int v1, .int 0] (c_X5_wheel v1 0  hX) dL_acts_275 gL_acts_X5_wheel rfl (by decide +kernel) ⟨⟨Nat.le_of_ble_eq_true rfl, Nat.le_of_ble_eq_true rfl⟩, rfl, rfl⟩ (kd_lt (rfl : kd 0 = 5) (by decide)) (ce5 (rfl : kd 0 = 5)) rfl rfl rfl (Nat.le_of_ble_eq_true rfl) rfl (fun r50 μ49 hX => ?_)
            refine j_istore C0 [(8, .int r50), (3, .int v2), (2, .int v1), (0, .ref (ad 0)), (1, .int a1)] dL_acts_278 (by decide) rfl rfl ?_
            refine j_aload_n C0 3 dL_acts_280 rfl rfl rfl ?_
            refine j_iload_n C0 2 dL_acts_281 rfl rfl rfl ?_
            refine j_iload_n C0 1 dL_acts_282 rfl rfl rfl ?_
            refine j_callVi C0 2 [.int v1, .int v2] (c_X5_phase v1 v2  hX) dL_acts_283 gL_acts_X5_phase rfl (by decide +kernel) ⟨⟨Nat.le_of_ble_eq_true rfl, Nat.le_of_ble_eq_true rfl⟩, rfl, rfl⟩ (kd_lt (rfl : kd 0 = 5) (by decide)) (ce5 (rfl : kd 0 = 5)) rfl rfl rfl (Nat.le_of_ble_eq_true rfl) rfl (fun r52 μ51 hX => ?_)
            refine j_iload C0 0 dL_acts_286 rfl rfl ?_
            refine j_icmp_ne C0 (tgt := 305) dL_acts_288 (by decide) rfl (fun c53 => ?_) (fun c53 => ?_)
            · have hX := hX.1 c53
              refine j_aload_n C0 3 dL_acts_291 rfl rfl rfl ?_
              refine j_iload_n C0 2 dL_acts_292 rfl rfl rfl ?_
              refine j_iconst C0 0 dL_acts_293 (by decide) rfl ?_
              refine j_callVi C0 2 [.int v1, .int 0] (c_X5_wheel v1 0  hX) dL_acts_294 gL_acts_X5_wheel rfl (by decide +kernel) ⟨⟨Nat.le_of_ble_eq_true rfl, Nat.le_of_ble_eq_true rfl⟩, rfl, rfl⟩ (kd_lt (rfl : kd 0 = 5) (by decide)) (ce5 (rfl : kd 0 = 5)) rfl rfl rfl (Nat.le_of_ble_eq_true rfl) rfl (fun r55 μ54 hX => ?_)
              refine j_iload_n C0 1 dL_acts_297 rfl rfl rfl ?_
              refine j_icmp_ne C0 (tgt := 305) dL_acts_298 (by decide) rfl (fun c56 => ?_) (fun c56 => ?_)
              · have hX := hX.1 c56
                refine j_iconst C0 1 dL_acts_301 (by decide) rfl ?_
                refine j_goto C0 (tgt := 306) dL_acts_302 (by decide) ?_
                exact j_zret C0 hlk hret dL_acts_306 zb1 hX
              · have hX := hX.2 c56
                refine j_iconst C0 0 dL_acts_305 (by decide) rfl ?_
                exact j_zret C0 hlk hret dL_acts_306 zb0 hX
            · have hX := hX.2 c53
              refine j_iconst C0 0 dL_acts_305 (by decide) rfl ?_
              exact j_zret C0 hlk hret dL_acts_306 zb0 hX
          · have hX := hX.2 c48
            by_cases c57 : (a1 - a1 / 10 * 10) = 5
            · have hX := hX.1 c57
              refine j_tableIn C0 (off := 289) (tgt := 307) dL_acts_18 (by rw [c57]; decide) (by rw [c57]; decide) (by rw [c57]; decide) (by decide) ?_
              exact j_sub (l' := [(0, .ref (ad 0)), (1, .int a1), (2, .int v1), (3, .int v2)]) [2, 3, 1, 0] rfl (w_L_acts_L307 C0 hlk hret a1 v1 v2 μ K  hX)
            · have hX := hX.2 c57
              by_cases c74 : (a1 - a1 / 10 * 10) = 6
              · have hX := hX.1 c74
                refine j_tableIn C0 (off := 289) (tgt := 307) dL_acts_18 (by rw [c74]; decide) (by rw [c74]; decide) (by rw [c74]; decide) (by decide) ?_
                exact j_sub (l' := [(0, .ref (ad 0)), (1, .int a1), (2, .int v1), (3, .int v2)]) [2, 3, 1, 0] rfl (w_L_acts_L307 C0 hlk hret a1 v1 v2 μ K  hX)
              · have hX := hX.2 c74
                by_cases c75 : (a1 - a1 / 10 * 10) = 7
                · have hX := hX.1 c75
                  refine j_tableIn C0 (off := 389) (tgt := 407) dL_acts_18 (by rw [c75]; decide) (by rw [c75]; decide) (by rw [c75]; decide) (by decide) ?_
                  refine j_aload_n C0 2 dL_acts_407 rfl rfl rfl ?_
                  refine j_iload_n C0 1 dL_acts_408 rfl rfl rfl ?_
                  refine j_iload_n C0 3 dL_acts_409 rfl rfl rfl ?_
                  refine j_bipush C0 6 dL_acts_410 (by decide) rfl ?_
                  refine j_ishr C0 dL_acts_412 rfl ?_
                  refine j_bipush C0 16 dL_acts_413 (by decide) rfl ?_
                  refine j_irem C0 dL_acts_415 (by decide) rfl ?_
                  refine j_callVi C0 2 [.int v1, .int ((a1 >>> ((6 : Int32) &&& 31)) - (a1 >>> ((6 : Int32) &&& 31)) / 16 * 16)] (c_X5_valueOf v1 ((a1 >>> ((6 : Int32) &&& 31)) - (a1 >>> ((6 : Int32) &&& 31)) / 16 * 16)  hX) dL_acts_416 gL_acts_X5_valueOf rfl (by decide +kernel) ⟨⟨Nat.le_of_ble_eq_true rfl, Nat.le_of_ble_eq_true rfl⟩, rfl, rfl⟩ (kd_lt (rfl : kd 0 = 5) (by decide)) (ce5 (rfl : kd 0 = 5)) rfl rfl rfl (Nat.le_of_ble_eq_true rfl) rfl (fun r77 μ76 hX => ?_)
                  refine j_istore C0 [(13, .int r77), (3, .int v2), (2, .int v1), (0, .ref (ad 0)), (1, .int a1)] dL_acts_419 (by decide) rfl rfl ?_
                  refine j_aload_n C0 3 dL_acts_421 rfl rfl rfl ?_
                  refine j_iconst C0 0 dL_acts_422 (by decide) rfl ?_
                  refine j_callVi C0 1 [.int 0] (c_X5_count 0  hX) dL_acts_423 gL_acts_X5_count rfl (by decide +kernel) ⟨⟨Nat.le_of_ble_eq_true rfl, Nat.le_of_ble_eq_true rfl⟩, rfl, rfl⟩ (kd_lt (rfl : kd 0 = 5) (by decide)) (ce5 (rfl : kd 0 = 5)) rfl rfl rfl (Nat.le_of_ble_eq_true rfl) rfl (fun r79 μ78 hX => ?_)
                  refine j_istore C0 [(14, .int r79), (13, .int r77), (3, .int v2), (2, .int v1), (0, .ref (ad 0)), (1, .int a1)] dL_acts_426 (by decide) rfl rfl ?_
                  refine j_aload_n C0 4 dL_acts_428 rfl rfl rfl ?_
                  refine j_iload_n C0 3 dL_acts_429 rfl rfl rfl ?_
                  refine j_iload_n C0 5 dL_acts_430 rfl rfl rfl ?_
                  refine j_bipush C0 6 dL_acts_431 (by decide) rfl ?_
                  refine j_ishr C0 dL_acts_433 rfl ?_
                  refine j_bipush C0 16 dL_acts_434 (by decide) rfl ?_
                  refine j_irem C0 dL_acts_436 (by decide) rfl ?_
                  refine j_iload_n C0 5 dL_acts_437 rfl rfl rfl ?_
                  refine j_bipush C0 10 dL_acts_438 (by decide) rfl ?_
                  refine j_ishr C0 dL_acts_440 rfl ?_
                  refine j_bipush C0 16 dL_acts_441 (by decide) rfl ?_
                  refine j_irem C0 dL_acts_443 (by decide) rfl ?_
                  refine j_callVi C0 3 [.int v1, .int ((a1 >>> ((6 : Int32) &&& 31)) - (a1 >>> ((6 : Int32) &&& 31)) / 16 * 16), .int ((a1 >>> ((10 : Int32) &&& 31)) - (a1 >>> ((10 : Int32) &&& 31)) / 16 * 16)] (c_X5_fill v1 ((a1 >>> ((6 : Int32) &&& 31)) - (a1 >>> ((6 : Int32) &&& 31)) / 16 * 16) ((a1 >>> ((10 : Int32) &&& 31)) - (a1 >>> ((10 : Int32) &&& 31)) / 16 * 16)  hX) dL_acts_444 gL_acts_X5_fill rfl (by decide +kernel) ⟨⟨Nat.le_of_ble_eq_true rfl, Nat.le_of_ble_eq_true rfl⟩, rfl, rfl⟩ (kd_lt (rfl : kd 0 = 5) (by decide)) (ce5 (rfl : kd 0 = 5)) rfl rfl rfl (Nat.le_of_ble_eq_true rfl) rfl (fun r81 μ80 hX => ?_)
                  refine j_iload C0 1 dL_acts_447 rfl rfl ?_
                  refine j_icmp_ne C0 (tgt := 515) dL_acts_449 (by decide) rfl (fun c82 => ?_) (fun c82 => ?_)
                  · have hX := hX.1 c82
                    refine j_aload_n C0 4 dL_acts_452 rfl rfl rfl ?_
                    refine j_iload_n C0 3 dL_acts_453 rfl rfl rfl ?_
                    refine j_iload_n C0 5 dL_acts_454 rfl rfl rfl ?_
                    refine j_bipush C0 6 dL_acts_455 (by decide) rfl ?_
                    refine j_ishr C0 dL_acts_457 rfl ?_
                    refine j_bipush C0 16 dL_acts_458 (by decide) rfl ?_
                    refine j_irem C0 dL_acts_460 (by decide) rfl ?_
                    refine j_callVi C0 2 [.int v1, .int ((a1 >>> ((6 : Int32) &&& 31)) - (a1 >>> ((6 : Int32) &&& 31)) / 16 * 16)] (c_X5_valueOf v1 ((a1 >>> ((6 : Int32) &&& 31)) - (a1 >>> ((6 : Int32) &&& 31)) / 16 * 16)  hX) dL_acts_461 gL_acts_X5_valueOf rfl (by decide +kernel) ⟨⟨Nat.le_of_ble_eq_true rfl, Nat.le_of_ble_eq_true rfl⟩, rfl, rfl⟩ (kd_lt (rfl : kd 0 = 5) (by decide)) (ce5 (rfl : kd 0 = 5)) rfl rfl rfl (Nat.le_of_ble_eq_true rfl) rfl (fun r84 μ83 hX => ?_)
                    refine j_iload_n C0 5 dL_acts_464 rfl rfl rfl ?_
                    refine j_bipush C0 10 dL_acts_465 (by decide) rfl ?_
                    refine j_ishr C0 dL_acts_467 rfl ?_
                    refine j_bipush C0 16 dL_acts_468 (by decide) rfl ?_
                    refine j_irem C0 dL_acts_470 (by decide) rfl ?_
                    refine j_icmp_ne C0 (tgt := 515) dL_acts_471 (by decide) rfl (fun c85 => ?_) (fun c85 => ?_)
                    · have hX := hX.1 c85
                      refine j_aload_n C0 4 dL_acts_474 rfl rfl rfl ?_
                      refine j_iconst C0 1 dL_acts_475 (by decide) rfl ?_
                      refine j_iload_n C0 5 dL_acts_476 rfl rfl rfl ?_
                      refine j_bipush C0 14 dL_acts_477 (by decide) rfl ?_
                      refine j_ishr C0 dL_acts_479 rfl ?_
                      refine j_sipush C0 960 dL_acts_480 (by decide) rfl ?_
                      refine j_irem C0 dL_acts_483 (by decide) rfl ?_
                      refine j_iadd C0 dL_acts_484 rfl ?_
                      refine j_callVi C0 1 [.int ((1 : Int32) + ((a1 >>> ((14 : Int32) &&& 31)) - (a1 >>> ((14 : Int32) &&& 31)) / 960 * 960))] (c_X5_clip ((1 : Int32) + ((a1 >>> ((14 : Int32) &&& 31)) - (a1 >>> ((14 : Int32) &&& 31)) / 960 * 960))  hX) dL_acts_485 gL_acts_X5_clip rfl (by decide +kernel) ⟨⟨Nat.le_of_ble_eq_true rfl, Nat.le_of_ble_eq_true rfl⟩, rfl, rfl⟩ (kd_lt (rfl : kd 0 = 5) (by decide)) (ce5 (rfl : kd 0 = 5)) rfl rfl rfl (Nat.le_of_ble_eq_true rfl) rfl (fun r87 μ86 hX => ?_)
                      refine j_iload C0 0 dL_acts_488 rfl rfl ?_
                      refine j_icmp_ne C0 (tgt := 515) dL_acts_490 (by decide) rfl (fun c88 => ?_) (fun c88 => ?_)
                      · have hX := hX.1 c88
                        refine j_aload_n C0 4 dL_acts_493 rfl rfl rfl ?_
                        refine j_iconst C0 0 dL_acts_494 (by decide) rfl ?_
                        refine j_callVi C0 1 [.int 0] (c_X5_count 0  hX) dL_acts_495 gL_acts_X5_count rfl (by decide +kernel) ⟨⟨Nat.le_of_ble_eq_true rfl, Nat.le_of_ble_eq_true rfl⟩, rfl, rfl⟩ (kd_lt (rfl : kd 0 = 5) (by decide)) (ce5 (rfl : kd 0 = 5)) rfl rfl rfl (Nat.le_of_ble_eq_true rfl) rfl (fun r90 μ89 hX => ?_)
                        refine j_iconst C0 1 dL_acts_498 (by decide) rfl ?_
                        refine j_iload_n C0 5 dL_acts_499 rfl rfl rfl ?_
                        refine j_bipush C0 14 dL_acts_500 (by decide) rfl ?_
                        refine j_ishr C0 dL_acts_502 rfl ?_
                        refine j_sipush C0 960 dL_acts_503 (by decide) rfl ?_
                        refine j_irem C0 dL_acts_506 (by decide) rfl ?_
                        refine j_iadd C0 dL_acts_507 rfl ?_
                        refine j_icmp_ne C0 (tgt := 515) dL_acts_508 (by decide) rfl (fun c91 => ?_) (fun c91 => ?_)
                        · have hX := hX.1 c91
                          refine j_iconst C0 1 dL_acts_511 (by decide) rfl ?_
                          refine j_goto C0 (tgt := 516) dL_acts_512 (by decide) ?_
                          exact j_zret C0 hlk hret dL_acts_516 zb1 hX
                        · have hX := hX.2 c91
                          refine j_iconst C0 0 dL_acts_515 (by decide) rfl ?_
                          exact j_zret C0 hlk hret dL_acts_516 zb0 hX
                      · have hX := hX.2 c88
                        refine j_iconst C0 0 dL_acts_515 (by decide) rfl ?_
                        exact j_zret C0 hlk hret dL_acts_516 zb0 hX
                    · have hX := hX.2 c85
                      refine j_iconst C0 0 dL_acts_515 (by decide) rfl ?_
                      exact j_zret C0 hlk hret dL_acts_516 zb0 hX
                  · have hX := hX.2 c82
                    refine j_iconst C0 0 dL_acts_515 (by decide) rfl ?_
                    exact j_zret C0 hlk hret dL_acts_516 zb0 hX
                · have hX := hX.2 c75
                  have t_c3 : ¬ ((a1 - a1 / 10 * 10)).toInt = 0 := lv_neT c3 (by decide)
                  have t_c15 : ¬ ((a1 - a1 / 10 * 10)).toInt = 1 := lv_neT c15 (by decide)
                  have t_c24 : ¬ ((a1 - a1 / 10 * 10)).toInt = 2 := lv_neT c24 (by decide)
                  have t_c33 : ¬ ((a1 - a1 / 10 * 10)).toInt = 3 := lv_neT c33 (by decide)
                  have t_c48 : ¬ ((a1 - a1 / 10 * 10)).toInt = 4 := lv_neT c48 (by decide)
                  have t_c57 : ¬ ((a1 - a1 / 10 * 10)).toInt = 5 := lv_neT c57 (by decide)
                  have t_c74 : ¬ ((a1 - a1 / 10 * 10)).toInt = 6 := lv_neT c74 (by decide)
                  have t_c75 : ¬ ((a1 - a1 / 10 * 10)).toInt = 7 := lv_neT c75 (by decide)
                  refine j_tableOut C0 (tgt := 517) dL_acts_18 (by omega) (by decide) ?_
                  refine j_aload_n C0 2 dL_acts_517 rfl rfl rfl ?_
                  refine j_iconst C0 1 dL_acts_518 (by decide) rfl ?_
                  refine j_callVi C0 1 [.int 1] (c_X5_count 1  hX) dL_acts_519 gL_acts_X5_count rfl (by decide +kernel) ⟨⟨Nat.le_of_ble_eq_true rfl, Nat.le_of_ble_eq_true rfl⟩, rfl, rfl⟩ (kd_lt (rfl : kd 0 = 5) (by decide)) (ce5 (rfl : kd 0 = 5)) rfl rfl rfl (Nat.le_of_ble_eq_true rfl) rfl (fun r93 μ92 hX => ?_)
                  refine j_istore C0 [(15, .int r93), (3, .int v2), (2, .int v1), (0, .ref (ad 0)), (1, .int a1)] dL_acts_522 (by decide) rfl rfl ?_
                  refine j_iconst C0 1 dL_acts_524 (by decide) rfl ?_
                  refine j_iload_n C0 4 dL_acts_525 rfl rfl rfl ?_
                  refine j_iconst C0 4 dL_acts_526 (by decide) rfl ?_
                  refine j_ishr C0 dL_acts_527 rfl ?_
                  refine j_sipush C0 200 dL_acts_528 (by decide) rfl ?_
                  refine j_irem C0 dL_acts_531 (by decide) rfl ?_
                  refine j_iadd C0 dL_acts_532 rfl ?_
                  refine j_topi (fun v94 e_v94 => ?_)
                  have hX := hX v94 e_v94
                  refine j_istore C0 [(16, .int v94), (15, .int r93), (3, .int v2), (2, .int v1), (0, .ref (ad 0)), (1, .int a1)] dL_acts_533 (by decide) rfl rfl ?_
                  refine j_aload_n C0 4 dL_acts_535 rfl rfl rfl ?_
                  refine j_iload C0 0 dL_acts_536 rfl rfl ?_
                  refine j_iconst C0 3 dL_acts_538 (by decide) rfl ?_
                  refine j_callVi C0 2 [.int v94, .int 3] (c_X5_ifMade v94 3  hX) dL_acts_539 gL_acts_X5_ifMade rfl (by decide +kernel) ⟨⟨Nat.le_of_ble_eq_true rfl, Nat.le_of_ble_eq_true rfl⟩, rfl, rfl⟩ (kd_lt (rfl : kd 0 = 5) (by decide)) (ce5 (rfl : kd 0 = 5)) rfl rfl rfl (Nat.le_of_ble_eq_true rfl) rfl (fun r96 μ95 hX => ?_)
                  refine j_istore C0 [(17, .int r96), (16, .int v94), (15, .int r93), (3, .int v2), (2, .int v1), (0, .ref (ad 0)), (1, .int a1)] dL_acts_542 (by decide) rfl rfl ?_
                  refine j_aload_n C0 5 dL_acts_544 rfl rfl rfl ?_
                  refine j_iload C0 1 dL_acts_545 rfl rfl ?_
                  refine j_callVi C0 1 [.int v94] (c_X5_make v94  hX) dL_acts_547 gL_acts_X5_make rfl (by decide +kernel) ⟨⟨Nat.le_of_ble_eq_true rfl, Nat.le_of_ble_eq_true rfl⟩, rfl, rfl⟩ (kd_lt (rfl : kd 0 = 5) (by decide)) (ce5 (rfl : kd 0 = 5)) rfl rfl rfl (Nat.le_of_ble_eq_true rfl) rfl (fun r98 μ97 hX => ?_)
                  refine j_iload C0 0 dL_acts_550 rfl rfl ?_
                  refine j_icmp_ne C0 (tgt := 582) dL_acts_552 (by decide) rfl (fun c99 => ?_) (fun c99 => ?_)
                  · have hX := hX.1 c99
                    refine j_aload_n C0 5 dL_acts_555 rfl rfl rfl ?_
                    refine j_iconst C0 1 dL_acts_556 (by decide) rfl ?_
                    refine j_callVi C0 1 [.int 1] (c_X5_count 1  hX) dL_acts_557 gL_acts_X5_count rfl (by decide +kernel) ⟨⟨Nat.le_of_ble_eq_true rfl, Nat.le_of_ble_eq_true rfl⟩, rfl, rfl⟩ (kd_lt (rfl : kd 0 = 5) (by decide)) (ce5 (rfl : kd 0 = 5)) rfl rfl rfl (Nat.le_of_ble_eq_true rfl) rfl (fun r101 μ100 hX => ?_)
                    refine j_iload C0 2 dL_acts_560 rfl rfl ?_
                    refine j_iload C0 1 dL_acts_562 rfl rfl ?_
                    refine j_iadd C0 dL_acts_564 rfl ?_
                    refine j_icmp_ne C0 (tgt := 582) dL_acts_565 (by decide) rfl (fun c102 => ?_) (fun c102 => ?_)
                    · have hX := hX.1 c102
                      refine j_aload_n C0 5 dL_acts_568 rfl rfl rfl ?_
                      refine j_iconst C0 0 dL_acts_569 (by decide) rfl ?_
                      refine j_callVi C0 1 [.int 0] (c_X5_sample 0  hX) dL_acts_570 gL_acts_X5_sample rfl (by decide +kernel) ⟨⟨Nat.le_of_ble_eq_true rfl, Nat.le_of_ble_eq_true rfl⟩, rfl, rfl⟩ (kd_lt (rfl : kd 0 = 5) (by decide)) (ce5 (rfl : kd 0 = 5)) rfl rfl rfl (Nat.le_of_ble_eq_true rfl) rfl (fun r104 μ103 hX => ?_)
                      refine j_iload C0 0 dL_acts_573 rfl rfl ?_
                      refine j_icmp_ne C0 (tgt := 582) dL_acts_575 (by decide) rfl (fun c105 => ?_) (fun c105 => ?_)
                      · have hX := hX.1 c105
                        refine j_iconst C0 1 dL_acts_578 (by decide) rfl ?_
                        refine j_goto C0 (tgt := 583) dL_acts_579 (by decide) ?_
                        exact j_zret C0 hlk hret dL_acts_583 zb1 hX
                      · have hX := hX.2 c105
                        refine j_iconst C0 0 dL_acts_582 (by decide) rfl ?_
                        exact j_zret C0 hlk hret dL_acts_583 zb0 hX
                    · have hX := hX.2 c102
                      refine j_iconst C0 0 dL_acts_582 (by decide) rfl ?_
                      exact j_zret C0 hlk hret dL_acts_583 zb0 hX
                  · have hX := hX.2 c99
                    refine j_iconst C0 0 dL_acts_582 (by decide) rfl ?_
                    exact j_zret C0 hlk hret dL_acts_583 zb0 hX
theorem c_L_acts {l : Launch} {D : va_G} {Y : Nat → ClassId} {ad : Nat → Nat} (a1 : Int32) {μ : Mem} {K : Int32 → Mem → Prop}  (hX : x_L_acts a1 μ K) : ConI l yL_acts wsL_acts rm_L_acts [.ref (ad 0), .int a1] D Y ad μ K := conI_of (cc := cL_acts) (maxL := 18) (ret := (some .boolean)) (own := RL) _ (by decide +kernel) rfl rfl (Nat.le_of_ble_eq_true rfl) (fun p e s m args below meth c C0 hlk hret => j_sub (l' := [(0, .ref (ad 0)), (1, .int a1)]) [0, 1] rfl (w_L_acts C0 hlk hret a1 μ K  hX))
/-! PhaseTonesLaw.isRound(LPhaseTones;I)Z -/
abbrev rm_L_isRound : Room := rmf 6 129
theorem hw_L_isRound_0 : Cond.constant RL 81 (70000) ∈ wsL_isRound := by decide +kernel
def x_L_isRound_L133 (K : Int32 → Mem → Prop) (B : Int32 → Int32 → Int32 → Int32 → Int32 → Mem → Prop) (a1 : Int32) (a2 : Int32) (a6 : Int32) (as0 : Int32) (μ : Mem) : Prop :=
  x_X5_wheel a1 0 μ (fun r16 μ15 => ∀ v17 : Int32, v17 = a6 + 1 → B a1 a2 as0 r16 v17 μ15)
set_option maxRecDepth 20000 in
theorem w_L_isRound_L133 {p : Program} {l : Launch} {e : Env} {s : State} {m : MethodId} {args : Array Value} {below : List Frame} {meth : Method} {c : Code} {D : va_G} {Y : Nat → ClassId} {ad : Nat → Nat} (C0 : CX D Y ad (PA ad) rm_L_isRound 0 0 p s args m c cL_isRound 7 RL wsL_isRound) (hlk : meth.locks = false) (hret : meth.sig.returnType = (some .boolean)) (a1 : Int32) (a2 : Int32) (a6 : Int32) (as0 : Int32) (μ : Mem) (K : Int32 → Mem → Prop) (B : Int32 → Int32 → Int32 → Int32 → Int32 → Mem → Prop) (hB : ∀ (a1 : Int32) (a2 : Int32) (a4 : Int32) (a5 : Int32) (a6 : Int32) (μ : Mem), B a1 a2 a4 a5 a6 μ → J p l e rm_L_isRound s m args below meth c D Y ad (PA ad) 0 0 7 (MQ below (va_Qi K (BB D Y ad) (PA ad)) args s 0 0 (PA ad)) 68 [(0, .ref (ad 0)), (1, .int a1), (2, .int a2), (4, .int a4), (5, .int a5), (6, .int a6)] [] μ)  (hX : x_L_isRound_L133 K B a1 a2 a6 as0 μ) : J p l e rm_L_isRound s m args below meth c D Y ad (PA ad) 0 0 7 (MQ below (va_Qi K (BB D Y ad) (PA ad)) args s 0 0 (PA ad)) 133 [(0, .ref (ad 0)), (1, .int a1), (2, .int a2), (6, .int a6)] [.int as0] μ := by
  refine j_istore C0 [(4, .int as0), (0, .ref (ad 0)), (1, .int a1), (2, .int a2), (6, .int a6)] dL_isRound_133 (by decide) rfl rfl ?_
  refine j_aload_n C0 1 dL_isRound_135 rfl rfl rfl ?_
  refine j_iload_n C0 2 dL_isRound_136 rfl rfl rfl ?_
  refine j_iconst C0 0 dL_isRound_137 (by decide) rfl ?_
  refine j_callVi C0 2 [.int a1, .int 0] (c_X5_wheel a1 0  hX) dL_isRound_138 gL_isRound_X5_wheel rfl (by decide +kernel) ⟨⟨Nat.le_of_ble_eq_true rfl, Nat.le_of_ble_eq_true rfl⟩, rfl, rfl⟩ (kd_lt (rfl : kd 0 = 5) (by decide)) (ce5 (rfl : kd 0 = 5)) rfl rfl rfl (Nat.le_of_ble_eq_true rfl) rfl (fun r16 μ15 hX => ?_)
  refine j_istore C0 [(5, .int r16), (4, .int as0), (0, .ref (ad 0)), (1, .int a1), (2, .int a2), (6, .int a6)] dL_isRound_141 (by decide) rfl rfl ?_
  obtain ⟨v17, e_v17⟩ : ∃ z : Int32, z = a6 + 1 := ⟨_, rfl⟩
  have hX := hX v17 e_v17
  refine j_iinc C0 5 v17 [(6, .int v17), (5, .int r16), (4, .int as0), (0, .ref (ad 0)), (1, .int a1), (2, .int a2)] dL_isRound_143 rfl (by rw [e_v17]; rfl) (by decide) rfl rfl ?_
  refine j_goto C0 (tgt := 68) dL_isRound_146 (by decide) ?_
  exact j_sub (l' := [(0, .ref (ad 0)), (1, .int a1), (2, .int a2), (4, .int as0), (5, .int r16), (6, .int v17)]) [3, 4, 5, 2, 1, 0] rfl (hB a1 a2 as0 r16 v17 μ15  hX)
def x_L_isRound_L132 (K : Int32 → Mem → Prop) (B : Int32 → Int32 → Int32 → Int32 → Int32 → Mem → Prop) (a1 : Int32) (a2 : Int32) (a6 : Int32) (μ : Mem) : Prop :=
  x_L_isRound_L133 K B a1 a2 a6 0 μ
set_option maxRecDepth 20000 in
theorem w_L_isRound_L132 {p : Program} {l : Launch} {e : Env} {s : State} {m : MethodId} {args : Array Value} {below : List Frame} {meth : Method} {c : Code} {D : va_G} {Y : Nat → ClassId} {ad : Nat → Nat} (C0 : CX D Y ad (PA ad) rm_L_isRound 0 0 p s args m c cL_isRound 7 RL wsL_isRound) (hlk : meth.locks = false) (hret : meth.sig.returnType = (some .boolean)) (a1 : Int32) (a2 : Int32) (a6 : Int32) (μ : Mem) (K : Int32 → Mem → Prop) (B : Int32 → Int32 → Int32 → Int32 → Int32 → Mem → Prop) (hB : ∀ (a1 : Int32) (a2 : Int32) (a4 : Int32) (a5 : Int32) (a6 : Int32) (μ : Mem), B a1 a2 a4 a5 a6 μ → J p l e rm_L_isRound s m args below meth c D Y ad (PA ad) 0 0 7 (MQ below (va_Qi K (BB D Y ad) (PA ad)) args s 0 0 (PA ad)) 68 [(0, .ref (ad 0)), (1, .int a1), (2, .int a2), (4, .int a4), (5, .int a5), (6, .int a6)] [] μ)  (hX : x_L_isRound_L132 K B a1 a2 a6 μ) : J p l e rm_L_isRound s m args below meth c D Y ad (PA ad) 0 0 7 (MQ below (va_Qi K (BB D Y ad) (PA ad)) args s 0 0 (PA ad)) 132 [(0, .ref (ad 0)), (1, .int a1), (2, .int a2), (6, .int a6)] [] μ := by
  refine j_iconst C0 0 dL_isRound_132 (by decide) rfl ?_
  exact j_sub (l' := [(0, .ref (ad 0)), (1, .int a1), (2, .int a2), (6, .int a6)]) [0, 1, 2, 3] rfl (w_L_isRound_L133 C0 hlk hret a1 a2 a6 0 μ K B hB  hX)
def x_L_isRound_L125 (K : Int32 → Mem → Prop) (B : Int32 → Int32 → Int32 → Int32 → Int32 → Mem → Prop) (a1 : Int32) (a2 : Int32) (a6 : Int32) (as0 : Int32) (as1 : Int32) (μ : Mem) : Prop :=
  (as1 = as0 → x_L_isRound_L133 K B a1 a2 a6 1 μ) ∧ (¬ (as1 = as0) → x_L_isRound_L132 K B a1 a2 a6 μ)
set_option maxRecDepth 20000 in
theorem w_L_isRound_L125 {p : Program} {l : Launch} {e : Env} {s : State} {m : MethodId} {args : Array Value} {below : List Frame} {meth : Method} {c : Code} {D : va_G} {Y : Nat → ClassId} {ad : Nat → Nat} (C0 : CX D Y ad (PA ad) rm_L_isRound 0 0 p s args m c cL_isRound 7 RL wsL_isRound) (hlk : meth.locks = false) (hret : meth.sig.returnType = (some .boolean)) (a1 : Int32) (a2 : Int32) (a6 : Int32) (as0 : Int32) (as1 : Int32) (μ : Mem) (K : Int32 → Mem → Prop) (B : Int32 → Int32 → Int32 → Int32 → Int32 → Mem → Prop) (hB : ∀ (a1 : Int32) (a2 : Int32) (a4 : Int32) (a5 : Int32) (a6 : Int32) (μ : Mem), B a1 a2 a4 a5 a6 μ → J p l e rm_L_isRound s m args below meth c D Y ad (PA ad) 0 0 7 (MQ below (va_Qi K (BB D Y ad) (PA ad)) args s 0 0 (PA ad)) 68 [(0, .ref (ad 0)), (1, .int a1), (2, .int a2), (4, .int a4), (5, .int a5), (6, .int a6)] [] μ)  (hX : x_L_isRound_L125 K B a1 a2 a6 as0 as1 μ) : J p l e rm_L_isRound s m args below meth c D Y ad (PA ad) 0 0 7 (MQ below (va_Qi K (BB D Y ad) (PA ad)) args s 0 0 (PA ad)) 125 [(0, .ref (ad 0)), (1, .int a1), (2, .int a2), (6, .int a6)] [.int as0, .int as1] μ := by
  refine j_icmp_ne C0 (tgt := 132) dL_isRound_125 (by decide) rfl (fun c22 => ?_) (fun c22 => ?_)
  · have hX := hX.1 c22
    refine j_iconst C0 1 dL_isRound_128 (by decide) rfl ?_
    refine j_goto C0 (tgt := 133) dL_isRound_129 (by decide) ?_
    exact j_sub (l' := [(0, .ref (ad 0)), (1, .int a1), (2, .int a2), (6, .int a6)]) [0, 1, 2, 3] rfl (w_L_isRound_L133 C0 hlk hret a1 a2 a6 1 μ K B hB  hX)
  · have hX := hX.2 c22
    exact j_sub (l' := [(0, .ref (ad 0)), (1, .int a1), (2, .int a2), (6, .int a6)]) [0, 1, 2, 3] rfl (w_L_isRound_L132 C0 hlk hret a1 a2 a6 μ K B hB  hX)
def x_L_isRound_L114 (K : Int32 → Mem → Prop) (B : Int32 → Int32 → Int32 → Int32 → Int32 → Mem → Prop) (a1 : Int32) (a2 : Int32) (a6 : Int32) (as0 : Int32) (μ : Mem) : Prop :=
  (a6 = a2 → x_L_isRound_L125 K B a1 a2 a6 1 as0 μ) ∧ (¬ (a6 = a2) → x_L_isRound_L125 K B a1 a2 a6 0 as0 μ)
set_option maxRecDepth 20000 in
theorem w_L_isRound_L114 {p : Program} {l : Launch} {e : Env} {s : State} {m : MethodId} {args : Array Value} {below : List Frame} {meth : Method} {c : Code} {D : va_G} {Y : Nat → ClassId} {ad : Nat → Nat} (C0 : CX D Y ad (PA ad) rm_L_isRound 0 0 p s args m c cL_isRound 7 RL wsL_isRound) (hlk : meth.locks = false) (hret : meth.sig.returnType = (some .boolean)) (a1 : Int32) (a2 : Int32) (a6 : Int32) (as0 : Int32) (μ : Mem) (K : Int32 → Mem → Prop) (B : Int32 → Int32 → Int32 → Int32 → Int32 → Mem → Prop) (hB : ∀ (a1 : Int32) (a2 : Int32) (a4 : Int32) (a5 : Int32) (a6 : Int32) (μ : Mem), B a1 a2 a4 a5 a6 μ → J p l e rm_L_isRound s m args below meth c D Y ad (PA ad) 0 0 7 (MQ below (va_Qi K (BB D Y ad) (PA ad)) args s 0 0 (PA ad)) 68 [(0, .ref (ad 0)), (1, .int a1), (2, .int a2), (4, .int a4), (5, .int a5), (6, .int a6)] [] μ)  (hX : x_L_isRound_L114 K B a1 a2 a6 as0 μ) : J p l e rm_L_isRound s m args below meth c D Y ad (PA ad) 0 0 7 (MQ below (va_Qi K (BB D Y ad) (PA ad)) args s 0 0 (PA ad)) 114 [(0, .ref (ad 0)), (1, .int a1), (2, .int a2), (6, .int a6)] [.int as0] μ := by
  refine j_iload C0 3 dL_isRound_114 rfl rfl ?_
  refine j_iload_n C0 2 dL_isRound_116 rfl rfl rfl ?_
  refine j_icmp_ne C0 (tgt := 124) dL_isRound_117 (by decide) rfl (fun c21 => ?_) (fun c21 => ?_)
  · have hX := hX.1 c21
    refine j_iconst C0 1 dL_isRound_120 (by decide) rfl ?_
    refine j_goto C0 (tgt := 125) dL_isRound_121 (by decide) ?_
    exact j_sub (l' := [(0, .ref (ad 0)), (1, .int a1), (2, .int a2), (6, .int a6)]) [0, 1, 2, 3] rfl (w_L_isRound_L125 C0 hlk hret a1 a2 a6 1 as0 μ K B hB  hX)
  · have hX := hX.2 c21
    refine j_iconst C0 0 dL_isRound_124 (by decide) rfl ?_
    exact j_sub (l' := [(0, .ref (ad 0)), (1, .int a1), (2, .int a2), (6, .int a6)]) [0, 1, 2, 3] rfl (w_L_isRound_L125 C0 hlk hret a1 a2 a6 0 as0 μ K B hB  hX)
def x_L_isRound_L90 (K : Int32 → Mem → Prop) (B : Int32 → Int32 → Int32 → Int32 → Int32 → Mem → Prop) (a1 : Int32) (a2 : Int32) (a5 : Int32) (a6 : Int32) (μ : Mem) : Prop :=
  x_X5_make 1 μ (fun r13 μ12 => (r13 < 0 → x_L_isRound_L132 K B a1 a2 a6 μ12) ∧ (¬ (r13 < 0) → x_X5_wheel a1 0 μ12 (fun r19 μ18 => (a5 ≤ r19 → x_L_isRound_L114 K B a1 a2 a6 0 μ18) ∧ (¬ (a5 ≤ r19) → x_L_isRound_L114 K B a1 a2 a6 1 μ18))))
set_option maxRecDepth 20000 in
theorem w_L_isRound_L90 {p : Program} {l : Launch} {e : Env} {s : State} {m : MethodId} {args : Array Value} {below : List Frame} {meth : Method} {c : Code} {D : va_G} {Y : Nat → ClassId} {ad : Nat → Nat} (C0 : CX D Y ad (PA ad) rm_L_isRound 0 0 p s args m c cL_isRound 7 RL wsL_isRound) (hlk : meth.locks = false) (hret : meth.sig.returnType = (some .boolean)) (a1 : Int32) (a2 : Int32) (a5 : Int32) (a6 : Int32) (μ : Mem) (K : Int32 → Mem → Prop) (B : Int32 → Int32 → Int32 → Int32 → Int32 → Mem → Prop) (hB : ∀ (a1 : Int32) (a2 : Int32) (a4 : Int32) (a5 : Int32) (a6 : Int32) (μ : Mem), B a1 a2 a4 a5 a6 μ → J p l e rm_L_isRound s m args below meth c D Y ad (PA ad) 0 0 7 (MQ below (va_Qi K (BB D Y ad) (PA ad)) args s 0 0 (PA ad)) 68 [(0, .ref (ad 0)), (1, .int a1), (2, .int a2), (4, .int a4), (5, .int a5), (6, .int a6)] [] μ)  (hX : x_L_isRound_L90 K B a1 a2 a5 a6 μ) : J p l e rm_L_isRound s m args below meth c D Y ad (PA ad) 0 0 7 (MQ below (va_Qi K (BB D Y ad) (PA ad)) args s 0 0 (PA ad)) 90 [(0, .ref (ad 0)), (1, .int a1), (2, .int a2), (5, .int a5), (6, .int a6)] [] μ := by
  refine j_aload_n C0 0 dL_isRound_90 rfl rfl rfl ?_
  refine j_iconst C0 1 dL_isRound_91 (by decide) rfl ?_
  refine j_callVi C0 1 [.int 1] (c_X5_make 1  hX) dL_isRound_92 gL_isRound_X5_make rfl (by decide +kernel) ⟨⟨Nat.le_of_ble_eq_true rfl, Nat.le_of_ble_eq_true rfl⟩, rfl, rfl⟩ (kd_lt (rfl : kd 0 = 5) (by decide)) (ce5 (rfl : kd 0 = 5)) rfl rfl rfl (Nat.le_of_ble_eq_true rfl) rfl (fun r13 μ12 hX => ?_)
  refine j_if_lt C0 (tgt := 132) dL_isRound_95 (by decide) rfl (fun c14 => ?_) (fun c14 => ?_)
  · have hX := hX.1 c14
    exact j_sub (l' := [(0, .ref (ad 0)), (1, .int a1), (2, .int a2), (6, .int a6)]) [0, 1, 2, 4] rfl (w_L_isRound_L132 C0 hlk hret a1 a2 a6 μ12 K B hB  hX)
  · have hX := hX.2 c14
    refine j_aload_n C0 0 dL_isRound_98 rfl rfl rfl ?_
    refine j_iload_n C0 1 dL_isRound_99 rfl rfl rfl ?_
    refine j_iconst C0 0 dL_isRound_100 (by decide) rfl ?_
    refine j_callVi C0 2 [.int a1, .int 0] (c_X5_wheel a1 0  hX) dL_isRound_101 gL_isRound_X5_wheel rfl (by decide +kernel) ⟨⟨Nat.le_of_ble_eq_true rfl, Nat.le_of_ble_eq_true rfl⟩, rfl, rfl⟩ (kd_lt (rfl : kd 0 = 5) (by decide)) (ce5 (rfl : kd 0 = 5)) rfl rfl rfl (Nat.le_of_ble_eq_true rfl) rfl (fun r19 μ18 hX => ?_)
    refine j_iload C0 3 dL_isRound_104 rfl rfl ?_
    refine j_icmp_ge C0 (tgt := 113) dL_isRound_106 (by decide) rfl (fun c20 => ?_) (fun c20 => ?_)
    · have hX := hX.1 c20
      refine j_iconst C0 0 dL_isRound_113 (by decide) rfl ?_
      exact j_sub (l' := [(0, .ref (ad 0)), (1, .int a1), (2, .int a2), (6, .int a6)]) [0, 1, 2, 4] rfl (w_L_isRound_L114 C0 hlk hret a1 a2 a6 0 μ18 K B hB  hX)
    · have hX := hX.2 c20
      refine j_iconst C0 1 dL_isRound_109 (by decide) rfl ?_
      refine j_goto C0 (tgt := 114) dL_isRound_110 (by decide) ?_
      exact j_sub (l' := [(0, .ref (ad 0)), (1, .int a1), (2, .int a2), (6, .int a6)]) [0, 1, 2, 4] rfl (w_L_isRound_L114 C0 hlk hret a1 a2 a6 1 μ18 K B hB  hX)
def xb_L_isRound_L68 (K : Int32 → Mem → Prop) (B : Int32 → Int32 → Int32 → Int32 → Int32 → Mem → Prop) (a1 : Int32) (a2 : Int32) (a4 : Int32) (a5 : Int32) (a6 : Int32) (μ : Mem) : Prop :=
  (40 < a6 → zb a4 ∧ K a4 μ) ∧ (¬ (40 < a6) → (a4 = 0 → zb a4 ∧ K a4 μ) ∧ (¬ (a4 = 0) → (a2 < 0 → x_L_isRound_L90 K B a1 a2 a5 a6 μ) ∧ (¬ (a2 < 0) → (a2 < a6 → zb a4 ∧ K a4 μ) ∧ (¬ (a2 < a6) → x_L_isRound_L90 K B a1 a2 a5 a6 μ))))
def x_L_isRound_L68 (K : Int32 → Mem → Prop) : Nat → Int32 → Int32 → Int32 → Int32 → Int32 → Mem → Prop
  | 0 => fun _ _ _ _ _ _ => False
  | n + 1 => fun a1 a2 a4 a5 a6 μ => xb_L_isRound_L68 K (x_L_isRound_L68 K n) a1 a2 a4 a5 a6 μ
set_option maxRecDepth 20000 in
theorem wb_L_isRound_L68 {p : Program} {l : Launch} {e : Env} {s : State} {m : MethodId} {args : Array Value} {below : List Frame} {meth : Method} {c : Code} {D : va_G} {Y : Nat → ClassId} {ad : Nat → Nat} (C0 : CX D Y ad (PA ad) rm_L_isRound 0 0 p s args m c cL_isRound 7 RL wsL_isRound) (hlk : meth.locks = false) (hret : meth.sig.returnType = (some .boolean)) (a1 : Int32) (a2 : Int32) (a4 : Int32) (a5 : Int32) (a6 : Int32) (μ : Mem) (K : Int32 → Mem → Prop) (B : Int32 → Int32 → Int32 → Int32 → Int32 → Mem → Prop) (hB : ∀ (a1 : Int32) (a2 : Int32) (a4 : Int32) (a5 : Int32) (a6 : Int32) (μ : Mem), B a1 a2 a4 a5 a6 μ → J p l e rm_L_isRound s m args below meth c D Y ad (PA ad) 0 0 7 (MQ below (va_Qi K (BB D Y ad) (PA ad)) args s 0 0 (PA ad)) 68 [(0, .ref (ad 0)), (1, .int a1), (2, .int a2), (4, .int a4), (5, .int a5), (6, .int a6)] [] μ)  (hX : xb_L_isRound_L68 K B a1 a2 a4 a5 a6 μ) : J p l e rm_L_isRound s m args below meth c D Y ad (PA ad) 0 0 7 (MQ below (va_Qi K (BB D Y ad) (PA ad)) args s 0 0 (PA ad)) 68 [(0, .ref (ad 0)), (1, .int a1), (2, .int a2), (4, .int a4), (5, .int a5), (6, .int a6)] [] μ := by
  refine j_iload C0 5 dL_isRound_68 rfl rfl ?_
  refine j_bipush C0 40 dL_isRound_70 (by decide) rfl ?_
  refine j_icmp_gt C0 (tgt := 149) dL_isRound_72 (by decide) rfl (fun c9 => ?_) (fun c9 => ?_)
  · have hX := hX.1 c9
    refine j_iload C0 3 dL_isRound_149 rfl rfl ?_
    exact j_zret C0 hlk hret dL_isRound_151 hX.1 hX.2
  · have hX := hX.2 c9
    refine j_iload C0 3 dL_isRound_75 rfl rfl ?_
    refine j_if_eq C0 (tgt := 149) dL_isRound_77 (by decide) rfl (fun c10 => ?_) (fun c10 => ?_)
    · have hX := hX.1 c10
      refine j_iload C0 3 dL_isRound_149 rfl rfl ?_
      exact j_zret C0 hlk hret dL_isRound_151 hX.1 hX.2
    · have hX := hX.2 c10
      refine j_iload_n C0 2 dL_isRound_80 rfl rfl rfl ?_
      refine j_if_lt C0 (tgt := 90) dL_isRound_81 (by decide) rfl (fun c11 => ?_) (fun c11 => ?_)
      · have hX := hX.1 c11
        exact j_sub (l' := [(0, .ref (ad 0)), (1, .int a1), (2, .int a2), (5, .int a5), (6, .int a6)]) [0, 1, 2, 4, 5] rfl (w_L_isRound_L90 C0 hlk hret a1 a2 a5 a6 μ K B hB  hX)
      · have hX := hX.2 c11
        refine j_iload C0 5 dL_isRound_84 rfl rfl ?_
        refine j_iload_n C0 2 dL_isRound_86 rfl rfl rfl ?_
        refine j_icmp_gt C0 (tgt := 149) dL_isRound_87 (by decide) rfl (fun c23 => ?_) (fun c23 => ?_)
        · have hX := hX.1 c23
          refine j_iload C0 3 dL_isRound_149 rfl rfl ?_
          exact j_zret C0 hlk hret dL_isRound_151 hX.1 hX.2
        · have hX := hX.2 c23
          exact j_sub (l' := [(0, .ref (ad 0)), (1, .int a1), (2, .int a2), (5, .int a5), (6, .int a6)]) [0, 1, 2, 4, 5] rfl (w_L_isRound_L90 C0 hlk hret a1 a2 a5 a6 μ K B hB  hX)
theorem w_L_isRound_L68 {p : Program} {l : Launch} {e : Env} {s : State} {m : MethodId} {args : Array Value} {below : List Frame} {meth : Method} {c : Code} {D : va_G} {Y : Nat → ClassId} {ad : Nat → Nat} (C0 : CX D Y ad (PA ad) rm_L_isRound 0 0 p s args m c cL_isRound 7 RL wsL_isRound) (hlk : meth.locks = false) (hret : meth.sig.returnType = (some .boolean)) (K : Int32 → Mem → Prop) : ∀ (n : Nat) (a1 : Int32) (a2 : Int32) (a4 : Int32) (a5 : Int32) (a6 : Int32) (μ : Mem)  (hX : x_L_isRound_L68 K n a1 a2 a4 a5 a6 μ), J p l e rm_L_isRound s m args below meth c D Y ad (PA ad) 0 0 7 (MQ below (va_Qi K (BB D Y ad) (PA ad)) args s 0 0 (PA ad)) 68 [(0, .ref (ad 0)), (1, .int a1), (2, .int a2), (4, .int a4), (5, .int a5), (6, .int a6)] [] μ
  | 0, a1, a2, a4, a5, a6, μ, hX => hX.elim
  | n + 1, a1, a2, a4, a5, a6, μ, hX => wb_L_isRound_L68 C0 hlk hret a1 a2 a4 a5 a6 μ K (x_L_isRound_L68 K n) (fun a1 a2 a4 a5 a6 μ  hx => w_L_isRound_L68 C0 hlk hret K n a1 a2 a4 a5 a6 μ  hx)  hX
def x_L_isRound_L55 (K : Int32 → Mem → Prop) (a1 : Int32) (a2 : Int32) (as0 : Int32) (μ : Mem) : Prop :=
  x_X5_wheel a1 0 μ (fun r8 μ7 => ∃ n : Nat, x_L_isRound_L68 K n a1 a2 as0 r8 1 μ7)
set_option maxRecDepth 20000 in
theorem w_L_isRound_L55 {p : Program} {l : Launch} {e : Env} {s : State} {m : MethodId} {args : Array Value} {below : List Frame} {meth : Method} {c : Code} {D : va_G} {Y : Nat → ClassId} {ad : Nat → Nat} (C0 : CX D Y ad (PA ad) rm_L_isRound 0 0 p s args m c cL_isRound 7 RL wsL_isRound) (hlk : meth.locks = false) (hret : meth.sig.returnType = (some .boolean)) (a1 : Int32) (a2 : Int32) (as0 : Int32) (μ : Mem) (K : Int32 → Mem → Prop)  (hX : x_L_isRound_L55 K a1 a2 as0 μ) : J p l e rm_L_isRound s m args below meth c D Y ad (PA ad) 0 0 7 (MQ below (va_Qi K (BB D Y ad) (PA ad)) args s 0 0 (PA ad)) 55 [(0, .ref (ad 0)), (1, .int a1), (2, .int a2)] [.int as0] μ := by
  refine j_istore C0 [(4, .int as0), (0, .ref (ad 0)), (1, .int a1), (2, .int a2)] dL_isRound_55 (by decide) rfl rfl ?_
  refine j_aload_n C0 1 dL_isRound_57 rfl rfl rfl ?_
  refine j_iload_n C0 2 dL_isRound_58 rfl rfl rfl ?_
  refine j_iconst C0 0 dL_isRound_59 (by decide) rfl ?_
  refine j_callVi C0 2 [.int a1, .int 0] (c_X5_wheel a1 0  hX) dL_isRound_60 gL_isRound_X5_wheel rfl (by decide +kernel) ⟨⟨Nat.le_of_ble_eq_true rfl, Nat.le_of_ble_eq_true rfl⟩, rfl, rfl⟩ (kd_lt (rfl : kd 0 = 5) (by decide)) (ce5 (rfl : kd 0 = 5)) rfl rfl rfl (Nat.le_of_ble_eq_true rfl) rfl (fun r8 μ7 hX => ?_)
  refine j_istore C0 [(5, .int r8), (4, .int as0), (0, .ref (ad 0)), (1, .int a1), (2, .int a2)] dL_isRound_63 (by decide) rfl rfl ?_
  refine j_iconst C0 1 dL_isRound_65 (by decide) rfl ?_
  refine j_istore C0 [(6, .int 1), (5, .int r8), (4, .int as0), (0, .ref (ad 0)), (1, .int a1), (2, .int a2)] dL_isRound_66 (by decide) rfl rfl ?_
  obtain ⟨n, hX⟩ := hX
  exact j_sub (l' := [(0, .ref (ad 0)), (1, .int a1), (2, .int a2), (4, .int as0), (5, .int r8), (6, .int 1)]) [3, 4, 5, 2, 1, 0] rfl (w_L_isRound_L68 C0 hlk hret K n a1 a2 as0 r8 1 μ7  hX)
def x_L_isRound_L54 (K : Int32 → Mem → Prop) (a1 : Int32) (a2 : Int32) (μ : Mem) : Prop :=
  x_L_isRound_L55 K a1 a2 0 μ
set_option maxRecDepth 20000 in
theorem w_L_isRound_L54 {p : Program} {l : Launch} {e : Env} {s : State} {m : MethodId} {args : Array Value} {below : List Frame} {meth : Method} {c : Code} {D : va_G} {Y : Nat → ClassId} {ad : Nat → Nat} (C0 : CX D Y ad (PA ad) rm_L_isRound 0 0 p s args m c cL_isRound 7 RL wsL_isRound) (hlk : meth.locks = false) (hret : meth.sig.returnType = (some .boolean)) (a1 : Int32) (a2 : Int32) (μ : Mem) (K : Int32 → Mem → Prop)  (hX : x_L_isRound_L54 K a1 a2 μ) : J p l e rm_L_isRound s m args below meth c D Y ad (PA ad) 0 0 7 (MQ below (va_Qi K (BB D Y ad) (PA ad)) args s 0 0 (PA ad)) 54 [(0, .ref (ad 0)), (1, .int a1), (2, .int a2)] [] μ := by
  refine j_iconst C0 0 dL_isRound_54 (by decide) rfl ?_
  exact j_sub (l' := [(0, .ref (ad 0)), (1, .int a1), (2, .int a2)]) [0, 1, 2] rfl (w_L_isRound_L55 C0 hlk hret a1 a2 0 μ K  hX)
def x_L_isRound_L50 (K : Int32 → Mem → Prop) (a1 : Int32) (a2 : Int32) (μ : Mem) : Prop :=
  x_L_isRound_L55 K a1 a2 1 μ
set_option maxRecDepth 20000 in
theorem w_L_isRound_L50 {p : Program} {l : Launch} {e : Env} {s : State} {m : MethodId} {args : Array Value} {below : List Frame} {meth : Method} {c : Code} {D : va_G} {Y : Nat → ClassId} {ad : Nat → Nat} (C0 : CX D Y ad (PA ad) rm_L_isRound 0 0 p s args m c cL_isRound 7 RL wsL_isRound) (hlk : meth.locks = false) (hret : meth.sig.returnType = (some .boolean)) (a1 : Int32) (a2 : Int32) (μ : Mem) (K : Int32 → Mem → Prop)  (hX : x_L_isRound_L50 K a1 a2 μ) : J p l e rm_L_isRound s m args below meth c D Y ad (PA ad) 0 0 7 (MQ below (va_Qi K (BB D Y ad) (PA ad)) args s 0 0 (PA ad)) 50 [(0, .ref (ad 0)), (1, .int a1), (2, .int a2)] [] μ := by
  refine j_iconst C0 1 dL_isRound_50 (by decide) rfl ?_
  refine j_goto C0 (tgt := 55) dL_isRound_51 (by decide) ?_
  exact j_sub (l' := [(0, .ref (ad 0)), (1, .int a1), (2, .int a2)]) [0, 1, 2] rfl (w_L_isRound_L55 C0 hlk hret a1 a2 1 μ K  hX)
def x_L_isRound_L30 (K : Int32 → Mem → Prop) (a1 : Int32) (a2 : Int32) (as0 : Int32) (μ : Mem) : Prop :=
  (as0 = 0 → x_L_isRound_L54 K a1 a2 μ) ∧ (¬ (as0 = 0) → (a2 < 0 → x_L_isRound_L50 K a1 a2 μ) ∧ (¬ (a2 < 0) → (a2 < 1 → x_L_isRound_L54 K a1 a2 μ) ∧ (¬ (a2 < 1) → (70000 < a2 → x_L_isRound_L54 K a1 a2 μ) ∧ (¬ (70000 < a2) → x_L_isRound_L50 K a1 a2 μ))))
set_option maxRecDepth 20000 in
theorem w_L_isRound_L30 {p : Program} {l : Launch} {e : Env} {s : State} {m : MethodId} {args : Array Value} {below : List Frame} {meth : Method} {c : Code} {D : va_G} {Y : Nat → ClassId} {ad : Nat → Nat} (C0 : CX D Y ad (PA ad) rm_L_isRound 0 0 p s args m c cL_isRound 7 RL wsL_isRound) (hlk : meth.locks = false) (hret : meth.sig.returnType = (some .boolean)) (a1 : Int32) (a2 : Int32) (as0 : Int32) (μ : Mem) (K : Int32 → Mem → Prop)  (hX : x_L_isRound_L30 K a1 a2 as0 μ) : J p l e rm_L_isRound s m args below meth c D Y ad (PA ad) 0 0 7 (MQ below (va_Qi K (BB D Y ad) (PA ad)) args s 0 0 (PA ad)) 30 [(0, .ref (ad 0)), (1, .int a1), (2, .int a2)] [.int as0] μ := by
  refine j_istore_n C0 [(3, .int as0), (0, .ref (ad 0)), (1, .int a1), (2, .int a2)] dL_isRound_30 rfl (by decide) rfl rfl ?_
  refine j_iload_n C0 0 dL_isRound_31 rfl rfl rfl ?_
  refine j_if_eq C0 (tgt := 54) dL_isRound_32 (by decide) rfl (fun c6 => ?_) (fun c6 => ?_)
  · have hX := hX.1 c6
    exact j_sub (l' := [(0, .ref (ad 0)), (1, .int a1), (2, .int a2)]) [1, 2, 3] rfl (w_L_isRound_L54 C0 hlk hret a1 a2 μ K  hX)
  · have hX := hX.2 c6
    refine j_iload_n C0 3 dL_isRound_35 rfl rfl rfl ?_
    refine j_if_lt C0 (tgt := 50) dL_isRound_36 (by decide) rfl (fun c24 => ?_) (fun c24 => ?_)
    · have hX := hX.1 c24
      exact j_sub (l' := [(0, .ref (ad 0)), (1, .int a1), (2, .int a2)]) [1, 2, 3] rfl (w_L_isRound_L50 C0 hlk hret a1 a2 μ K  hX)
    · have hX := hX.2 c24
      refine j_iload_n C0 3 dL_isRound_39 rfl rfl rfl ?_
      refine j_iconst C0 1 dL_isRound_40 (by decide) rfl ?_
      refine j_icmp_lt C0 (tgt := 54) dL_isRound_41 (by decide) rfl (fun c25 => ?_) (fun c25 => ?_)
      · have hX := hX.1 c25
        exact j_sub (l' := [(0, .ref (ad 0)), (1, .int a1), (2, .int a2)]) [1, 2, 3] rfl (w_L_isRound_L54 C0 hlk hret a1 a2 μ K  hX)
      · have hX := hX.2 c25
        refine j_iload_n C0 3 dL_isRound_44 rfl rfl rfl ?_
        refine j_ldc C0 70000 dL_isRound_45 hw_L_isRound_0 rfl ?_
        refine j_icmp_gt C0 (tgt := 54) dL_isRound_47 (by decide) rfl (fun c26 => ?_) (fun c26 => ?_)
        · have hX := hX.1 c26
          exact j_sub (l' := [(0, .ref (ad 0)), (1, .int a1), (2, .int a2)]) [1, 2, 3] rfl (w_L_isRound_L54 C0 hlk hret a1 a2 μ K  hX)
        · have hX := hX.2 c26
          exact j_sub (l' := [(0, .ref (ad 0)), (1, .int a1), (2, .int a2)]) [1, 2, 3] rfl (w_L_isRound_L50 C0 hlk hret a1 a2 μ K  hX)
def x_L_isRound_L25 (K : Int32 → Mem → Prop) (a1 : Int32) (a2 : Int32) (μ : Mem) : Prop :=
  x_L_isRound_L30 K a1 a2 1 μ
set_option maxRecDepth 20000 in
theorem w_L_isRound_L25 {p : Program} {l : Launch} {e : Env} {s : State} {m : MethodId} {args : Array Value} {below : List Frame} {meth : Method} {c : Code} {D : va_G} {Y : Nat → ClassId} {ad : Nat → Nat} (C0 : CX D Y ad (PA ad) rm_L_isRound 0 0 p s args m c cL_isRound 7 RL wsL_isRound) (hlk : meth.locks = false) (hret : meth.sig.returnType = (some .boolean)) (a1 : Int32) (a2 : Int32) (μ : Mem) (K : Int32 → Mem → Prop)  (hX : x_L_isRound_L25 K a1 a2 μ) : J p l e rm_L_isRound s m args below meth c D Y ad (PA ad) 0 0 7 (MQ below (va_Qi K (BB D Y ad) (PA ad)) args s 0 0 (PA ad)) 25 [(0, .ref (ad 0)), (1, .int a1), (2, .int a2)] [] μ := by
  refine j_iconst C0 1 dL_isRound_25 (by decide) rfl ?_
  refine j_goto C0 (tgt := 30) dL_isRound_26 (by decide) ?_
  exact j_sub (l' := [(0, .ref (ad 0)), (1, .int a1), (2, .int a2)]) [0, 1, 2] rfl (w_L_isRound_L30 C0 hlk hret a1 a2 1 μ K  hX)
def x_L_isRound (a1 : Int32) (μ : Mem) (K : Int32 → Mem → Prop) : Prop :=
  x_X5_untilRound a1 μ (fun r2 μ1 => x_X5_wheel a1 4 μ1 (fun r4 μ3 => (r4 = 1 → x_L_isRound_L25 K a1 r2 μ3) ∧ (¬ (r4 = 1) → x_X5_turn a1 1 μ3 (fun r28 μ27 => (r28 ≤ 0 → x_L_isRound_L30 K a1 r2 0 μ27) ∧ (¬ (r28 ≤ 0) → x_L_isRound_L25 K a1 r2 μ27)))))
set_option maxRecDepth 20000 in
theorem w_L_isRound {p : Program} {l : Launch} {e : Env} {s : State} {m : MethodId} {args : Array Value} {below : List Frame} {meth : Method} {c : Code} {D : va_G} {Y : Nat → ClassId} {ad : Nat → Nat} (C0 : CX D Y ad (PA ad) rm_L_isRound 0 0 p s args m c cL_isRound 7 RL wsL_isRound) (hlk : meth.locks = false) (hret : meth.sig.returnType = (some .boolean)) (a1 : Int32) (μ : Mem) (K : Int32 → Mem → Prop)  (hX : x_L_isRound a1 μ K) : J p l e rm_L_isRound s m args below meth c D Y ad (PA ad) 0 0 7 (MQ below (va_Qi K (BB D Y ad) (PA ad)) args s 0 0 (PA ad)) 0 [(0, .ref (ad 0)), (1, .int a1)] [] μ := by
  refine j_aload_n C0 0 dL_isRound_0 rfl rfl rfl ?_
  refine j_iload_n C0 1 dL_isRound_1 rfl rfl rfl ?_
  refine j_callVi C0 1 [.int a1] (c_X5_untilRound a1  hX) dL_isRound_2 gL_isRound_X5_untilRound rfl (by decide +kernel) ⟨⟨Nat.le_of_ble_eq_true rfl, Nat.le_of_ble_eq_true rfl⟩, rfl, rfl⟩ (kd_lt (rfl : kd 0 = 5) (by decide)) (ce5 (rfl : kd 0 = 5)) rfl rfl rfl (Nat.le_of_ble_eq_true rfl) rfl (fun r2 μ1 hX => ?_)
  refine j_istore_n C0 [(2, .int r2), (0, .ref (ad 0)), (1, .int a1)] dL_isRound_5 rfl (by decide) rfl rfl ?_
  refine j_aload_n C0 1 dL_isRound_6 rfl rfl rfl ?_
  refine j_iload_n C0 2 dL_isRound_7 rfl rfl rfl ?_
  refine j_iconst C0 4 dL_isRound_8 (by decide) rfl ?_
  refine j_callVi C0 2 [.int a1, .int 4] (c_X5_wheel a1 4  hX) dL_isRound_9 gL_isRound_X5_wheel rfl (by decide +kernel) ⟨⟨Nat.le_of_ble_eq_true rfl, Nat.le_of_ble_eq_true rfl⟩, rfl, rfl⟩ (kd_lt (rfl : kd 0 = 5) (by decide)) (ce5 (rfl : kd 0 = 5)) rfl rfl rfl (Nat.le_of_ble_eq_true rfl) rfl (fun r4 μ3 hX => ?_)
  refine j_iconst C0 1 dL_isRound_12 (by decide) rfl ?_
  refine j_icmp_eq C0 (tgt := 25) dL_isRound_13 (by decide) rfl (fun c5 => ?_) (fun c5 => ?_)
  · have hX := hX.1 c5
    exact j_sub (l' := [(0, .ref (ad 0)), (1, .int a1), (2, .int r2)]) [1, 2, 0] rfl (w_L_isRound_L25 C0 hlk hret a1 r2 μ3 K  hX)
  · have hX := hX.2 c5
    refine j_aload_n C0 1 dL_isRound_16 rfl rfl rfl ?_
    refine j_iload_n C0 2 dL_isRound_17 rfl rfl rfl ?_
    refine j_iconst C0 1 dL_isRound_18 (by decide) rfl ?_
    refine j_callVi C0 2 [.int a1, .int 1] (c_X5_turn a1 1  hX) dL_isRound_19 gL_isRound_X5_turn rfl (by decide +kernel) ⟨⟨Nat.le_of_ble_eq_true rfl, Nat.le_of_ble_eq_true rfl⟩, rfl, rfl⟩ (kd_lt (rfl : kd 0 = 5) (by decide)) (ce5 (rfl : kd 0 = 5)) rfl rfl rfl (Nat.le_of_ble_eq_true rfl) rfl (fun r28 μ27 hX => ?_)
    refine j_if_le C0 (tgt := 29) dL_isRound_22 (by decide) rfl (fun c29 => ?_) (fun c29 => ?_)
    · have hX := hX.1 c29
      refine j_iconst C0 0 dL_isRound_29 (by decide) rfl ?_
      exact j_sub (l' := [(0, .ref (ad 0)), (1, .int a1), (2, .int r2)]) [1, 2, 0] rfl (w_L_isRound_L30 C0 hlk hret a1 r2 0 μ27 K  hX)
    · have hX := hX.2 c29
      exact j_sub (l' := [(0, .ref (ad 0)), (1, .int a1), (2, .int r2)]) [1, 2, 0] rfl (w_L_isRound_L25 C0 hlk hret a1 r2 μ27 K  hX)
theorem c_L_isRound {l : Launch} {D : va_G} {Y : Nat → ClassId} {ad : Nat → Nat} (a1 : Int32) {μ : Mem} {K : Int32 → Mem → Prop}  (hX : x_L_isRound a1 μ K) : ConI l yL_isRound wsL_isRound rm_L_isRound [.ref (ad 0), .int a1] D Y ad μ K := conI_of (cc := cL_isRound) (maxL := 7) (ret := (some .boolean)) (own := RL) _ (by decide +kernel) rfl rfl (Nat.le_of_ble_eq_true rfl) (fun p e s m args below meth c C0 hlk hret => j_sub (l' := [(0, .ref (ad 0)), (1, .int a1)]) [0, 1] rfl (w_L_isRound C0 hlk hret a1 μ K  hX))
