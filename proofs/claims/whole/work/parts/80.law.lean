/-! the law's own walk -/
theorem j_sld {p : Program} {l : Launch} {e : Env} {R : Room} {s : State} {m : MethodId} {args : Array Value} {below : List Frame} {meth : Method} {c : Code} {Q : State → Prop} {D : va_G} {Y : Nat → ClassId} {ad : Nat → Nat} {A : Nat → Prop} {kc ks : Nat} {cc : ByteArray} {nL : Nat} {own : String} {Ts : List Cond} {pc pc' : Nat} {lv : List (Nat × Value)} {st : List Value} {μ : Mem} (C0 : CX D Y ad A R kc ks p s args m c cc nL own Ts) {bs L : Nat} {xs : Nat → Int32} (hX : va_X bs L xs s s.heap) (hbl : bs < s.heap.size) (hbA : ¬ A bs) {v : Int32} (n : Nat) (hv : v = nI n) (hn : n < L) (hL : L ≤ 2048) (hdg : decode cc pc = .ok (.iaload, 1)) (hp : pc + 1 = pc') (k : J p l e R s m args below meth c D Y ad A kc ks nL Q pc' lv (.int (xs n) :: st) μ) : J p l e R s m args below meth c D Y ad A kc ks nL Q pc lv (.int v :: .ref bs :: st) μ := by
  subst hp
  subst hv
  intro ls H locs hl hP hS
  refine va_sld C0.1.1 C0.1.2.1 hX hbl hbA hS (vp_in_nI hn (by omega)) hdg ?_
  rw [nI_clamp (by omega)]
  exact k ls H locs hl hP hS
theorem j_slen {p : Program} {l : Launch} {e : Env} {R : Room} {s : State} {m : MethodId} {args : Array Value} {below : List Frame} {meth : Method} {c : Code} {Q : State → Prop} {D : va_G} {Y : Nat → ClassId} {ad : Nat → Nat} {A : Nat → Prop} {kc ks : Nat} {cc : ByteArray} {nL : Nat} {own : String} {Ts : List Cond} {pc pc' : Nat} {lv : List (Nat × Value)} {st : List Value} {μ : Mem} (C0 : CX D Y ad A R kc ks p s args m c cc nL own Ts) {bs L : Nat} {xs : Nat → Int32} (hX : va_X bs L xs s s.heap) (hbl : bs < s.heap.size) (hbA : ¬ A bs) (hdg : decode cc pc = .ok (.arraylength, 1)) (hp : pc + 1 = pc') (k : J p l e R s m args below meth c D Y ad A kc ks nL Q pc' lv (.int (nI L) :: st) μ) : J p l e R s m args below meth c D Y ad A kc ks nL Q pc lv (.ref bs :: st) μ := by
  subst hp
  intro ls H locs hl hP hS
  exact va_slen C0.1.1 C0.1.2.1 hX hbl hbA hS hdg (k ls H locs hl hP hS)
theorem law_16 {p : Program} {l : Launch} {e : Env} {s : State} {m : MethodId} {below : List Frame} {meth : Method} {c : Code} {D : va_G} {Y : Nat → ClassId} {ad : Nat → Nat} {bs L : Nat} {xs : Nat → Int32} (C0 : CX D Y ad (AB s.heap.size) room_1 177 3871 p s #[Value.ref bs] m c code 4 RL wsL_law) (hX : va_X bs L xs s s.heap) (hbl : bs < s.heap.size) (hL : L ≤ 2048) {i : Nat} {μ : Mem} (hi : i + 4 ≤ L) (hI : Inv μ) (kk : ∀ μ2, Inv μ2 → J p l e room_1 s m #[Value.ref bs] below meth c D Y ad (AB s.heap.size) 177 3871 4 (lw_Z below #[Value.ref bs] s) 859 [(3, .int (nI (i))), (2, .ref (ad 168)), (1, .ref (ad 0)), (0, .ref bs)] [] μ2) : J p l e room_1 s m #[Value.ref bs] below meth c D Y ad (AB s.heap.size) 177 3871 4 (lw_Z below #[Value.ref bs] s) 652 [(3, .int (nI (i))), (2, .ref (ad 168)), (1, .ref (ad 0)), (0, .ref bs)] [] μ := by
  have hbA : ¬ AB s.heap.size bs := by unfold AB; omega
  refine j_aload_n C0 2 dL_law_652 rfl rfl rfl ?_
  refine j_callVi C0 0 [] (c_X5_untilClip  (op_untilClip hI)) dL_law_653 gL_law_X5_untilClip rfl (by decide +kernel) ⟨⟨Nat.le_of_ble_eq_true rfl, Nat.le_of_ble_eq_true rfl⟩, rfl, rfl⟩ (kd_lt (rfl : kd 0 = 5) (by decide)) (ce5 (rfl : kd 0 = 5)) rfl rfl rfl (Nat.le_of_ble_eq_true rfl) rfl (fun r1 μ1 hX1 => ?_)
  refine j_aload_n C0 1 dL_law_656 rfl rfl rfl ?_
  refine j_callVi C0 0 [] (c_X6_untilClip  hX1) dL_law_657 gL_law_X6_untilClip rfl (by decide +kernel) ⟨⟨Nat.le_of_ble_eq_true rfl, Nat.le_of_ble_eq_true rfl⟩, rfl, rfl⟩ (kd_lt (rfl : kd 168 = 6) (by decide)) (ce6 (rfl : kd 168 = 6)) rfl rfl rfl (Nat.le_of_ble_eq_true rfl) rfl (fun r2 μ2 hX2 => ?_)
  exact j_icmp_eq C0 (tgt := 859) dL_law_660 (by decide) rfl (fun _ => kk _ hX2.2) (fun w => absurd hX2.1 w)
