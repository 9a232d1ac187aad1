/-! the law's cell: it reads the script, which is no cell of the world -/
theorem j_sld {p : Program} {l : Launch} {e : Env} {R : Room} {s : State} {m : MethodId} {args : Array Value} {below : List Frame} {meth : Method} {c : Code} {Q : State → Prop} {D : va_G} {Y : Nat → ClassId} {ad : Nat → Nat} {A : Nat → Prop} {kc ks : Nat} {cc : ByteArray} {nL : Nat} {own : String} {Ts : List Cond} {pc pc' : Nat} {lv : List (Nat × Value)} {st : List Value} {μ : Mem} (C0 : CX D Y ad A R kc ks p s args m c cc nL own Ts) {bs L : Nat} {xs : Nat → Int32} (hX : va_X bs L xs s s.heap) (hbl : bs < s.heap.size) (hbA : ¬ A bs) {v : Int32} (n : Nat) (hv : v = nI n) (hn : n < L) (hL : L ≤ 2048) (hdg : decode cc pc = .ok (.iaload, 1)) (hp : pc + 1 = pc') (k : J p l e R s m args below meth c D Y ad A kc ks nL Q pc' lv (.int (xs n) :: st) μ) : J p l e R s m args below meth c D Y ad A kc ks nL Q pc lv (.int v :: .ref bs :: st) μ := by
  subst hp
  subst hv
  intro ls H locs hl hP hS
  refine va_sld C0.1.1 C0.1.2.1 hX hbl hbA hS (vp_in_nI hn (by omega)) hdg ?_
  rw [nI_clamp (by omega)]
  exact k ls H locs hl hP hS
theorem j_slen {p : Program} {l : Launch} {e : Env} {R : Room} {s : State} {m : MethodId} {args : Array Value} {below : List Frame} {meth : Method} {c : Code} {Q : State → Prop} {D : va_G} {Y : Nat → ClassId} {ad : Nat → Nat} {A : Nat → Prop} {kc ks : Nat} {cc : ByteArray} {nL : Nat} {own : String} {Ts : List Cond} {pc pc' : Nat} {lv : List (Nat × Value)} {st : List Value} {μ : Mem} (C0 : CX D Y ad A R kc ks p s args m c cc nL own Ts) {bs L : Nat} {xs : Nat → Int32} (hX : va_X bs L xs s s.heap) (hbl : bs < s.heap.size) (hbA : ¬ A bs) (hdg : decode cc pc = .ok (.arraylength, 1)) (hp : pc + 1 = pc') (k : J p l e R s m args below meth c D Y ad A kc ks nL Q pc' lv (.int (nI L) :: st) μ) : J p l e R s m args below meth c D Y ad A kc ks nL Q pc lv (.ref bs :: st) μ := by
  subst hp
  intro ls H locs hl hP hS
  exact va_slen C0.1.1 C0.1.2.1 hX hbl hbA hS hdg (k ls H locs hl hP hS)
def PreK (D : va_G) (Y : Nat → ClassId) (ad : Nat → Nat) (μ : Mem) (bs L : Nat) (xs : Nat → Int32) (U : State) : Prop := PreC D Y ad μ U ∧ va_X bs L xs U U.heap ∧ bs < U.heap.size
theorem preK_blind {As : List Value} {D : va_G} {Y : Nat → ClassId} {ad : Nat → Nat} {μ : Mem} {bs L : Nat} {xs : Nat → Int32} : FrameBlind (va_Pc As (PreK D Y ad μ bs L xs)) := fun a U g mk q => by
  obtain ⟨q0, ⟨qP, qK, qN, qA⟩, qX, qb⟩ := q
  exact ⟨q0, ⟨qP, va_K.moved (u := U) (U := U.calling g mk a) (Vm.Alike.refl U.vm) qK, NW.same (s := U) (U := U.calling g mk a) rfl qN, qA⟩, va_X.moved (u := U) (U := U.calling g mk a) (Vm.Alike.refl U.vm) qX, qb⟩
abbrev rm_L_cell : Room := rmf 0 0
theorem hw_L_cell_0 : Cond.constant RL 7 (15485959) ∈ wsL_cell := by decide +kernel
theorem hw_L_cell_1 : Cond.constant RL 8 (2147483647) ∈ wsL_cell := by decide +kernel
theorem c_cell {l : Launch} {D : va_G} {Y : Nat → ClassId} {ad : Nat → Nat} {bs L i : Nat} {xs : Nat → Int32} {μ : Mem} (hL : L ≤ 2048) (hi : i < 2 ^ 31) (hb : ¬ PA ad bs) : Met l yL_cell wsL_cell rm_L_cell (va_Pc [.ref bs, .int (nI i)] (PreK D Y ad μ bs L xs)) (va_Qi (fun r μ' => 0 ≤ r ∧ μ' = μ) (BB D Y ad) (PA ad)) 0 0 (PA ad) := by
  refine met_ofF (cc := cL_cell) (maxL := 2) (ret := some .int) (by decide +kernel) rfl ?_
  intro p e s m args below meth c s₁ B hml hv
  obtain ⟨rfl, ⟨hP, hK, hN, hA⟩, hX, hbl⟩ := hv
  have hts := atoms_spec (ws := wsL_cell) B.pre
  have hown1 : s.vm.findClass RL = some m.cls := findClass_of_methodNamed B.named
  have hl := lv_entry ([.ref bs, .int (nI i)]) (n := 2) (Nat.le_of_ble_eq_true rfl)
  rw [lg_entry_eq]
  have hlk := B.notSynchronized
  have hret := B.returns
  obtain ⟨args, hargs⟩ : ∃ args : Array Value, args = ([.ref bs, .int (nI i)] : List Value).toArray := ⟨_, rfl⟩
  rw [← hargs] at hts ⊢
  have C0 : CX D Y ad (PA ad) rm_L_cell 0 0 p s args m c cL_cell 2 RL wsL_cell := ⟨⟨B.exec, B.bytes, hml, hown1, hts⟩, hK, hN, hA, fun _ h => h, Nat.zero_le _, Nat.zero_le _⟩
  suffices main : J p l e rm_L_cell s m args below meth c D Y ad (PA ad) 0 0 2 (MQ below (va_Qi (fun r μ' => 0 ≤ r ∧ μ' = μ) (BB D Y ad) (PA ad)) args s 0 0 (PA ad)) 0 (lv_args 0 [.ref bs, .int (nI i)]) [] μ from main _ _ _ hl hP va_S.rf
  refine j_sub (l' := [(1, .int (nI i)), (0, .ref bs)]) [1, 0] rfl ?_
  have l20 : ∀ v : Int32, J p l e rm_L_cell s m args below meth c D Y ad (PA ad) 0 0 2 (MQ below (va_Qi (fun r μ' => 0 ≤ r ∧ μ' = μ) (BB D Y ad) (PA ad)) args s 0 0 (PA ad)) 20 [(1, .int (nI i)), (0, .ref bs)] [.int v] μ := by
    intro v
    refine j_ldc C0 2147483647 dL_cell_20 hw_L_cell_1 rfl ?_
    refine j_iand C0 dL_cell_22 rfl ?_
    refine j_iret C0 hlk hret dL_cell_23 ⟨?_, rfl⟩
    obtain ⟨j, hj, e⟩ := pk_andE v (m := 2147483647) 31 (by decide)
    rw [e]
    exact nI_pos' hj
  refine j_iload_n C0 0 dL_cell_0 rfl rfl rfl ?_
  refine j_aload_n C0 1 dL_cell_1 rfl rfl rfl ?_
  refine j_slen C0 hX hbl hb dL_cell_2 rfl ?_
  refine j_icmp_ge C0 (tgt := 12) dL_cell_3 (by decide) rfl (fun q => ?_) (fun q => ?_)
  · refine j_ldc C0 15485959 dL_cell_12 hw_L_cell_0 rfl ?_
    refine j_iload_n C0 0 dL_cell_14 rfl rfl rfl ?_
    refine j_imul C0 dL_cell_15 rfl ?_
    refine j_sipush C0 8307 dL_cell_16 (by decide) rfl ?_
    refine j_iadd C0 dL_cell_19 rfl ?_
    exact l20 _
  · have hlt : i < L := by
      rcases Nat.lt_or_ge i L with w | w
      · exact w
      · exact absurd (nI_le w hi) q
    refine j_aload_n C0 1 dL_cell_6 rfl rfl rfl ?_
    refine j_iload_n C0 0 dL_cell_7 rfl rfl rfl ?_
    refine j_sld C0 hX hbl hb i rfl hlt hL dL_cell_8 rfl ?_
    refine j_goto C0 (tgt := 20) dL_cell_9 (by decide) ?_
    exact l20 _
theorem j_cell {p : Program} {l : Launch} {e : Env} {R : Room} {s : State} {m : MethodId} {args : Array Value} {below : List Frame} {meth : Method} {c : Code} {Q : State → Prop} {D : va_G} {Y : Nat → ClassId} {ad : Nat → Nat} {A : Nat → Prop} {kc ks : Nat} {cc : ByteArray} {nL : Nat} {own : String} {Ts : List Cond} {pc pc' : Nat} {lv : List (Nat × Value)} {st rest : List Value} {μ : Mem} (C0 : CX D Y ad A R kc ks p s args m c cc nL own Ts) {bs L : Nat} {xs : Nat → Int32} (hX : va_X bs L xs s s.heap) (hbl : bs < s.heap.size) (hbA : ¬ A bs) (hL : L ≤ 2048) {index : Nat} {v : Int32} (hv : 0 ≤ v) (hdg : decode cc pc = .ok (.invokestatic index, 3)) (hG : GoodIn Ts (va_wsS own index yL_cell wsL_cell)) (hR : rm_L_cell.frames + 1 ≤ R.frames ∧ 8 + (2 + 11) + rm_L_cell.locals ≤ R.locals) (hst : st = [.ref bs, .int v].reverse ++ rest) (hWt : (rest.map fun v => v.category).sum ≤ 8) (hp : pc + 3 = pc') (k : ∀ r : Int32, 0 ≤ r → J p l e R s m args below meth c D Y ad A kc ks nL Q pc' lv (.int r :: rest) μ) : J p l e R s m args below meth c D Y ad A kc ks nL Q pc lv st μ := by
  subst hp
  subst hst
  obtain ⟨i, hi, rfl⟩ := nI_of (Int32.not_lt.mpr hv)
  intro ls H locs hl hP hS
  have hbP : ¬ PA ad bs := fun q => hbA (C0.2.2.2.2.1 _ q)
  have hH : H[bs]? = s.heap[bs]? := hS.2.1 bs hbl hbA
  have hsz : bs < H.size := Nat.lt_of_lt_of_le hbl hS.1
  have cw := va_cwS (R := R) (maxL := 2) (bytes := cL_cell) (ret := some .int) (rm := rm_L_cell) 2 C0.1.2.2.2.2 hG rfl rfl rfl (by decide +kernel) hR
  have hrun := va_runS (l := l) (e := e) (below := below) (meth := meth) (locs := locs) (cells := kc) (slots := ks) (g := F0 m pc ls ([.ref bs, .int (nI i)].reverse ++ rest)) C0.1 (c_cell (l := l) (D := D) (Y := Y) (ad := ad) (xs := xs) (μ := μ) hL hi hbP) cw ⟨preK_blind, fun U hU hW => ⟨rfl, pre_at C0 hP U hU hW, (va_X.kept hX (by rw [hU]; exact hH)).moved hW.alike, by rw [hU]; exact hsz⟩⟩ rfl rfl hl.1 rfl (lv_room hWt) hdg ⟨C0.2.2.2.2.2.1, C0.2.2.2.2.2.2⟩
  exact va_calli hrun hS (fun q _ hq => C0.2.2.2.2.1 q hq) (fun q hq => C0.2.2.2.2.1 q hq) (fun r μ' t H1 locs1 ht _ hK hB _ _ hS1 => by
    obtain ⟨h0, rfl⟩ := hK
    exact k r h0 ls H1 locs1 hl (by rw [← ht]; exact hB) hS1)
