/-! The making: a world that grows. -/
def wgr (ad : Nat → Nat) (z : Nat) (fw : Nat → va_E) : va_W := (List.range z).map fun o => (ad o, fw o)
theorem wgr_get {ad : Nat → Nat} {z o : Nat} {fw : Nat → va_E} (h : o < z) : (wgr ad z fw)[o]? = some (ad o, fw o) := by
  unfold wgr
  rw [List.getElem?_map, List.getElem?_range h]
  rfl
theorem wgr_len {ad : Nat → Nat} {z : Nat} {fw : Nat → va_E} : (wgr ad z fw).length = z := by simp [wgr]
theorem wgr_out {ad : Nat → Nat} {z o : Nat} {fw : Nat → va_E} (h : z ≤ o) : (wgr ad z fw)[o]? = none := by
  rw [List.getElem?_eq_none (by rw [wgr_len]; exact h)]
theorem vu_s {α : Type} {f : Nat → α} {k : Nat} {v : α} : va_up f k v k = v := by simp [va_up]
theorem vu_n {α : Type} {f : Nat → α} {k j : Nat} {v : α} (h : j ≠ k) : va_up f k v j = f j := by simp [va_up, h]
theorem wgr_set {ad : Nat → Nat} {z o : Nat} {fw : Nat → va_E} {x : va_E} (h : o < z) : (wgr ad z fw).set o (ad o, x) = wgr ad z (va_up fw o x) := by
  apply List.ext_getElem?
  intro i
  rcases Nat.lt_or_ge i z with h1 | h1
  · rw [wgr_get h1]
    by_cases hi : o = i
    · subst hi
      rw [List.getElem?_set_self (by rw [wgr_len]; exact h), vu_s]
    · rw [List.getElem?_set_ne hi, wgr_get h1, vu_n (Ne.symm hi)]
  · rw [wgr_out h1, List.getElem?_eq_none (by rw [List.length_set, wgr_len]; exact h1)]
theorem wgr_push {ad : Nat → Nat} {z q : Nat} {fw : Nat → va_E} {x : va_E} : wgr ad z fw ++ [(q, x)] = wgr (va_up ad z q) (z + 1) (va_up fw z x) := by
  apply List.ext_getElem?
  intro i
  rcases Nat.lt_or_ge i z with h1 | h1
  · rw [List.getElem?_append_left (by rw [wgr_len]; exact h1), wgr_get h1, wgr_get (by omega), vu_n (by omega), vu_n (by omega)]
  · rw [List.getElem?_append_right (by rw [wgr_len]; exact h1), wgr_len]
    rcases Nat.lt_or_ge z i with h2 | h2
    · rw [wgr_out (by omega), List.getElem?_eq_none (by simp; omega)]
    · obtain rfl : i = z := by omega
      rw [wgr_get (by omega), Nat.sub_self, vu_s, vu_s]
      rfl
def AB (b : Nat) : Nat → Prop := fun q => b ≤ q
def AOW (U : State) : Prop := va_AO RX3 U ∧ va_AO RX4 U
def CG (D : va_G) (Y : Nat → ClassId) (b : Nat) (R : Room) (p : Program) (s : State) (args : Array Value) (m : MethodId) (c : Code) (cc : ByteArray) (nL : Nat) (own : String) (Ts : List Cond) : Prop :=
  (p.tables.exec = Jvm.exec ∧ c.code = cc ∧ c.maxLocals = nL ∧ s.vm.findClass own = some m.cls ∧ ∀ w ∈ Ts, w.before args s = true) ∧ va_K D vwCl (tysY Y) s ∧ NW s ∧ AOW s ∧ b ≤ s.heap.size
def PreG (D : va_G) (Y : Nat → ClassId) (b z : Nat) (ad : Nat → Nat) (fw : Nat → va_E) (U : State) : Prop := va_P D vwCl (wgr ad z fw) U.heap ∧ va_K D vwCl (tysY Y) U ∧ NW U ∧ AOW U ∧ va_D (AB b) (wgr ad z fw) ∧ b ≤ U.heap.size
def QG (D : va_G) (b z' : Nat) (Post : (Nat → Nat) → (Nat → va_E) → Prop) : Array Value → State → Outcome → State → Prop := va_Qv (fun u : (Nat → Nat) × (Nat → va_E) => Post u.1 u.2) (fun u T => va_P D vwCl (wgr u.1 z' u.2) T.heap ∧ va_D (AB b) (wgr u.1 z' u.2)) (AB b)
def ConG (l : Launch) (y : MethodName) (ws : List Cond) (rm : Room) (As : List Value) (D : va_G) (Y : Nat → ClassId) (b z : Nat) (ad : Nat → Nat) (fw : Nat → va_E) (z' : Nat) (Post : (Nat → Nat) → (Nat → va_E) → Prop) : Prop := Met l y ws rm (va_Pc As (PreG D Y b z ad fw)) (QG D b z' Post) rm.cells rm.slots (AB b)
section GW
variable {p : Program} {l : Launch} {e : Env} {R : Room} {s : State} {m : MethodId} {args : Array Value} {below : List Frame} {meth : Method} {c : Code} {Q : State → Prop} {D : va_G} {Y : Nat → ClassId} {b : Nat} {kc ks : Nat} {cc : ByteArray} {nL : Nat} {own : String} {Ts : List Cond} {pc pc' : Nat} {lv lv' : List (Nat × Value)} {st : List Value} {z : Nat} {ad : Nat → Nat} {fw : Nat → va_E}
def G (p : Program) (l : Launch) (e : Env) (R : Room) (s : State) (m : MethodId) (args : Array Value) (below : List Frame) (meth : Method) (c : Code) (D : va_G) (b kc ks nL : Nat) (Q : State → Prop) (pc : Nat) (lv : List (Nat × Value)) (st : List Value) (z : Nat) (ad : Nat → Nat) (fw : Nat → va_E) : Prop :=
  ∀ (ls : Array Slot) (H : Heap) (locs : List Loc), lv_has ls nL lv → va_P D vwCl (wgr ad z fw) H → va_D (AB b) (wgr ad z fw) → va_S (AB b) s.heap H locs → W p l e R s m args below meth c H locs kc ks Q (F0 m pc ls st)
theorem g_iconst (C0 : CG D Y b R p s args m c cc nL own Ts) {n : Int} (v : Int32) (hdg : decode cc pc = .ok (.iconst n, 1)) (hv : Int32.ofInt n = v) (hp : pc + 1 = pc') (k : G p l e R s m args below meth c D b kc ks nL Q pc' lv (.int v :: st) z ad fw) : G p l e R s m args below meth c D b kc ks nL Q pc lv (st) z ad fw := by subst hp; exact fun ls H locs hl hP hD hS => lv_iconst C0.1.1 C0.1.2.1 hdg hv (k ls H locs hl hP hD hS)
theorem g_bipush (C0 : CG D Y b R p s args m c cc nL own Ts) {n : Int} (v : Int32) (hdg : decode cc pc = .ok (.bipush n, 2)) (hv : (Int8.ofInt n).toInt32 = v) (hp : pc + 2 = pc') (k : G p l e R s m args below meth c D b kc ks nL Q pc' lv (.int v :: st) z ad fw) : G p l e R s m args below meth c D b kc ks nL Q pc lv (st) z ad fw := by subst hp; exact fun ls H locs hl hP hD hS => lv_bipush C0.1.1 C0.1.2.1 hdg hv (k ls H locs hl hP hD hS)
theorem g_sipush (C0 : CG D Y b R p s args m c cc nL own Ts) {n : Int} (v : Int32) (hdg : decode cc pc = .ok (.sipush n, 3)) (hv : (Int16.ofInt n).toInt32 = v) (hp : pc + 3 = pc') (k : G p l e R s m args below meth c D b kc ks nL Q pc' lv (.int v :: st) z ad fw) : G p l e R s m args below meth c D b kc ks nL Q pc lv (st) z ad fw := by subst hp; exact fun ls H locs hl hP hD hS => lv_sipush C0.1.1 C0.1.2.1 hdg hv (k ls H locs hl hP hD hS)
theorem g_iload_n (C0 : CG D Y b R p s args m c cc nL own Ts) {kk : Fin 4} (q : Nat) {i : Nat} {x : Int32} (hdg : decode cc pc = .ok (.iload_n kk, 1)) (hi : (kk : Nat) = i) (hq : lv[q]? = some (i, .int x)) (hp : pc + 1 = pc') (k : G p l e R s m args below meth c D b kc ks nL Q pc' lv (.int x :: st) z ad fw) : G p l e R s m args below meth c D b kc ks nL Q pc lv (st) z ad fw := by subst hp; exact fun ls H locs hl hP hD hS => lv_iload_n C0.1.1 C0.1.2.1 hdg hi (lv_at hl q hq) (k ls H locs hl hP hD hS)
theorem g_istore_n (C0 : CG D Y b R p s args m c cc nL own Ts) {kk : Fin 4} {i : Nat} {x : Int32} (lv' : List (Nat × Value)) (hdg : decode cc pc = .ok (.istore_n kk, 1)) (hi : (kk : Nat) = i) (hn : i < nL) (hl' : (i, Value.int x) :: lv.filter (fun q => !(q.1 == i) && !(q.1 + 1 == i && q.2.category == 2)) = lv') (hp : pc + 1 = pc') (k : G p l e R s m args below meth c D b kc ks nL Q pc' lv' st z ad fw) : G p l e R s m args below meth c D b kc ks nL Q pc lv (.int x :: st) z ad fw := by subst hp; exact fun ls H locs hl hP hD hS => lv_istore_n C0.1.1 C0.1.2.1 hdg hi hl hn hl' (fun ls' h' => k ls' H locs h' hP hD hS)
theorem g_aload_n (C0 : CG D Y b R p s args m c cc nL own Ts) {kk : Fin 4} (q : Nat) {i : Nat} {x : Nat} (hdg : decode cc pc = .ok (.aload_n kk, 1)) (hi : (kk : Nat) = i) (hq : lv[q]? = some (i, .ref x)) (hp : pc + 1 = pc') (k : G p l e R s m args below meth c D b kc ks nL Q pc' lv (.ref x :: st) z ad fw) : G p l e R s m args below meth c D b kc ks nL Q pc lv (st) z ad fw := by subst hp; exact fun ls H locs hl hP hD hS => lv_aload_n C0.1.1 C0.1.2.1 hdg hi (lv_at hl q hq) (k ls H locs hl hP hD hS)
theorem g_astore_n (C0 : CG D Y b R p s args m c cc nL own Ts) {kk : Fin 4} {i : Nat} {x : Nat} (lv' : List (Nat × Value)) (hdg : decode cc pc = .ok (.astore_n kk, 1)) (hi : (kk : Nat) = i) (hn : i < nL) (hl' : (i, Value.ref x) :: lv.filter (fun q => !(q.1 == i) && !(q.1 + 1 == i && q.2.category == 2)) = lv') (hp : pc + 1 = pc') (k : G p l e R s m args below meth c D b kc ks nL Q pc' lv' st z ad fw) : G p l e R s m args below meth c D b kc ks nL Q pc lv (.ref x :: st) z ad fw := by subst hp; exact fun ls H locs hl hP hD hS => lv_astore_n C0.1.1 C0.1.2.1 hdg hi hl hn hl' (fun ls' h' => k ls' H locs h' hP hD hS)
theorem g_iinc (C0 : CG D Y b R p s args m c cc nL own Ts) {i : Nat} {n : Int} (q : Nat) {x : Int32} (v : Int32) (lv' : List (Nat × Value)) (hdg : decode cc pc = .ok (.iinc i n, 3)) (hq : lv[q]? = some (i, .int x)) (hv : x + Int32.ofInt n = v) (hn : i < nL) (hl' : (i, Value.int v) :: lv.filter (fun q => !(q.1 == i) && !(q.1 + 1 == i && q.2.category == 2)) = lv') (hp : pc + 3 = pc') (k : G p l e R s m args below meth c D b kc ks nL Q pc' lv' st z ad fw) : G p l e R s m args below meth c D b kc ks nL Q pc lv st z ad fw := by subst hp; exact fun ls H locs hl hP hD hS => lv_iinc C0.1.1 C0.1.2.1 hdg hl hq hv hn hl' (fun ls' h' => k ls' H locs h' hP hD hS)
theorem g_iadd (C0 : CG D Y b R p s args m c cc nL own Ts) {x y : Int32} (hdg : decode cc pc = .ok (.iadd, 1)) (hp : pc + 1 = pc') (k : G p l e R s m args below meth c D b kc ks nL Q pc' lv (.int (x + y) :: st) z ad fw) : G p l e R s m args below meth c D b kc ks nL Q pc lv (.int y :: .int x :: st) z ad fw := by subst hp; exact fun ls H locs hl hP hD hS => lv_iadd C0.1.1 C0.1.2.1 hdg (k ls H locs hl hP hD hS)
theorem g_isub (C0 : CG D Y b R p s args m c cc nL own Ts) {x y : Int32} (hdg : decode cc pc = .ok (.isub, 1)) (hp : pc + 1 = pc') (k : G p l e R s m args below meth c D b kc ks nL Q pc' lv (.int (x - y) :: st) z ad fw) : G p l e R s m args below meth c D b kc ks nL Q pc lv (.int y :: .int x :: st) z ad fw := by subst hp; exact fun ls H locs hl hP hD hS => lv_isub C0.1.1 C0.1.2.1 hdg (k ls H locs hl hP hD hS)
theorem g_imul (C0 : CG D Y b R p s args m c cc nL own Ts) {x y : Int32} (hdg : decode cc pc = .ok (.imul, 1)) (hp : pc + 1 = pc') (k : G p l e R s m args below meth c D b kc ks nL Q pc' lv (.int (x * y) :: st) z ad fw) : G p l e R s m args below meth c D b kc ks nL Q pc lv (.int y :: .int x :: st) z ad fw := by subst hp; exact fun ls H locs hl hP hD hS => lv_imul C0.1.1 C0.1.2.1 hdg (k ls H locs hl hP hD hS)
theorem g_dup (C0 : CG D Y b R p s args m c cc nL own Ts) {va : Value} (hdg : decode cc pc = .ok (.dup, 1)) (hc : va.category = 1) (hp : pc + 1 = pc') (k : G p l e R s m args below meth c D b kc ks nL Q pc' lv (va :: va :: st) z ad fw) : G p l e R s m args below meth c D b kc ks nL Q pc lv (va :: st) z ad fw := by subst hp; exact fun ls H locs hl hP hD hS => lv_dup C0.1.1 C0.1.2.1 hdg hc (k ls H locs hl hP hD hS)
theorem g_if_eq (C0 : CG D Y b R p s args m c cc nL own Ts) {x : Int32} {off : Int} {tgt : Nat} (hdg : decode cc pc = .ok (.ifCond .eq off, 3)) (ht : (pc : Int) + off = (tgt : Int)) (hp : pc + 3 = pc') (hA : x = 0 → G p l e R s m args below meth c D b kc ks nL Q tgt lv st z ad fw) (hB : ¬ (x = 0) → G p l e R s m args below meth c D b kc ks nL Q pc' lv st z ad fw) : G p l e R s m args below meth c D b kc ks nL Q pc lv (.int x :: st) z ad fw := by subst hp; exact fun ls H locs hl hP hD hS => lv_if_eq C0.1.1 C0.1.2.1 hdg ht (fun h => hA h ls H locs hl hP hD hS) (fun h => hB h ls H locs hl hP hD hS)
theorem g_if_ne (C0 : CG D Y b R p s args m c cc nL own Ts) {x : Int32} {off : Int} {tgt : Nat} (hdg : decode cc pc = .ok (.ifCond .ne off, 3)) (ht : (pc : Int) + off = (tgt : Int)) (hp : pc + 3 = pc') (hA : x = 0 → G p l e R s m args below meth c D b kc ks nL Q pc' lv st z ad fw) (hB : ¬ (x = 0) → G p l e R s m args below meth c D b kc ks nL Q tgt lv st z ad fw) : G p l e R s m args below meth c D b kc ks nL Q pc lv (.int x :: st) z ad fw := by subst hp; exact fun ls H locs hl hP hD hS => lv_if_ne C0.1.1 C0.1.2.1 hdg ht (fun h => hB h ls H locs hl hP hD hS) (fun h => hA h ls H locs hl hP hD hS)
theorem g_icmp_ge (C0 : CG D Y b R p s args m c cc nL own Ts) {x y : Int32} {off : Int} {tgt : Nat} (hdg : decode cc pc = .ok (.if_icmp .ge off, 3)) (ht : (pc : Int) + off = (tgt : Int)) (hp : pc + 3 = pc') (hA : y ≤ x → G p l e R s m args below meth c D b kc ks nL Q tgt lv st z ad fw) (hB : ¬ (y ≤ x) → G p l e R s m args below meth c D b kc ks nL Q pc' lv st z ad fw) : G p l e R s m args below meth c D b kc ks nL Q pc lv (.int y :: .int x :: st) z ad fw := by subst hp; exact fun ls H locs hl hP hD hS => lv_icmp_ge C0.1.1 C0.1.2.1 hdg ht (fun h => hA h ls H locs hl hP hD hS) (fun h => hB h ls H locs hl hP hD hS)
theorem g_icmp_gt (C0 : CG D Y b R p s args m c cc nL own Ts) {x y : Int32} {off : Int} {tgt : Nat} (hdg : decode cc pc = .ok (.if_icmp .gt off, 3)) (ht : (pc : Int) + off = (tgt : Int)) (hp : pc + 3 = pc') (hA : y < x → G p l e R s m args below meth c D b kc ks nL Q tgt lv st z ad fw) (hB : ¬ (y < x) → G p l e R s m args below meth c D b kc ks nL Q pc' lv st z ad fw) : G p l e R s m args below meth c D b kc ks nL Q pc lv (.int y :: .int x :: st) z ad fw := by subst hp; exact fun ls H locs hl hP hD hS => lv_icmp_gt C0.1.1 C0.1.2.1 hdg ht (fun h => hA h ls H locs hl hP hD hS) (fun h => hB h ls H locs hl hP hD hS)
theorem g_goto (C0 : CG D Y b R p s args m c cc nL own Ts) {off : Int} {tgt : Nat} (hdg : decode cc pc = .ok (.goto off, 3)) (ht : (pc : Int) + off = (tgt : Int)) (k : G p l e R s m args below meth c D b kc ks nL Q tgt lv st z ad fw) : G p l e R s m args below meth c D b kc ks nL Q pc lv st z ad fw := fun ls H locs hl hP hD hS => lv_goto C0.1.1 C0.1.2.1 hdg ht (k ls H locs hl hP hD hS)
theorem g_sub {lv l' : List (Nat × Value)} (is : List Nat) (hl : lv_pick lv is = l') (k : G p l e R s m args below meth c D b kc ks nL Q pc l' st z ad fw) : G p l e R s m args below meth c D b kc ks nL Q pc lv st z ad fw := fun ls H locs h hP hD hS => k ls H locs (lv_sub h is hl) hP hD hS
theorem g_widen {kc' ks' : Nat} (h1 : kc ≤ kc') (h2 : ks ≤ ks') (k : G p l e R s m args below meth c D b kc' ks' nL Q pc lv st z ad fw) : G p l e R s m args below meth c D b kc ks nL Q pc lv st z ad fw := fun ls H locs hl hP hD hS => W.widen h1 h2 (k ls H locs hl hP hD hS)
theorem g_obj (C0 : CG D Y b R p s args m c cc nL own Ts) {index x : Nat} (hw1 : Cond.methodLink own index objectInit ∈ Ts) (hw2 : Cond.instanceMethod objectInit ∈ Ts) (hw3 : Cond.code objectInit ⟨#[0xb1]⟩ 1 none ∈ Ts) (hdg : decode cc pc = .ok (.invokespecial index, 3)) (hR : 1 ≤ R.frames ∧ (st.map fun v => v.category).sum + 12 ≤ R.locals) (hp : pc + 3 = pc') (k : G p l e R s m args below meth c D b kc ks nL Q pc' lv st z ad fw) : G p l e R s m args below meth c D b kc ks nL Q pc lv (.ref x :: st) z ad fw := by
  subst hp
  intro ls H locs hl hP hD hS
  exact W.objInit C0.1.1 C0.1.2.1 C0.1.2.2.2.1 (C0.1.2.2.2.2 _ hw1) (C0.1.2.2.2.2 _ hw2) (C0.1.2.2.2.2 _ hw3) rfl (hl.1.trans C0.1.2.2.1.symm) rfl hdg hR.1 (by show 2 * 0 + _ + 12 ≤ _; have := hR.2; omega) (k ls H locs hl hP hD hS)
theorem g_new (C0 : CG D Y b R p s args m c cc nL own Ts) {ci index N : Nat} {C : String} {T : u_T} {Ft : Nat → FieldType} (fs : List Value) (hin : ∀ w ∈ u_ws C T N, w ∈ Ts) (hty : ∀ k, k < N → parseFieldDescriptor (T k).2.2.1 = some (Ft k)) (hw1 : Cond.classLink own index C ∈ Ts) (hw2 : Cond.instantiable C N ∈ Ts) (hw3 : Cond.initialized C ∈ Ts) (hc : vwCl[ci]? = some (C, T, N)) (hfs : ∀ j, j < N → defaultValue (Ft j) = vp_V fs j) (hR : kc + 1 ≤ R.cells ∧ ks + N ≤ R.slots) (hdg : decode cc pc = .ok (.new index, 3)) (hp : pc + 3 = pc') (k : ∀ q, G p l e R s m args below meth c D b (kc + 1) (ks + N) nL Q pc' lv (.ref q :: st) (z + 1) (va_up ad z q) (va_up fw z (.inr (ci, fs)))) : G p l e R s m args below meth c D b kc ks nL Q pc lv st z ad fw := by
  subst hp
  intro ls H locs hl hP hD hS
  refine va_new (ci := ci) (fs := fs) C0.1.1 C0.1.2.1 C0.1.2.2.2.2 hin Ft hty C0.1.2.2.2.1 (C0.1.2.2.2.2 _ hw1) (C0.1.2.2.2.2 _ hw2) (C0.1.2.2.2.2 _ hw3) C0.2.1 hP hD hS (fun q h => Nat.le_trans C0.2.2.2.2 h) hc hfs hR.1 hR.2 hdg (fun q H1 hP1 hD1 hS1 => ?_)
  rw [wgr_push] at hP1 hD1
  exact k q ls H1 locs hl hP1 hD1 hS1
theorem ty_one {cA : ClassId} {ty : FieldType} {tys : List (ClassId × FieldType)} {k : Nat} (hK : va_K D vwCl (tysY Y) s) (hk : (tysY Y)[k]? = some (Y k, ty)) (hK1 : va_K D vwCl (tysY Y ++ [(cA, ty)]) s) : cA = Y k := by
  have h1 := (hK.2 k _ hk).2
  have h2 := (hK1.2 5 (cA, ty) rfl).2
  cases ty with
  | object C =>
    obtain ⟨kA, comp, -, -, -, e1⟩ := h1
    obtain ⟨kA', comp', -, -, -, e2⟩ := h2
    exact Option.some.inj (e2.symm.trans e1)
  | _ => exact Option.some.inj (Eq.trans (Eq.symm h2) h1)
theorem g_newa (C0 : CG D Y b R p s args m c cc nL own Ts) {atype : ArrayType} {ty : FieldType} {n : Int32} (N' : Nat) (k0 : Nat) (hk0 : (tysY Y)[k0]? = some (Y k0, ty)) (harr : Cond.arrayClass (newarray.typeOf atype) ∈ Ts) (hty : newarray.typeOf atype = ty) (ha : ∀ cA : ClassId, vp_cell cA (N', .inl (fun _ => 0)) = arrV cA N' (fun _ => defaultValue ty)) (hn : ¬ n < 0) (hN : n.toNatClampNeg = N') (hbytes : N' * componentBytes ty ≤ 536870912) (hR : kc + 1 ≤ R.cells ∧ ks + N' ≤ R.slots) (hdg : decode cc pc = .ok (.newarray atype, 2)) (hp : pc + 2 = pc') (k : ∀ q, G p l e R s m args below meth c D b (kc + 1) (ks + N') nL Q pc' lv (.ref q :: st) (z + 1) (va_up ad z q) (va_up fw z (.inl (Y k0, N', .inl (fun _ => 0))))) : G p l e R s m args below meth c D b kc ks nL Q pc lv (.int n :: st) z ad fw := by
  subst hp
  intro ls H locs hl hP hD hS
  refine va_newa (ty := ty) C0.1.1 C0.1.2.1 (C0.1.2.2.2.2 _ harr) hty C0.2.1 hP hD hS (fun q h => Nat.le_trans C0.2.2.2.2 h) ha hn hN hbytes hR.1 hR.2 hdg (fun q cA H1 hK1 hP1 hD1 hS1 => ?_)
  obtain rfl := ty_one (tys := []) C0.2.1 hk0 hK1
  rw [wgr_push] at hP1 hD1
  exact k q ls H1 locs hl hP1 hD1 hS1
theorem g_newq (C0 : CG D Y b R p s args m c cc nL own Ts) {index : Nat} {C : String} {n : Int32} (N' : Nat) (k0 : Nat) (hk0 : (tysY Y)[k0]? = some (Y k0, .object C)) (hw : Cond.classLink own index C ∈ Ts) (hov : AOW s → va_AO C s) (hn : ¬ n < 0) (hN : n.toNatClampNeg = N') (hbytes : N' * 4 ≤ 536870912) (hR : kc + 1 ≤ R.cells ∧ ks + N' ≤ R.slots) (hdg : decode cc pc = .ok (.anewarray index, 3)) (hp : pc + 3 = pc') (k : ∀ q, G p l e R s m args below meth c D b (kc + 1) (ks + N') nL Q pc' lv (.ref q :: st) (z + 1) (va_up ad z q) (va_up fw z (.inl (Y k0, N', .inr (.inr (.inr (.inr (fun _ => none)))))))) : G p l e R s m args below meth c D b kc ks nL Q pc lv (.int n :: st) z ad fw := by
  subst hp
  intro ls H locs hl hP hD hS
  refine va_newq (C := C) C0.1.1 C0.1.2.1 C0.1.2.2.2.1 (C0.1.2.2.2.2 _ hw) (hov C0.2.2.2.1) C0.2.1 hP hD hS (fun q h => Nat.le_trans C0.2.2.2.2 h) hn hN hbytes hR.1 hR.2 hdg (fun q cA H1 hK1 hP1 hD1 hS1 => ?_)
  obtain rfl := ty_one (tys := []) C0.2.1 hk0 hK1
  rw [wgr_push] at hP1 hD1
  exact k q ls H1 locs hl hP1 hD1 hS1
theorem g_get (C0 : CG D Y b R p s args m c cc nL own Ts) {o ci index N x : Nat} {C ref : String} {T : u_T} {fs : List Value} (k0 : Nat) {v : Value} (ho : o < z) (hx : ad o = x) (hf : fw o = .inr (ci, fs)) (hc : vwCl[ci]? = some (C, T, N)) (hin : ∀ w ∈ u_ws C T N, w ∈ Ts) (hk : k0 < N) (hw : Cond.fieldLink own index ref (T k0).2.1 (T k0).2.2.1 ∈ Ts) (hsame : ∀ x, s.fieldFound? (T k0).1 (T k0).2.1 (T k0).2.2.1 = some x → s.fieldFound? ref (T k0).2.1 (T k0).2.2.1 = some x) (hv : fs[k0]? = some v) (hdg : decode cc pc = .ok (.getfield index, 3)) (hp : pc + 3 = pc') (k : G p l e R s m args below meth c D b kc ks nL Q pc' lv (v :: st) z ad fw) : G p l e R s m args below meth c D b kc ks nL Q pc lv (.ref x :: st) z ad fw := by
  subst hp
  subst hx
  intro ls H locs hl hP hD hS
  exact va_get (D := D) (ci := ci) (v := v) (C := C) (T := T) (N := N) C0.1.1 C0.1.2.1 C0.1.2.2.2.2 hin C0.1.2.2.2.1 C0.2.1 hP o (by rw [wgr_get ho, hf]) hc k0 hk (C0.1.2.2.2.2 _ hw) hsame hv hdg (k ls H locs hl hP hD hS)
theorem g_put (C0 : CG D Y b R p s args m c cc nL own Ts) {o ci index N x : Nat} {C ref : String} {T : u_T} {Ft : Nat → FieldType} {fs : List Value} (k0 : Nat) {v : Value} {ty : FieldType} (ho : o < z) (hx : ad o = x) (hf : fw o = .inr (ci, fs)) (hc : vwCl[ci]? = some (C, T, N)) (hin : ∀ w ∈ u_ws C T N, w ∈ Ts) (hty : ∀ k, k < N → parseFieldDescriptor (T k).2.2.1 = some (Ft k)) (hnm : ∀ a, a < N → ∀ b, b < N → a ≠ b → (T a).2.1 ≠ (T b).2.1) (hk : k0 < N) (hw : Cond.fieldLink own index ref (T k0).2.1 (T k0).2.2.1 ∈ Ts) (hsame : ∀ x, s.fieldFound? (T k0).1 (T k0).2.1 (T k0).2.2.1 = some x → s.fieldFound? ref (T k0).2.1 (T k0).2.2.1 = some x) (hfin : (T k0).2.2.2 = false ∨ ((T k0).2.2.2 = true ∧ meth.name = "<init>" ∧ (T k0).1 = own)) (hd : parseFieldDescriptor (T k0).2.2.1 = some ty) (hn : narrow ty v = v) (hfit : fits ty v = true) (hl9 : k0 < fs.length) (hdg : decode cc pc = .ok (.putfield index, 3)) (hp : pc + 3 = pc') (k : G p l e R s m args below meth c D b kc ks nL Q pc' lv st z ad (va_up fw o (.inr (ci, fs.set k0 v)))) : G p l e R s m args below meth c D b kc ks nL Q pc lv (v :: .ref x :: st) z ad fw := by
  subst hp
  subst hx
  intro ls H locs hl hP hD hS
  rcases hfin with hfin | ⟨hfin, hin2, hdecl⟩
  · refine va_put (D := D) (ci := ci) (v := v) (ty := ty) (C := C) (T := T) (N := N) C0.1.1 C0.1.2.1 C0.1.2.2.2.2 hin Ft hty hnm C0.1.2.2.2.1 C0.2.1 hP hD hS o (by rw [wgr_get ho, hf]) hc k0 hk (C0.1.2.2.2.2 _ hw) hsame hfin hd hn hfit hl9 hdg (fun H1 locs1 hP1 hD1 hS1 => ?_)
    rw [wgr_set ho] at hP1 hD1
    exact k ls H1 locs1 hl hP1 hD1 hS1
  · refine va_putF (D := D) (ci := ci) (v := v) (ty := ty) (C := C) (T := T) (N := N) C0.1.1 C0.1.2.1 C0.1.2.2.2.2 hin Ft hty hnm C0.1.2.2.2.1 C0.2.1 hP hD hS o (by rw [wgr_get ho, hf]) hc k0 hk (C0.1.2.2.2.2 _ hw) hsame hfin hin2 hdecl hd hn hfit hl9 hdg (fun H1 locs1 hP1 hD1 hS1 => ?_)
    rw [wgr_set ho] at hP1 hD1
    exact k ls H1 locs1 hl hP1 hD1 hS1
theorem g_iast (C0 : CG D Y b R p s args m c cc nL own Ts) {o n x : Nat} {g : Nat → Int32} {i v : Int32} (ho : o < z) (hx : ad o = x) (hf : fw o = .inl (Y 1, n, .inl g)) (hi : vp_in i n) (hdg : decode cc pc = .ok (.iastore, 1)) (hp : pc + 1 = pc') (k : G p l e R s m args below meth c D b kc ks nL Q pc' lv st z ad (va_up fw o (.inl (Y 1, n, .inl (upd g i.toNatClampNeg v))))) : G p l e R s m args below meth c D b kc ks nL Q pc lv (.int v :: .int i :: .ref x :: st) z ad fw := by
  subst hp
  subst hx
  intro ls H locs hl hP hD hS
  refine va_iast C0.1.1 C0.1.2.1 C0.2.1 hP hD hS o 1 (by rw [wgr_get ho, hf]) rfl hi hdg (fun H1 locs1 hP1 hD1 hS1 => ?_)
  rw [wgr_set ho] at hP1 hD1
  exact k ls H1 locs1 hl hP1 hD1 hS1
theorem g_astq (C0 : CG D Y b R p s args m c cc nL own Ts) {o n x ci w : Nat} {r : vw_C} {g : Nat → Option Nat} {i : Int32} {vs : List Value} (k0 qk : Nat) (ho : o < z) (hx : ad o = x) (hf : fw o = .inl (Y k0, n, .inr (.inr (.inr (.inr g))))) (hk0 : (tysY Y)[k0]? = some (Y k0, .object r.1)) (hqk : qk < z) (hw : ad qk = w) (hv : fw qk = .inr (ci, vs)) (hc : vwCl[ci]? = some r) (hi : vp_in i n) (hdg : decode cc pc = .ok (.aastore, 1)) (hp : pc + 1 = pc') (k : G p l e R s m args below meth c D b kc ks nL Q pc' lv st z ad (va_up fw o (.inl (Y k0, n, .inr (.inr (.inr (.inr (va_up g i.toNatClampNeg (some w))))))))) : G p l e R s m args below meth c D b kc ks nL Q pc lv (.ref w :: .int i :: .ref x :: st) z ad fw := by
  subst hp
  subst hx
  subst hw
  intro ls H locs hl hP hD hS
  refine va_astq C0.1.1 C0.1.2.1 C0.2.1 hP hD hS o k0 qk ci (by rw [wgr_get ho, hf]) hk0 (by rw [wgr_get hqk, hv]) hc hi hdg (fun H1 locs1 hP1 hD1 hS1 => ?_)
  rw [wgr_set ho] at hP1 hD1
  exact k ls H1 locs1 hl hP1 hD1 hS1
theorem g_aald (C0 : CG D Y b R p s args m c cc nL own Ts) {o n x w : Nat} {C : String} {g : Nat → Option Nat} {i : Int32} (k0 : Nat) (ho : o < z) (hx : ad o = x) (hf : fw o = .inl (Y k0, n, .inr (.inr (.inr (.inr g))))) (hk0 : (tysY Y)[k0]? = some (Y k0, .object C)) (hg : g i.toNatClampNeg = some w) (hi : vp_in i n) (hdg : decode cc pc = .ok (.aaload, 1)) (hp : pc + 1 = pc') (k : G p l e R s m args below meth c D b kc ks nL Q pc' lv (.ref w :: st) z ad fw) : G p l e R s m args below meth c D b kc ks nL Q pc lv (.int i :: .ref x :: st) z ad fw := by
  subst hp
  subst hx
  intro ls H locs hl hP hD hS
  refine va_aldq (C := C) C0.1.1 C0.1.2.1 C0.2.1 hP o k0 (by rw [wgr_get ho, hf]) hk0 hi hdg ?_
  rw [hg]
  exact k ls H locs hl hP hD hS
theorem preG_blind {As : List Value} : FrameBlind (va_Pc As (PreG D Y b z ad fw)) := fun a U g mk q => by
  obtain ⟨q0, qP, qK, qN, qO, qD⟩ := q
  exact ⟨q0, qP, va_K.moved (u := U) (U := U.calling g mk a) (Vm.Alike.refl U.vm) qK, NW.same (s := U) (U := U.calling g mk a) rfl qN, ⟨va_AO.moved (u := U) (U := U.calling g mk a) (Vm.Alike.refl U.vm) qO.1, va_AO.moved (u := U) (U := U.calling g mk a) (Vm.Alike.refl U.vm) qO.2⟩, qD⟩
theorem preG_at (C0 : CG D Y b R p s args m c cc nL own Ts) {H : Heap} {locs : List Loc} (hP : va_P D vwCl (wgr ad z fw) H) (hD : va_D (AB b) (wgr ad z fw)) (hS : va_S (AB b) s.heap H locs) : ∀ U : State, U.heap = H → s.WarmedH U.vm → PreG D Y b z ad fw U := fun U hU hW => ⟨by rw [hU]; exact hP, va_K.moved hW.alike C0.2.1, NW.warm hW C0.2.2.1, ⟨va_AO.moved hW.alike C0.2.2.2.1.1, va_AO.moved hW.alike C0.2.2.2.1.2⟩, hD, by rw [hU]; exact Nat.le_trans C0.2.2.2.2 hS.1⟩
/-- a constructor is called -/
theorem g_init (C0 : CG D Y b R p s args m c cc nL own Ts) {index z' x : Nat} {y : MethodName} {bytes : ByteArray} {maxL : Nat} {ws ws' : List Cond} {rm : Room} {rest : List Value} {Post : (Nat → Nat) → (Nat → va_E) → Prop} (hM : ConG l y ws rm [.ref x] D Y b z ad fw z' Post) (hdg : decode cc pc = .ok (.invokespecial index, 3)) (hG : GoodIn Ts ws) (hw : ws = Cond.code y bytes maxL none :: ws') (hini : Cond.initialized y.cls ∈ Ts) (hl0 : Cond.methodLink own index y ∈ Ts) (hinst : Cond.instanceMethod y ∈ Ts) (hy1 : y.name = "<init>") (hd : y.cls ≠ "java/lang/invoke/MethodHandle" ∧ y.cls ≠ "java/lang/invoke/VarHandle" ∧ (parseMethodDescriptor y.desc).map (fun d => d.parameters.length) = some 0) (hR : rm.frames + 1 ≤ R.frames ∧ 8 + (maxL + 11) + rm.locals ≤ R.locals) (hcs : kc + rm.cells ≤ R.cells ∧ ks + rm.slots ≤ R.slots) (hst : st = .ref x :: rest) (hWt : (rest.map fun v => v.category).sum ≤ 8) (hp : pc + 3 = pc') (k : ∀ ad' fw', Post ad' fw' → G p l e R s m args below meth c D b (kc + rm.cells) (ks + rm.slots) nL Q pc' lv rest z' ad' fw') : G p l e R s m args below meth c D b kc ks nL Q pc lv st z ad fw := by
  subst hp
  subst hst
  intro ls H locs hl hP hD hS
  have cw := cwI (R := R) (s := s) (args := args) (own := own) (index := index) 0 C0.1.2.2.2.2 hG hw rfl rfl (C0.1.2.2.2.2 _ hini) (C0.1.2.2.2.2 _ hl0) (C0.1.2.2.2.2 _ hinst) hy1 hd hR
  have hrun := va_runI (l := l) (e := e) (below := below) (meth := meth) (locs := locs) (cells := kc) (slots := ks) (As := []) (rest := rest) (g := F0 m pc ls (.ref x :: rest)) C0.1 hM cw ⟨preG_blind, fun U hU hW => ⟨rfl, preG_at C0 hP hD hS U hU hW⟩⟩ rfl rfl hl.1 rfl (lv_room hWt) hdg hcs
  exact va_callv hrun hS (fun q _ hq => hq) (fun q hq => hq) (fun u T H1 locs1 hT _ hw hB _ _ hS1 => k u.1 u.2 hw ls H1 locs1 hl (by rw [← hT]; exact hB.1) hB.2 hS1)
theorem g_initN (C0 : CG D Y b R p s args m c cc nL own Ts) {index z' x : Nat} {y : MethodName} {host : String} {bytes : ByteArray} {maxL : Nat} {ws ws' : List Cond} {rm : Room} {rest : List Value} {Post : (Nat → Nat) → (Nat → va_E) → Prop} (hM : ConG l y ws rm [.ref x] D Y b z ad fw z' Post) (hdg : decode cc pc = .ok (.invokespecial index, 3)) (hG : GoodIn Ts ws) (hw : ws = Cond.code y bytes maxL none :: ws') (hini : Cond.initialized y.cls ∈ Ts) (hnest : va_Nw (.methodLinkNest own index y host) s) (hinst : Cond.instanceMethod y ∈ Ts) (hy1 : y.name = "<init>") (hd : y.cls ≠ "java/lang/invoke/MethodHandle" ∧ y.cls ≠ "java/lang/invoke/VarHandle" ∧ (parseMethodDescriptor y.desc).map (fun d => d.parameters.length) = some 0) (hR : rm.frames + 1 ≤ R.frames ∧ 8 + (maxL + 11) + rm.locals ≤ R.locals) (hcs : kc + rm.cells ≤ R.cells ∧ ks + rm.slots ≤ R.slots) (hst : st = .ref x :: rest) (hWt : (rest.map fun v => v.category).sum ≤ 8) (hp : pc + 3 = pc') (k : ∀ ad' fw', Post ad' fw' → G p l e R s m args below meth c D b (kc + rm.cells) (ks + rm.slots) nL Q pc' lv rest z' ad' fw') : G p l e R s m args below meth c D b kc ks nL Q pc lv st z ad fw := by
  subst hp
  subst hst
  intro ls H locs hl hP hD hS
  have cw := va_cnB (R := R) (s := s) (args := args) (own := own) (index := index) 0 C0.1.2.2.2.2 hG hw rfl rfl hnest (C0.1.2.2.2.2 _ hini) hd hR
  have hrun := va_runIN (l := l) (e := e) (below := below) (meth := meth) (locs := locs) (cells := kc) (slots := ks) (As := []) (rest := rest) (g := F0 m pc ls (.ref x :: rest)) C0.1 hM ⟨cw, hy1, C0.1.2.2.2.2 _ hinst⟩ ⟨preG_blind, fun U hU hW => ⟨rfl, preG_at C0 hP hD hS U hU hW⟩⟩ rfl rfl hl.1 rfl (lv_room hWt) hdg hcs
  exact va_callv hrun hS (fun q _ hq => hq) (fun q hq => hq) (fun u T H1 locs1 hT _ hw hB _ _ hS1 => k u.1 u.2 hw ls H1 locs1 hl (by rw [← hT]; exact hB.1) hB.2 hS1)
theorem g_vret (C0 : CG D Y b R p s args m c cc nL own Ts) (hlocks : meth.locks = false) (hr : meth.sig.returnType = none) {Post : (Nat → Nat) → (Nat → va_E) → Prop} (hdg : decode cc pc = .ok (.return_, 1)) (hK : Post ad fw) : G p l e R s m args below meth c D b kc ks nL (MQ below (QG D b z Post) args s kc ks (AB b)) pc lv [] z ad fw := fun ls H locs hl hP hD hS => W.vret C0.1.1 C0.1.2.1 hr (fun t ht hW => ⟨⟨(ad, fw), rfl, hK, by show va_P _ _ _ _ ∧ _; rw [ht]; exact ⟨hP, hD⟩⟩, hS.F ht⟩) hS.2.2 hdg hlocks
end GW
theorem conG_of {l : Launch} {y : MethodName} {ws ws' : List Cond} {rm : Room} {cc : ByteArray} {maxL : Nat} {D : va_G} {Y : Nat → ClassId} {b z z' : Nat} {ad : Nat → Nat} {fw : Nat → va_E} {Post : (Nat → Nat) → (Nat → va_E) → Prop} {own : String} (As : List Value) (hy : plainFor y = true) (hown : y.cls = own) (hw : ws = Cond.code y cc maxL none :: ws') (hsz : (lg_sl As).length ≤ maxL)
    (body : ∀ (p : Program) (e : Env) (s : State) (m : MethodId) (args : Array Value) (below : List Frame) (meth : Method) (c : Code), CG D Y b rm p s args m c cc maxL own ws → meth.locks = false → meth.sig.returnType = none → meth.name = y.name → G p l e rm s m args below meth c D b 0 0 maxL (MQ below (QG D b z' Post) args s rm.cells rm.slots (AB b)) 0 (lv_args 0 As) [] z ad fw) : ConG l y ws rm As D Y b z ad fw z' Post := by
  refine met_ofF (cc := cc) (maxL := maxL) (ret := none) hy hw ?_
  intro p e s m args below meth c s₁ B hml hv
  obtain ⟨rfl, hP, hK, hN, hO, hD, hb⟩ := hv
  have hts := atoms_spec (ws := ws) B.pre
  have hown1 : s.vm.findClass own = some m.cls := by rw [← hown]; exact findClass_of_methodNamed B.named
  have hl := lv_entry As hsz
  rw [lg_entry_eq]
  exact body p e s m _ below meth c ⟨⟨B.exec, B.bytes, hml, hown1, hts⟩, hK, hN, hO, hb⟩ B.notSynchronized B.returns (name_of_methodNamed B.named B.method).1 _ _ _ hl hP hD va_S.rf
