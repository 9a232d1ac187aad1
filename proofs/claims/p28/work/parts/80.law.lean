/-! the law's own walk, behind its constructor -/
abbrev KLaw : Type := { K : Int32 → Mem → Prop // ∀ r μ, K r μ → r = 1 }
def LK (meth : Method) (bs L : Nat) (xs : Nat → Int32) (s : State) : Prop := va_X bs L xs s s.heap ∧ bs < s.heap.size ∧ L ≤ 260 ∧ meth.locks = false
theorem not_AB {bs : Nat} {s : State} (h : bs < s.heap.size) : ¬ AB s.heap.size bs := by unfold AB; omega
theorem j_lret {p : Program} {l : Launch} {e : Env} {s : State} {m : MethodId} {below : List Frame} {meth : Method} {c : Code} {D : va_G} {Y : Nat → ClassId} {ad : Nat → Nat} {bs L : Nat} {xs : Nat → Int32} (C0 : CX D Y ad (AB s.heap.size) room_1 168 1887 p s #[Value.ref bs] m c code 5 RL wsL_law) (hlk : LK meth bs L xs s) (hret : meth.sig.returnType = ret) {pc : Nat} {lv : List (Nat × Value)} {μ : Mem} {v : Int32} (hdg : decode code pc = .ok (.ireturn, 1)) (hv : v = 1) : J p l e room_1 s m #[Value.ref bs] below meth c D Y ad (AB s.heap.size) 168 1887 5 (lw_Z below #[Value.ref bs] s) pc lv [.int v] μ := by
  subst hv
  exact fun ls H locs hl hP hS => va_forget hS.2.2 (W.widen (by omega) (by omega) (lw_ret C0.1.1 C0.1.2.1 hret hlk.2.2.2 hdg))
def x_L_law_L181 (K : KLaw) (a3 : Int32) (a4 : Int32) (as0 : Int32) (μ : Mem) : Prop :=
  (as0 = 0 → K.1 0 μ) ∧ (¬ (as0 = 0) → x_X5_restore 1 μ (fun r21 μ20 => (r21 = a3 → x_X5_count 5 μ20 (fun r24 μ23 => (r24 = a4 → x_X5_undo  μ23 (fun r27 μ26 => (r27 < 0 → K.1 0 μ26) ∧ (¬ (r27 < 0) → x_X5_count 1 μ26 (fun r30 μ29 => (r30 ≤ a3 → K.1 0 μ29) ∧ (¬ (r30 ≤ a3) → K.1 1 μ29))))) ∧ (¬ (r24 = a4) → K.1 0 μ23))) ∧ (¬ (r21 = a3) → K.1 0 μ20)))
set_option maxRecDepth 20000 in
theorem w_L_law_L181 {p : Program} {l : Launch} {e : Env} {s : State} {m : MethodId} {below : List Frame} {meth : Method} {c : Code} {D : va_G} {Y : Nat → ClassId} {ad : Nat → Nat} {bs L : Nat} {xs : Nat → Int32} (C0 : CX D Y ad (AB s.heap.size) room_1 168 1887 p s #[Value.ref bs] m c code 5 RL wsL_law) (hlk : LK meth bs L xs s) (hret : meth.sig.returnType = ret) (a3 : Int32) (a4 : Int32) (as0 : Int32) (μ : Mem) (K : KLaw)  (hX : x_L_law_L181 K a3 a4 as0 μ) : J p l e room_1 s m #[Value.ref bs] below meth c D Y ad (AB s.heap.size) 168 1887 5 (lw_Z below #[Value.ref bs] s) 181 [(1, .ref (ad 0)), (3, .int a3), (4, .int a4)] [.int as0] μ := by
  refine j_istore_n C0 [(2, .int as0), (1, .ref (ad 0)), (3, .int a3), (4, .int a4)] dL_law_181 rfl (by decide) rfl rfl ?_
  refine j_iload_n C0 0 dL_law_182 rfl rfl rfl ?_
  refine j_if_eq C0 (tgt := 225) dL_law_183 (by decide) rfl (fun c19 => ?_) (fun c19 => ?_)
  · have hX := hX.1 c19
    refine j_iconst C0 0 dL_law_225 (by decide) rfl ?_
    exact j_lret C0 hlk hret dL_law_226 (K.2 _ _ hX)
  · have hX := hX.2 c19
    refine j_aload_n C0 1 dL_law_186 rfl rfl rfl ?_
    refine j_iconst C0 1 dL_law_187 (by decide) rfl ?_
    refine j_callVi C0 1 [.int 1] (c_X5_restore 1  hX) dL_law_188 gL_law_X5_restore rfl (by decide +kernel) ⟨⟨Nat.le_of_ble_eq_true rfl, Nat.le_of_ble_eq_true rfl⟩, rfl, rfl⟩ (kd_lt (rfl : kd 0 = 5) (by decide)) (ce5 (rfl : kd 0 = 5)) rfl rfl rfl (Nat.le_of_ble_eq_true rfl) rfl (fun r21 μ20 hX => ?_)
    refine j_iload_n C0 2 dL_law_191 rfl rfl rfl ?_
    refine j_icmp_ne C0 (tgt := 225) dL_law_192 (by decide) rfl (fun c22 => ?_) (fun c22 => ?_)
    · have hX := hX.1 c22
      refine j_aload_n C0 1 dL_law_195 rfl rfl rfl ?_
      refine j_iconst C0 5 dL_law_196 (by decide) rfl ?_
      refine j_callVi C0 1 [.int 5] (c_X5_count 5  hX) dL_law_197 gL_law_X5_count rfl (by decide +kernel) ⟨⟨Nat.le_of_ble_eq_true rfl, Nat.le_of_ble_eq_true rfl⟩, rfl, rfl⟩ (kd_lt (rfl : kd 0 = 5) (by decide)) (ce5 (rfl : kd 0 = 5)) rfl rfl rfl (Nat.le_of_ble_eq_true rfl) rfl (fun r24 μ23 hX => ?_)
      refine j_iload C0 3 dL_law_200 rfl rfl ?_
      refine j_icmp_ne C0 (tgt := 225) dL_law_202 (by decide) rfl (fun c25 => ?_) (fun c25 => ?_)
      · have hX := hX.1 c25
        refine j_aload_n C0 1 dL_law_205 rfl rfl rfl ?_
        refine j_callVi C0 0 [] (c_X5_undo   hX) dL_law_206 gL_law_X5_undo rfl (by decide +kernel) ⟨⟨Nat.le_of_ble_eq_true rfl, Nat.le_of_ble_eq_true rfl⟩, rfl, rfl⟩ (kd_lt (rfl : kd 0 = 5) (by decide)) (ce5 (rfl : kd 0 = 5)) rfl rfl rfl (Nat.le_of_ble_eq_true rfl) rfl (fun r27 μ26 hX => ?_)
        refine j_if_lt C0 (tgt := 225) dL_law_209 (by decide) rfl (fun c28 => ?_) (fun c28 => ?_)
        · have hX := hX.1 c28
          refine j_iconst C0 0 dL_law_225 (by decide) rfl ?_
          exact j_lret C0 hlk hret dL_law_226 (K.2 _ _ hX)
        · have hX := hX.2 c28
          refine j_aload_n C0 1 dL_law_212 rfl rfl rfl ?_
          refine j_iconst C0 1 dL_law_213 (by decide) rfl ?_
          refine j_callVi C0 1 [.int 1] (c_X5_count 1  hX) dL_law_214 gL_law_X5_count rfl (by decide +kernel) ⟨⟨Nat.le_of_ble_eq_true rfl, Nat.le_of_ble_eq_true rfl⟩, rfl, rfl⟩ (kd_lt (rfl : kd 0 = 5) (by decide)) (ce5 (rfl : kd 0 = 5)) rfl rfl rfl (Nat.le_of_ble_eq_true rfl) rfl (fun r30 μ29 hX => ?_)
          refine j_iload_n C0 2 dL_law_217 rfl rfl rfl ?_
          refine j_icmp_le C0 (tgt := 225) dL_law_218 (by decide) rfl (fun c31 => ?_) (fun c31 => ?_)
          · have hX := hX.1 c31
            refine j_iconst C0 0 dL_law_225 (by decide) rfl ?_
            exact j_lret C0 hlk hret dL_law_226 (K.2 _ _ hX)
          · have hX := hX.2 c31
            refine j_iconst C0 1 dL_law_221 (by decide) rfl ?_
            refine j_goto C0 (tgt := 226) dL_law_222 (by decide) ?_
            exact j_lret C0 hlk hret dL_law_226 (K.2 _ _ hX)
      · have hX := hX.2 c25
        refine j_iconst C0 0 dL_law_225 (by decide) rfl ?_
        exact j_lret C0 hlk hret dL_law_226 (K.2 _ _ hX)
    · have hX := hX.2 c22
      refine j_iconst C0 0 dL_law_225 (by decide) rfl ?_
      exact j_lret C0 hlk hret dL_law_226 (K.2 _ _ hX)
def x_L_law_L180 (K : KLaw) (a3 : Int32) (a4 : Int32) (μ : Mem) : Prop :=
  x_L_law_L181 K a3 a4 0 μ
set_option maxRecDepth 20000 in
theorem w_L_law_L180 {p : Program} {l : Launch} {e : Env} {s : State} {m : MethodId} {below : List Frame} {meth : Method} {c : Code} {D : va_G} {Y : Nat → ClassId} {ad : Nat → Nat} {bs L : Nat} {xs : Nat → Int32} (C0 : CX D Y ad (AB s.heap.size) room_1 168 1887 p s #[Value.ref bs] m c code 5 RL wsL_law) (hlk : LK meth bs L xs s) (hret : meth.sig.returnType = ret) (a3 : Int32) (a4 : Int32) (μ : Mem) (K : KLaw)  (hX : x_L_law_L180 K a3 a4 μ) : J p l e room_1 s m #[Value.ref bs] below meth c D Y ad (AB s.heap.size) 168 1887 5 (lw_Z below #[Value.ref bs] s) 180 [(1, .ref (ad 0)), (3, .int a3), (4, .int a4)] [] μ := by
  refine j_iconst C0 0 dL_law_180 (by decide) rfl ?_
  exact j_sub (l' := [(1, .ref (ad 0)), (3, .int a3), (4, .int a4)]) [0, 1, 2] rfl (w_L_law_L181 C0 hlk hret a3 a4 0 μ K  hX)
def x_L_law_L102 (K : KLaw) (a2 : Int32) (μ : Mem) : Prop :=
  x_X5_save 1 μ (fun r15 μ14 => x_X5_count 5 μ14 (fun r17 μ16 => (a2 = 0 → x_L_law_L180 K r15 r17 μ16) ∧ (¬ (a2 = 0) → x_L_areWheels  μ16 (fun r33 μ32 => (r33 = 0 → x_L_law_L180 K r15 r17 μ32) ∧ (¬ (r33 = 0) → 0 ≤ (41 : Int32) ∧ ∀ r36 : Int32, 0 ≤ r36 → x_L_areSamples r36 μ32 (fun r38 μ37 => (r38 = 0 → x_L_law_L180 K r15 r17 μ37) ∧ (¬ (r38 = 0) → x_L_areWheels  μ37 (fun r41 μ40 => (r41 = 0 → x_L_law_L180 K r15 r17 μ40) ∧ (¬ (r41 = 0) → 0 ≤ (42 : Int32) ∧ ∀ r44 : Int32, 0 ≤ r44 → x_L_isRound (r44 - r44 / 4 * 4) μ40 (fun r46 μ45 => (r46 = 0 → x_L_law_L180 K r15 r17 μ45) ∧ (¬ (r46 = 0) → 0 ≤ (43 : Int32) ∧ ∀ r49 : Int32, 0 ≤ r49 → x_L_isRound (r49 - r49 / 4 * 4) μ45 (fun r51 μ50 => (r51 = 0 → x_L_law_L180 K r15 r17 μ50) ∧ (¬ (r51 = 0) → x_L_law_L181 K r15 r17 1 μ50)))))))))))))
set_option maxRecDepth 20000 in
theorem w_L_law_L102 {p : Program} {l : Launch} {e : Env} {s : State} {m : MethodId} {below : List Frame} {meth : Method} {c : Code} {D : va_G} {Y : Nat → ClassId} {ad : Nat → Nat} {bs L : Nat} {xs : Nat → Int32} (C0 : CX D Y ad (AB s.heap.size) room_1 168 1887 p s #[Value.ref bs] m c code 5 RL wsL_law) (hlk : LK meth bs L xs s) (hret : meth.sig.returnType = ret) (a2 : Int32) (μ : Mem) (K : KLaw)  (hX : x_L_law_L102 K a2 μ) : J p l e room_1 s m #[Value.ref bs] below meth c D Y ad (AB s.heap.size) 168 1887 5 (lw_Z below #[Value.ref bs] s) 102 [(0, .ref bs), (1, .ref (ad 0)), (2, .int a2)] [] μ := by
  refine j_aload_n C0 1 dL_law_102 rfl rfl rfl ?_
  refine j_iconst C0 1 dL_law_103 (by decide) rfl ?_
  refine j_callVi C0 1 [.int 1] (c_X5_save 1  hX) dL_law_104 gL_law_X5_save rfl (by decide +kernel) ⟨⟨Nat.le_of_ble_eq_true rfl, Nat.le_of_ble_eq_true rfl⟩, rfl, rfl⟩ (kd_lt (rfl : kd 0 = 5) (by decide)) (ce5 (rfl : kd 0 = 5)) rfl rfl rfl (Nat.le_of_ble_eq_true rfl) rfl (fun r15 μ14 hX => ?_)
  refine j_istore_n C0 [(3, .int r15), (0, .ref bs), (1, .ref (ad 0)), (2, .int a2)] dL_law_107 rfl (by decide) rfl rfl ?_
  refine j_aload_n C0 2 dL_law_108 rfl rfl rfl ?_
  refine j_iconst C0 5 dL_law_109 (by decide) rfl ?_
  refine j_callVi C0 1 [.int 5] (c_X5_count 5  hX) dL_law_110 gL_law_X5_count rfl (by decide +kernel) ⟨⟨Nat.le_of_ble_eq_true rfl, Nat.le_of_ble_eq_true rfl⟩, rfl, rfl⟩ (kd_lt (rfl : kd 0 = 5) (by decide)) (ce5 (rfl : kd 0 = 5)) rfl rfl rfl (Nat.le_of_ble_eq_true rfl) rfl (fun r17 μ16 hX => ?_)
  refine j_istore C0 [(4, .int r17), (3, .int r15), (0, .ref bs), (1, .ref (ad 0)), (2, .int a2)] dL_law_113 (by decide) rfl rfl ?_
  refine j_iload_n C0 4 dL_law_115 rfl rfl rfl ?_
  refine j_if_eq C0 (tgt := 180) dL_law_116 (by decide) rfl (fun c18 => ?_) (fun c18 => ?_)
  · have hX := hX.1 c18
    exact j_sub (l' := [(1, .ref (ad 0)), (3, .int r15), (4, .int r17)]) [3, 1, 0] rfl (w_L_law_L180 C0 hlk hret r15 r17 μ16 K  hX)
  · have hX := hX.2 c18
    refine j_aload_n C0 3 dL_law_119 rfl rfl rfl ?_
    refine j_callSi C0 1 [.ref (ad 0)] (c_L_areWheels   hX) dL_law_120 gL_law_L_areWheels rfl (by decide +kernel) ⟨⟨Nat.le_of_ble_eq_true rfl, Nat.le_of_ble_eq_true rfl⟩, rfl, rfl⟩ rfl rfl (Nat.le_of_ble_eq_true rfl) rfl (fun r33 μ32 hX => ?_)
    refine j_if_eq C0 (tgt := 180) dL_law_123 (by decide) rfl (fun c34 => ?_) (fun c34 => ?_)
    · have hX := hX.1 c34
      exact j_sub (l' := [(1, .ref (ad 0)), (3, .int r15), (4, .int r17)]) [3, 1, 0] rfl (w_L_law_L180 C0 hlk hret r15 r17 μ32 K  hX)
    · have hX := hX.2 c34
      refine j_aload_n C0 3 dL_law_126 rfl rfl rfl ?_
      refine j_aload_n C0 2 dL_law_127 rfl rfl rfl ?_
      refine j_bipush C0 41 dL_law_128 (by decide) rfl ?_
      obtain ⟨h35, hX⟩ := hX
      refine j_cell C0 hlk.1 hlk.2.1 (not_AB hlk.2.1) (Nat.le_trans hlk.2.2.1 (by omega)) (v := 41) h35 dL_law_130 gL_law_L_cell ⟨Nat.le_of_ble_eq_true rfl, Nat.le_of_ble_eq_true rfl⟩ rfl (Nat.le_of_ble_eq_true rfl) rfl (fun r36 hr36 => ?_)
      have hX := hX r36 hr36
      refine j_callSi C0 2 [.ref (ad 0), .int r36] (c_L_areSamples r36  hX) dL_law_133 gL_law_L_areSamples rfl (by decide +kernel) ⟨⟨Nat.le_of_ble_eq_true rfl, Nat.le_of_ble_eq_true rfl⟩, rfl, rfl⟩ rfl rfl (Nat.le_of_ble_eq_true rfl) rfl (fun r38 μ37 hX => ?_)
      refine j_if_eq C0 (tgt := 180) dL_law_136 (by decide) rfl (fun c39 => ?_) (fun c39 => ?_)
      · have hX := hX.1 c39
        exact j_sub (l' := [(1, .ref (ad 0)), (3, .int r15), (4, .int r17)]) [3, 1, 0] rfl (w_L_law_L180 C0 hlk hret r15 r17 μ37 K  hX)
      · have hX := hX.2 c39
        refine j_aload_n C0 3 dL_law_139 rfl rfl rfl ?_
        refine j_callSi C0 1 [.ref (ad 0)] (c_L_areWheels   hX) dL_law_140 gL_law_L_areWheels rfl (by decide +kernel) ⟨⟨Nat.le_of_ble_eq_true rfl, Nat.le_of_ble_eq_true rfl⟩, rfl, rfl⟩ rfl rfl (Nat.le_of_ble_eq_true rfl) rfl (fun r41 μ40 hX => ?_)
        refine j_if_eq C0 (tgt := 180) dL_law_143 (by decide) rfl (fun c42 => ?_) (fun c42 => ?_)
        · have hX := hX.1 c42
          exact j_sub (l' := [(1, .ref (ad 0)), (3, .int r15), (4, .int r17)]) [3, 1, 0] rfl (w_L_law_L180 C0 hlk hret r15 r17 μ40 K  hX)
        · have hX := hX.2 c42
          refine j_aload_n C0 3 dL_law_146 rfl rfl rfl ?_
          refine j_aload_n C0 2 dL_law_147 rfl rfl rfl ?_
          refine j_bipush C0 42 dL_law_148 (by decide) rfl ?_
          obtain ⟨h43, hX⟩ := hX
          refine j_cell C0 hlk.1 hlk.2.1 (not_AB hlk.2.1) (Nat.le_trans hlk.2.2.1 (by omega)) (v := 42) h43 dL_law_150 gL_law_L_cell ⟨Nat.le_of_ble_eq_true rfl, Nat.le_of_ble_eq_true rfl⟩ rfl (Nat.le_of_ble_eq_true rfl) rfl (fun r44 hr44 => ?_)
          have hX := hX r44 hr44
          refine j_iconst C0 4 dL_law_153 (by decide) rfl ?_
          refine j_irem C0 dL_law_154 (by decide) rfl ?_
          refine j_callSi C0 2 [.ref (ad 0), .int (r44 - r44 / 4 * 4)] (c_L_isRound (r44 - r44 / 4 * 4)  hX) dL_law_155 gL_law_L_isRound rfl (by decide +kernel) ⟨⟨Nat.le_of_ble_eq_true rfl, Nat.le_of_ble_eq_true rfl⟩, rfl, rfl⟩ rfl rfl (Nat.le_of_ble_eq_true rfl) rfl (fun r46 μ45 hX => ?_)
          refine j_if_eq C0 (tgt := 180) dL_law_158 (by decide) rfl (fun c47 => ?_) (fun c47 => ?_)
          · have hX := hX.1 c47
            exact j_sub (l' := [(1, .ref (ad 0)), (3, .int r15), (4, .int r17)]) [3, 1, 0] rfl (w_L_law_L180 C0 hlk hret r15 r17 μ45 K  hX)
          · have hX := hX.2 c47
            refine j_aload_n C0 3 dL_law_161 rfl rfl rfl ?_
            refine j_aload_n C0 2 dL_law_162 rfl rfl rfl ?_
            refine j_bipush C0 43 dL_law_163 (by decide) rfl ?_
            obtain ⟨h48, hX⟩ := hX
            refine j_cell C0 hlk.1 hlk.2.1 (not_AB hlk.2.1) (Nat.le_trans hlk.2.2.1 (by omega)) (v := 43) h48 dL_law_165 gL_law_L_cell ⟨Nat.le_of_ble_eq_true rfl, Nat.le_of_ble_eq_true rfl⟩ rfl (Nat.le_of_ble_eq_true rfl) rfl (fun r49 hr49 => ?_)
            have hX := hX r49 hr49
            refine j_iconst C0 4 dL_law_168 (by decide) rfl ?_
            refine j_irem C0 dL_law_169 (by decide) rfl ?_
            refine j_callSi C0 2 [.ref (ad 0), .int (r49 - r49 / 4 * 4)] (c_L_isRound (r49 - r49 / 4 * 4)  hX) dL_law_170 gL_law_L_isRound rfl (by decide +kernel) ⟨⟨Nat.le_of_ble_eq_true rfl, Nat.le_of_ble_eq_true rfl⟩, rfl, rfl⟩ rfl rfl (Nat.le_of_ble_eq_true rfl) rfl (fun r51 μ50 hX => ?_)
            refine j_if_eq C0 (tgt := 180) dL_law_173 (by decide) rfl (fun c52 => ?_) (fun c52 => ?_)
            · have hX := hX.1 c52
              exact j_sub (l' := [(1, .ref (ad 0)), (3, .int r15), (4, .int r17)]) [3, 1, 0] rfl (w_L_law_L180 C0 hlk hret r15 r17 μ50 K  hX)
            · have hX := hX.2 c52
              refine j_iconst C0 1 dL_law_176 (by decide) rfl ?_
              refine j_goto C0 (tgt := 181) dL_law_177 (by decide) ?_
              exact j_sub (l' := [(1, .ref (ad 0)), (3, .int r15), (4, .int r17)]) [3, 1, 0] rfl (w_L_law_L181 C0 hlk hret r15 r17 1 μ50 K  hX)
def x_L_law_L95 (K : KLaw) (B : Int32 → Int32 → Mem → Prop) (a3 : Int32) (as0 : Int32) (μ : Mem) : Prop :=
  ∀ v59 : Int32, v59 = a3 + 1 → B as0 v59 μ
set_option maxRecDepth 20000 in
theorem w_L_law_L95 {p : Program} {l : Launch} {e : Env} {s : State} {m : MethodId} {below : List Frame} {meth : Method} {c : Code} {D : va_G} {Y : Nat → ClassId} {ad : Nat → Nat} {bs L : Nat} {xs : Nat → Int32} (C0 : CX D Y ad (AB s.heap.size) room_1 168 1887 p s #[Value.ref bs] m c code 5 RL wsL_law) (hlk : LK meth bs L xs s) (hret : meth.sig.returnType = ret) (a3 : Int32) (as0 : Int32) (μ : Mem) (K : KLaw) (B : Int32 → Int32 → Mem → Prop) (hB : ∀ (a2 : Int32) (a3 : Int32) (μ : Mem), B a2 a3 μ → J p l e room_1 s m #[Value.ref bs] below meth c D Y ad (AB s.heap.size) 168 1887 5 (lw_Z below #[Value.ref bs] s) 54 [(0, .ref bs), (1, .ref (ad 0)), (2, .int a2), (3, .int a3)] [] μ)  (hX : x_L_law_L95 K B a3 as0 μ) : J p l e room_1 s m #[Value.ref bs] below meth c D Y ad (AB s.heap.size) 168 1887 5 (lw_Z below #[Value.ref bs] s) 95 [(0, .ref bs), (1, .ref (ad 0)), (3, .int a3)] [.int as0] μ := by
  refine j_istore_n C0 [(2, .int as0), (0, .ref bs), (1, .ref (ad 0)), (3, .int a3)] dL_law_95 rfl (by decide) rfl rfl ?_
  obtain ⟨v59, e_v59⟩ : ∃ z : Int32, z = a3 + 1 := ⟨_, rfl⟩
  have hX := hX v59 e_v59
  refine j_iinc C0 3 v59 [(3, .int v59), (2, .int as0), (0, .ref bs), (1, .ref (ad 0))] dL_law_96 rfl (by rw [e_v59]; rfl) (by decide) rfl rfl ?_
  refine j_goto C0 (tgt := 54) dL_law_99 (by decide) ?_
  exact j_sub (l' := [(0, .ref bs), (1, .ref (ad 0)), (2, .int as0), (3, .int v59)]) [2, 3, 1, 0] rfl (hB as0 v59 μ  hX)
def x_L_law_L94 (K : KLaw) (B : Int32 → Int32 → Mem → Prop) (a3 : Int32) (μ : Mem) : Prop :=
  x_L_law_L95 K B a3 0 μ
set_option maxRecDepth 20000 in
theorem w_L_law_L94 {p : Program} {l : Launch} {e : Env} {s : State} {m : MethodId} {below : List Frame} {meth : Method} {c : Code} {D : va_G} {Y : Nat → ClassId} {ad : Nat → Nat} {bs L : Nat} {xs : Nat → Int32} (C0 : CX D Y ad (AB s.heap.size) room_1 168 1887 p s #[Value.ref bs] m c code 5 RL wsL_law) (hlk : LK meth bs L xs s) (hret : meth.sig.returnType = ret) (a3 : Int32) (μ : Mem) (K : KLaw) (B : Int32 → Int32 → Mem → Prop) (hB : ∀ (a2 : Int32) (a3 : Int32) (μ : Mem), B a2 a3 μ → J p l e room_1 s m #[Value.ref bs] below meth c D Y ad (AB s.heap.size) 168 1887 5 (lw_Z below #[Value.ref bs] s) 54 [(0, .ref bs), (1, .ref (ad 0)), (2, .int a2), (3, .int a3)] [] μ)  (hX : x_L_law_L94 K B a3 μ) : J p l e room_1 s m #[Value.ref bs] below meth c D Y ad (AB s.heap.size) 168 1887 5 (lw_Z below #[Value.ref bs] s) 94 [(0, .ref bs), (1, .ref (ad 0)), (3, .int a3)] [] μ := by
  refine j_iconst C0 0 dL_law_94 (by decide) rfl ?_
  exact j_sub (l' := [(0, .ref bs), (1, .ref (ad 0)), (3, .int a3)]) [0, 1, 2] rfl (w_L_law_L95 C0 hlk hret a3 0 μ K B hB  hX)
def x_L_law_L90 (K : KLaw) (B : Int32 → Int32 → Mem → Prop) (a3 : Int32) (μ : Mem) : Prop :=
  x_L_law_L95 K B a3 1 μ
set_option maxRecDepth 20000 in
theorem w_L_law_L90 {p : Program} {l : Launch} {e : Env} {s : State} {m : MethodId} {below : List Frame} {meth : Method} {c : Code} {D : va_G} {Y : Nat → ClassId} {ad : Nat → Nat} {bs L : Nat} {xs : Nat → Int32} (C0 : CX D Y ad (AB s.heap.size) room_1 168 1887 p s #[Value.ref bs] m c code 5 RL wsL_law) (hlk : LK meth bs L xs s) (hret : meth.sig.returnType = ret) (a3 : Int32) (μ : Mem) (K : KLaw) (B : Int32 → Int32 → Mem → Prop) (hB : ∀ (a2 : Int32) (a3 : Int32) (μ : Mem), B a2 a3 μ → J p l e room_1 s m #[Value.ref bs] below meth c D Y ad (AB s.heap.size) 168 1887 5 (lw_Z below #[Value.ref bs] s) 54 [(0, .ref bs), (1, .ref (ad 0)), (2, .int a2), (3, .int a3)] [] μ)  (hX : x_L_law_L90 K B a3 μ) : J p l e room_1 s m #[Value.ref bs] below meth c D Y ad (AB s.heap.size) 168 1887 5 (lw_Z below #[Value.ref bs] s) 90 [(0, .ref bs), (1, .ref (ad 0)), (3, .int a3)] [] μ := by
  refine j_iconst C0 1 dL_law_90 (by decide) rfl ?_
  refine j_goto C0 (tgt := 95) dL_law_91 (by decide) ?_
  exact j_sub (l' := [(0, .ref bs), (1, .ref (ad 0)), (3, .int a3)]) [0, 1, 2] rfl (w_L_law_L95 C0 hlk hret a3 1 μ K B hB  hX)
def xb_L_law_L54 (K : KLaw) (B : Int32 → Int32 → Mem → Prop) (a2 : Int32) (a3 : Int32) (μ : Mem) : Prop :=
  (40 ≤ a3 → x_L_law_L102 K a2 μ) ∧ (¬ (40 ≤ a3) → (a2 = 0 → x_L_law_L102 K a2 μ) ∧ (¬ (a2 = 0) → 0 ≤ a3 ∧ ∀ r55 : Int32, 0 ≤ r55 → x_L_acts r55 μ (fun r57 μ56 => (r57 = 0 → x_L_law_L94 K B a3 μ56) ∧ (¬ (r57 = 0) → (0 < (a3 - a3 / 10 * 10) → x_L_law_L90 K B a3 μ56) ∧ (¬ (0 < (a3 - a3 / 10 * 10)) → x_L_areWheels  μ56 (fun r62 μ61 => (r62 = 0 → x_L_law_L94 K B a3 μ61) ∧ (¬ (r62 = 0) → x_L_law_L90 K B a3 μ61)))))))
def x_L_law_L54 (K : KLaw) : Nat → Int32 → Int32 → Mem → Prop
  | 0 => fun _ _ _ => False
  | n + 1 => fun a2 a3 μ => xb_L_law_L54 K (x_L_law_L54 K n) a2 a3 μ
set_option maxRecDepth 20000 in
theorem wb_L_law_L54 {p : Program} {l : Launch} {e : Env} {s : State} {m : MethodId} {below : List Frame} {meth : Method} {c : Code} {D : va_G} {Y : Nat → ClassId} {ad : Nat → Nat} {bs L : Nat} {xs : Nat → Int32} (C0 : CX D Y ad (AB s.heap.size) room_1 168 1887 p s #[Value.ref bs] m c code 5 RL wsL_law) (hlk : LK meth bs L xs s) (hret : meth.sig.returnType = ret) (a2 : Int32) (a3 : Int32) (μ : Mem) (K : KLaw) (B : Int32 → Int32 → Mem → Prop) (hB : ∀ (a2 : Int32) (a3 : Int32) (μ : Mem), B a2 a3 μ → J p l e room_1 s m #[Value.ref bs] below meth c D Y ad (AB s.heap.size) 168 1887 5 (lw_Z below #[Value.ref bs] s) 54 [(0, .ref bs), (1, .ref (ad 0)), (2, .int a2), (3, .int a3)] [] μ)  (hX : xb_L_law_L54 K B a2 a3 μ) : J p l e room_1 s m #[Value.ref bs] below meth c D Y ad (AB s.heap.size) 168 1887 5 (lw_Z below #[Value.ref bs] s) 54 [(0, .ref bs), (1, .ref (ad 0)), (2, .int a2), (3, .int a3)] [] μ := by
  refine j_iload_n C0 3 dL_law_54 rfl rfl rfl ?_
  refine j_bipush C0 40 dL_law_55 (by decide) rfl ?_
  refine j_icmp_ge C0 (tgt := 102) dL_law_57 (by decide) rfl (fun c13 => ?_) (fun c13 => ?_)
  · have hX := hX.1 c13
    exact j_sub (l' := [(0, .ref bs), (1, .ref (ad 0)), (2, .int a2)]) [0, 1, 2] rfl (w_L_law_L102 C0 hlk hret a2 μ K  hX)
  · have hX := hX.2 c13
    refine j_iload_n C0 2 dL_law_60 rfl rfl rfl ?_
    refine j_if_eq C0 (tgt := 102) dL_law_61 (by decide) rfl (fun c53 => ?_) (fun c53 => ?_)
    · have hX := hX.1 c53
      exact j_sub (l' := [(0, .ref bs), (1, .ref (ad 0)), (2, .int a2)]) [0, 1, 2] rfl (w_L_law_L102 C0 hlk hret a2 μ K  hX)
    · have hX := hX.2 c53
      refine j_aload_n C0 1 dL_law_64 rfl rfl rfl ?_
      refine j_aload_n C0 0 dL_law_65 rfl rfl rfl ?_
      refine j_iload_n C0 3 dL_law_66 rfl rfl rfl ?_
      obtain ⟨h54, hX⟩ := hX
      refine j_cell C0 hlk.1 hlk.2.1 (not_AB hlk.2.1) (Nat.le_trans hlk.2.2.1 (by omega)) (v := a3) h54 dL_law_67 gL_law_L_cell ⟨Nat.le_of_ble_eq_true rfl, Nat.le_of_ble_eq_true rfl⟩ rfl (Nat.le_of_ble_eq_true rfl) rfl (fun r55 hr55 => ?_)
      have hX := hX r55 hr55
      refine j_callSi C0 2 [.ref (ad 0), .int r55] (c_L_acts r55  hX) dL_law_70 gL_law_L_acts rfl (by decide +kernel) ⟨⟨Nat.le_of_ble_eq_true rfl, Nat.le_of_ble_eq_true rfl⟩, rfl, rfl⟩ rfl rfl (Nat.le_of_ble_eq_true rfl) rfl (fun r57 μ56 hX => ?_)
      refine j_if_eq C0 (tgt := 94) dL_law_73 (by decide) rfl (fun c58 => ?_) (fun c58 => ?_)
      · have hX := hX.1 c58
        exact j_sub (l' := [(0, .ref bs), (1, .ref (ad 0)), (3, .int a3)]) [0, 1, 3] rfl (w_L_law_L94 C0 hlk hret a3 μ56 K B hB  hX)
      · have hX := hX.2 c58
        refine j_iload_n C0 3 dL_law_76 rfl rfl rfl ?_
        refine j_bipush C0 10 dL_law_77 (by decide) rfl ?_
        refine j_irem C0 dL_law_79 (by decide) rfl ?_
        refine j_if_gt C0 (tgt := 90) dL_law_80 (by decide) rfl (fun c60 => ?_) (fun c60 => ?_)
        · have hX := hX.1 c60
          exact j_sub (l' := [(0, .ref bs), (1, .ref (ad 0)), (3, .int a3)]) [0, 1, 3] rfl (w_L_law_L90 C0 hlk hret a3 μ56 K B hB  hX)
        · have hX := hX.2 c60
          refine j_aload_n C0 1 dL_law_83 rfl rfl rfl ?_
          refine j_callSi C0 1 [.ref (ad 0)] (c_L_areWheels   hX) dL_law_84 gL_law_L_areWheels rfl (by decide +kernel) ⟨⟨Nat.le_of_ble_eq_true rfl, Nat.le_of_ble_eq_true rfl⟩, rfl, rfl⟩ rfl rfl (Nat.le_of_ble_eq_true rfl) rfl (fun r62 μ61 hX => ?_)
          refine j_if_eq C0 (tgt := 94) dL_law_87 (by decide) rfl (fun c63 => ?_) (fun c63 => ?_)
          · have hX := hX.1 c63
            exact j_sub (l' := [(0, .ref bs), (1, .ref (ad 0)), (3, .int a3)]) [0, 1, 3] rfl (w_L_law_L94 C0 hlk hret a3 μ61 K B hB  hX)
          · have hX := hX.2 c63
            exact j_sub (l' := [(0, .ref bs), (1, .ref (ad 0)), (3, .int a3)]) [0, 1, 3] rfl (w_L_law_L90 C0 hlk hret a3 μ61 K B hB  hX)
theorem w_L_law_L54 {p : Program} {l : Launch} {e : Env} {s : State} {m : MethodId} {below : List Frame} {meth : Method} {c : Code} {D : va_G} {Y : Nat → ClassId} {ad : Nat → Nat} {bs L : Nat} {xs : Nat → Int32} (C0 : CX D Y ad (AB s.heap.size) room_1 168 1887 p s #[Value.ref bs] m c code 5 RL wsL_law) (hlk : LK meth bs L xs s) (hret : meth.sig.returnType = ret) (K : KLaw) : ∀ (n : Nat) (a2 : Int32) (a3 : Int32) (μ : Mem)  (hX : x_L_law_L54 K n a2 a3 μ), J p l e room_1 s m #[Value.ref bs] below meth c D Y ad (AB s.heap.size) 168 1887 5 (lw_Z below #[Value.ref bs] s) 54 [(0, .ref bs), (1, .ref (ad 0)), (2, .int a2), (3, .int a3)] [] μ
  | 0, a2, a3, μ, hX => hX.elim
  | n + 1, a2, a3, μ, hX => wb_L_law_L54 C0 hlk hret a2 a3 μ K (x_L_law_L54 K n) (fun a2 a3 μ  hx => w_L_law_L54 C0 hlk hret K n a2 a3 μ  hx)  hX
def x_L_law_L51 (K : KLaw) (as0 : Int32) (μ : Mem) : Prop :=
  ∃ n : Nat, x_L_law_L54 K n as0 0 μ
set_option maxRecDepth 20000 in
theorem w_L_law_L51 {p : Program} {l : Launch} {e : Env} {s : State} {m : MethodId} {below : List Frame} {meth : Method} {c : Code} {D : va_G} {Y : Nat → ClassId} {ad : Nat → Nat} {bs L : Nat} {xs : Nat → Int32} (C0 : CX D Y ad (AB s.heap.size) room_1 168 1887 p s #[Value.ref bs] m c code 5 RL wsL_law) (hlk : LK meth bs L xs s) (hret : meth.sig.returnType = ret) (as0 : Int32) (μ : Mem) (K : KLaw)  (hX : x_L_law_L51 K as0 μ) : J p l e room_1 s m #[Value.ref bs] below meth c D Y ad (AB s.heap.size) 168 1887 5 (lw_Z below #[Value.ref bs] s) 51 [(0, .ref bs), (1, .ref (ad 0))] [.int as0] μ := by
  refine j_istore_n C0 [(2, .int as0), (0, .ref bs), (1, .ref (ad 0))] dL_law_51 rfl (by decide) rfl rfl ?_
  refine j_iconst C0 0 dL_law_52 (by decide) rfl ?_
  refine j_istore_n C0 [(3, .int 0), (2, .int as0), (0, .ref bs), (1, .ref (ad 0))] dL_law_53 rfl (by decide) rfl rfl ?_
  obtain ⟨n, hX⟩ := hX
  exact j_sub (l' := [(0, .ref bs), (1, .ref (ad 0)), (2, .int as0), (3, .int 0)]) [2, 3, 1, 0] rfl (w_L_law_L54 C0 hlk hret K n as0 0 μ  hX)
def x_L_law_L50 (K : KLaw)  (μ : Mem) : Prop :=
  x_L_law_L51 K 0 μ
set_option maxRecDepth 20000 in
theorem w_L_law_L50 {p : Program} {l : Launch} {e : Env} {s : State} {m : MethodId} {below : List Frame} {meth : Method} {c : Code} {D : va_G} {Y : Nat → ClassId} {ad : Nat → Nat} {bs L : Nat} {xs : Nat → Int32} (C0 : CX D Y ad (AB s.heap.size) room_1 168 1887 p s #[Value.ref bs] m c code 5 RL wsL_law) (hlk : LK meth bs L xs s) (hret : meth.sig.returnType = ret)  (μ : Mem) (K : KLaw)  (hX : x_L_law_L50 K  μ) : J p l e room_1 s m #[Value.ref bs] below meth c D Y ad (AB s.heap.size) 168 1887 5 (lw_Z below #[Value.ref bs] s) 50 [(0, .ref bs), (1, .ref (ad 0))] [] μ := by
  refine j_iconst C0 0 dL_law_50 (by decide) rfl ?_
  exact j_sub (l' := [(0, .ref bs), (1, .ref (ad 0))]) [0, 1] rfl (w_L_law_L51 C0 hlk hret 0 μ K  hX)
def x_L_law (μ : Mem) (K : KLaw) : Prop :=
  x_X5_undo  μ (fun r2 μ1 => (r2 = (-5) → x_X5_restore 0 μ1 (fun r5 μ4 => (r5 = (-5) → x_X5_sample 0 μ4 (fun r8 μ7 => (r8 = (-6) → x_X5_count 3 μ7 (fun r11 μ10 => (r11 = 1 → x_L_law_L51 K 1 μ10) ∧ (¬ (r11 = 1) → x_L_law_L50 K  μ10))) ∧ (¬ (r8 = (-6)) → x_L_law_L50 K  μ7))) ∧ (¬ (r5 = (-5)) → x_L_law_L50 K  μ4))) ∧ (¬ (r2 = (-5)) → x_L_law_L50 K  μ1))
set_option maxRecDepth 20000 in
theorem w_L_law {p : Program} {l : Launch} {e : Env} {s : State} {m : MethodId} {below : List Frame} {meth : Method} {c : Code} {D : va_G} {Y : Nat → ClassId} {ad : Nat → Nat} {bs L : Nat} {xs : Nat → Int32} (C0 : CX D Y ad (AB s.heap.size) room_1 168 1887 p s #[Value.ref bs] m c code 5 RL wsL_law) (hlk : LK meth bs L xs s) (hret : meth.sig.returnType = ret)  (μ : Mem) (K : KLaw)  (hX : x_L_law μ K) : J p l e room_1 s m #[Value.ref bs] below meth c D Y ad (AB s.heap.size) 168 1887 5 (lw_Z below #[Value.ref bs] s) 8 [(1, .ref (ad 0)), (0, .ref bs)] [] μ := by
  refine j_aload_n C0 0 dL_law_8 rfl rfl rfl ?_
  refine j_callVi C0 0 [] (c_X5_undo   hX) dL_law_9 gL_law_X5_undo rfl (by decide +kernel) ⟨⟨Nat.le_of_ble_eq_true rfl, Nat.le_of_ble_eq_true rfl⟩, rfl, rfl⟩ (kd_lt (rfl : kd 0 = 5) (by decide)) (ce5 (rfl : kd 0 = 5)) rfl rfl rfl (Nat.le_of_ble_eq_true rfl) rfl (fun r2 μ1 hX => ?_)
  refine j_bipush C0 (-5) dL_law_12 (by decide) rfl ?_
  refine j_icmp_ne C0 (tgt := 50) dL_law_14 (by decide) rfl (fun c3 => ?_) (fun c3 => ?_)
  · have hX := hX.1 c3
    refine j_aload_n C0 0 dL_law_17 rfl rfl rfl ?_
    refine j_iconst C0 0 dL_law_18 (by decide) rfl ?_
    refine j_callVi C0 1 [.int 0] (c_X5_restore 0  hX) dL_law_19 gL_law_X5_restore rfl (by decide +kernel) ⟨⟨Nat.le_of_ble_eq_true rfl, Nat.le_of_ble_eq_true rfl⟩, rfl, rfl⟩ (kd_lt (rfl : kd 0 = 5) (by decide)) (ce5 (rfl : kd 0 = 5)) rfl rfl rfl (Nat.le_of_ble_eq_true rfl) rfl (fun r5 μ4 hX => ?_)
    refine j_bipush C0 (-5) dL_law_22 (by decide) rfl ?_
    refine j_icmp_ne C0 (tgt := 50) dL_law_24 (by decide) rfl (fun c6 => ?_) (fun c6 => ?_)
    · have hX := hX.1 c6
      refine j_aload_n C0 0 dL_law_27 rfl rfl rfl ?_
      refine j_iconst C0 0 dL_law_28 (by decide) rfl ?_
      refine j_callVi C0 1 [.int 0] (c_X5_sample 0  hX) dL_law_29 gL_law_X5_sample rfl (by decide +kernel) ⟨⟨Nat.le_of_ble_eq_true rfl, Nat.le_of_ble_eq_true rfl⟩, rfl, rfl⟩ (kd_lt (rfl : kd 0 = 5) (by decide)) (ce5 (rfl : kd 0 = 5)) rfl rfl rfl (Nat.le_of_ble_eq_true rfl) rfl (fun r8 μ7 hX => ?_)
      refine j_bipush C0 (-6) dL_law_32 (by decide) rfl ?_
      refine j_icmp_ne C0 (tgt := 50) dL_law_34 (by decide) rfl (fun c9 => ?_) (fun c9 => ?_)
      · have hX := hX.1 c9
        refine j_aload_n C0 0 dL_law_37 rfl rfl rfl ?_
        refine j_iconst C0 3 dL_law_38 (by decide) rfl ?_
        refine j_callVi C0 1 [.int 3] (c_X5_count 3  hX) dL_law_39 gL_law_X5_count rfl (by decide +kernel) ⟨⟨Nat.le_of_ble_eq_true rfl, Nat.le_of_ble_eq_true rfl⟩, rfl, rfl⟩ (kd_lt (rfl : kd 0 = 5) (by decide)) (ce5 (rfl : kd 0 = 5)) rfl rfl rfl (Nat.le_of_ble_eq_true rfl) rfl (fun r11 μ10 hX => ?_)
        refine j_iconst C0 1 dL_law_42 (by decide) rfl ?_
        refine j_icmp_ne C0 (tgt := 50) dL_law_43 (by decide) rfl (fun c12 => ?_) (fun c12 => ?_)
        · have hX := hX.1 c12
          refine j_iconst C0 1 dL_law_46 (by decide) rfl ?_
          refine j_goto C0 (tgt := 51) dL_law_47 (by decide) ?_
          exact j_sub (l' := [(0, .ref bs), (1, .ref (ad 0))]) [1, 0] rfl (w_L_law_L51 C0 hlk hret 1 μ10 K  hX)
        · have hX := hX.2 c12
          exact j_sub (l' := [(0, .ref bs), (1, .ref (ad 0))]) [1, 0] rfl (w_L_law_L50 C0 hlk hret  μ10 K  hX)
      · have hX := hX.2 c9
        exact j_sub (l' := [(0, .ref bs), (1, .ref (ad 0))]) [1, 0] rfl (w_L_law_L50 C0 hlk hret  μ7 K  hX)
    · have hX := hX.2 c6
      exact j_sub (l' := [(0, .ref bs), (1, .ref (ad 0))]) [1, 0] rfl (w_L_law_L50 C0 hlk hret  μ4 K  hX)
  · have hX := hX.2 c3
    exact j_sub (l' := [(0, .ref bs), (1, .ref (ad 0))]) [1, 0] rfl (w_L_law_L50 C0 hlk hret  μ1 K  hX)
