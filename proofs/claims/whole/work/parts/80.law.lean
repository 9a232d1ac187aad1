/-! the law's own walk -/
theorem j_sld {p : Program} {l : Launch} {e : Env} {R : Room} {s : State} {m : MethodId} {args : Array Value} {below : List Frame} {meth : Method} {c : Code} {Q : State → Prop} {D : va_G} {Y : Nat → ClassId} {ad : Nat → Nat} {A : Nat → Prop} {kc ks : Nat} {cc : ByteArray} {nL : Nat} {own : String} {Ts : List Cond} {pc pc' : Nat} {lv : List (Nat × Value)} {st : List Value} {μ : Mem} (C0 : CX D Y ad A R kc ks p s args m c cc nL own Ts) {bs L : Nat} {xs : Nat → Int32} (hX : va_X bs L xs s s.heap) (hbl : bs < s.heap.size) (hbA : ¬ A bs) {v : Int32} (n : Nat) (hv : v = nI n) (hn : n < L) (hL : L ≤ 2048) (hdg : decode cc pc = .ok (.iaload, 1)) (hp : pc + 1 = pc') (k : J p l e R s m args below meth c D Y ad A kc ks nL Q pc' lv (.int (xs n) :: st) μ) : J p l e R s m args below meth c D Y ad A kc ks nL Q pc lv (.int v :: .ref bs :: st) μ := by
  subst hp
  subst hv
  intro ls H locs hl hP hS
  refine va_sld C0.1.1 C0.1.2.1 hX hbl hbA hS (vp_in_nI hn (by omega)) hdg ?_
  rw [nI_clamp (by omega)]
  exact k ls H locs hl hP hS
theorem j_slen {p : Program} {l : Launch} {e : Env} {R : Room} {s : State} {m : MethodId} {args : Array Value} {below : List Frame} {meth : Method} {c : Code} {Q : State → Prop} {D : va_G} {Y : Nat → ClassId} {ad : Nat → Nat} {A : Nat → Prop} {kc ks : Nat} {cc : ByteArray} {nL : Nat} {own : String} {Ts : List Cond} {pc pc' : Nat} {lv : List (Nat × Value)} {st : List Value} {μ : Mem} (C0 : CX D Y ad A R kc ks p s args m c cc nL own Ts) {bs L : Nat} {xs : Nat → Int32} (hX : va_X bs L xs s s.heap) (hbl : bs < s.heap.size) (hbA : ¬ A bs) (hdg : decode cc pc = .ok (.arraylength, 1)) (hp : pc + 1 = pc') (k : J p l e R s m args below meth c D Y ad A kc ks nL Q pc' lv (.int (nI L) :: st) μ) : J p l e R s m args below meth c D Y ad A kc ks nL Q pc lv (.ref bs :: st) μ := by
  subst hp
  intro ls H locs hl hP hS
  exact va_slen C0.1.1 C0.1.2.1 hX hbl hbA hS hdg (k ls H locs hl hP hS)
theorem hlk_long : Cond.constantLong RL 94 (4294967295) ∈ wsL_law := by decide +kernel
theorem law_0 {p : Program} {l : Launch} {e : Env} {s : State} {m : MethodId} {below : List Frame} {meth : Method} {c : Code} {D : va_G} {Y : Nat → ClassId} {ad : Nat → Nat} {bs L : Nat} {xs : Nat → Int32} (C0 : CX D Y ad (AB s.heap.size) room_1 177 3871 p s #[Value.ref bs] m c code 4 RL wsL_law) (hX : va_X bs L xs s s.heap) (hbl : bs < s.heap.size) (hL : L ≤ 2048) {i ct : Nat} {μ : Mem} (hi : i + 4 ≤ L) (hI : Inv (ct + 1) μ) (kk : ∀ μ2, Inv ct μ2 → J p l e room_1 s m #[Value.ref bs] below meth c D Y ad (AB s.heap.size) 177 3871 4 (lw_Z below #[Value.ref bs] s) 859 [(3, .int (nI (i))), (2, .ref (ad 168)), (1, .ref (ad 0)), (0, .ref bs)] [] μ2) : J p l e room_1 s m #[Value.ref bs] below meth c D Y ad (AB s.heap.size) 177 3871 4 (lw_Z below #[Value.ref bs] s) 148 [(3, .int (nI (i))), (2, .ref (ad 168)), (1, .ref (ad 0)), (0, .ref bs)] [] μ := by
  have hbA : ¬ AB s.heap.size bs := by unfold AB; omega
  refine j_aload_n C0 2 dL_law_148 rfl rfl rfl ?_
  refine j_aload_n C0 3 dL_law_149 rfl rfl rfl ?_
  refine j_iload_n C0 0 dL_law_150 rfl rfl rfl ?_
  refine j_iconst C0 1 dL_law_151 (by decide) rfl ?_
  refine j_iadd C0 dL_law_152 rfl ?_
  refine j_sld C0 hX hbl hbA (i + 1) (nI_add i 1) (by omega) hL dL_law_153 rfl ?_
  refine j_callVi C0 1 [.int (xs (i + 1))] (c_X5_clip (xs (i + 1)) (op_clip hI)) dL_law_154 gL_law_X5_clip rfl (by decide +kernel) ⟨⟨Nat.le_of_ble_eq_true rfl, Nat.le_of_ble_eq_true rfl⟩, rfl, rfl⟩ (kd_lt (rfl : kd 0 = 5) (by decide)) (ce5 (rfl : kd 0 = 5)) rfl rfl rfl (Nat.le_of_ble_eq_true rfl) rfl (fun r1 μ1 hX1 => ?_)
  refine j_aload_n C0 1 dL_law_157 rfl rfl rfl ?_
  refine j_aload_n C0 3 dL_law_158 rfl rfl rfl ?_
  refine j_iload_n C0 0 dL_law_159 rfl rfl rfl ?_
  refine j_iconst C0 1 dL_law_160 (by decide) rfl ?_
  refine j_iadd C0 dL_law_161 rfl ?_
  refine j_sld C0 hX hbl hbA (i + 1) (nI_add i 1) (by omega) hL dL_law_162 rfl ?_
  refine j_callVi C0 1 [.int (xs (i + 1))] (c_X6_clip (xs (i + 1)) hX1) dL_law_163 gL_law_X6_clip rfl (by decide +kernel) ⟨⟨Nat.le_of_ble_eq_true rfl, Nat.le_of_ble_eq_true rfl⟩, rfl, rfl⟩ (kd_lt (rfl : kd 168 = 6) (by decide)) (ce6 (rfl : kd 168 = 6)) rfl rfl rfl (Nat.le_of_ble_eq_true rfl) rfl (fun r2 μ2 hX2 => ?_)
  exact j_icmp_eq C0 (tgt := 859) dL_law_166 (by decide) rfl (fun _ => kk _ hX2.2) (fun w => absurd hX2.1 w)
theorem law_1 {p : Program} {l : Launch} {e : Env} {s : State} {m : MethodId} {below : List Frame} {meth : Method} {c : Code} {D : va_G} {Y : Nat → ClassId} {ad : Nat → Nat} {bs L : Nat} {xs : Nat → Int32} (C0 : CX D Y ad (AB s.heap.size) room_1 177 3871 p s #[Value.ref bs] m c code 4 RL wsL_law) (hX : va_X bs L xs s s.heap) (hbl : bs < s.heap.size) (hL : L ≤ 2048) {i ct : Nat} {μ : Mem} (hi : i + 4 ≤ L) (hI : Inv (ct + 1) μ) (kk : ∀ μ2, Inv ct μ2 → J p l e room_1 s m #[Value.ref bs] below meth c D Y ad (AB s.heap.size) 177 3871 4 (lw_Z below #[Value.ref bs] s) 859 [(3, .int (nI (i))), (2, .ref (ad 168)), (1, .ref (ad 0)), (0, .ref bs)] [] μ2) : J p l e room_1 s m #[Value.ref bs] below meth c D Y ad (AB s.heap.size) 177 3871 4 (lw_Z below #[Value.ref bs] s) 171 [(3, .int (nI (i))), (2, .ref (ad 168)), (1, .ref (ad 0)), (0, .ref bs)] [] μ := by
  have hbA : ¬ AB s.heap.size bs := by unfold AB; omega
  refine j_aload_n C0 2 dL_law_171 rfl rfl rfl ?_
  refine j_aload_n C0 3 dL_law_172 rfl rfl rfl ?_
  refine j_iload_n C0 0 dL_law_173 rfl rfl rfl ?_
  refine j_iconst C0 1 dL_law_174 (by decide) rfl ?_
  refine j_iadd C0 dL_law_175 rfl ?_
  refine j_sld C0 hX hbl hbA (i + 1) (nI_add i 1) (by omega) hL dL_law_176 rfl ?_
  refine j_aload_n C0 3 dL_law_177 rfl rfl rfl ?_
  refine j_iload_n C0 0 dL_law_178 rfl rfl rfl ?_
  refine j_iconst C0 2 dL_law_179 (by decide) rfl ?_
  refine j_iadd C0 dL_law_180 rfl ?_
  refine j_sld C0 hX hbl hbA (i + 2) (nI_add i 2) (by omega) hL dL_law_181 rfl ?_
  refine j_aload_n C0 3 dL_law_182 rfl rfl rfl ?_
  refine j_iload_n C0 0 dL_law_183 rfl rfl rfl ?_
  refine j_iconst C0 3 dL_law_184 (by decide) rfl ?_
  refine j_iadd C0 dL_law_185 rfl ?_
  refine j_sld C0 hX hbl hbA (i + 3) (nI_add i 3) (by omega) hL dL_law_186 rfl ?_
  refine j_callVi C0 3 [.int (xs (i + 1)), .int (xs (i + 2)), .int (xs (i + 3))] (c_X5_fill (xs (i + 1)) (xs (i + 2)) (xs (i + 3)) (op_fill hI)) dL_law_187 gL_law_X5_fill rfl (by decide +kernel) ⟨⟨Nat.le_of_ble_eq_true rfl, Nat.le_of_ble_eq_true rfl⟩, rfl, rfl⟩ (kd_lt (rfl : kd 0 = 5) (by decide)) (ce5 (rfl : kd 0 = 5)) rfl rfl rfl (Nat.le_of_ble_eq_true rfl) rfl (fun r1 μ1 hX1 => ?_)
  refine j_aload_n C0 1 dL_law_190 rfl rfl rfl ?_
  refine j_aload_n C0 3 dL_law_191 rfl rfl rfl ?_
  refine j_iload_n C0 0 dL_law_192 rfl rfl rfl ?_
  refine j_iconst C0 1 dL_law_193 (by decide) rfl ?_
  refine j_iadd C0 dL_law_194 rfl ?_
  refine j_sld C0 hX hbl hbA (i + 1) (nI_add i 1) (by omega) hL dL_law_195 rfl ?_
  refine j_aload_n C0 3 dL_law_196 rfl rfl rfl ?_
  refine j_iload_n C0 0 dL_law_197 rfl rfl rfl ?_
  refine j_iconst C0 2 dL_law_198 (by decide) rfl ?_
  refine j_iadd C0 dL_law_199 rfl ?_
  refine j_sld C0 hX hbl hbA (i + 2) (nI_add i 2) (by omega) hL dL_law_200 rfl ?_
  refine j_aload_n C0 3 dL_law_201 rfl rfl rfl ?_
  refine j_iload_n C0 0 dL_law_202 rfl rfl rfl ?_
  refine j_iconst C0 3 dL_law_203 (by decide) rfl ?_
  refine j_iadd C0 dL_law_204 rfl ?_
  refine j_sld C0 hX hbl hbA (i + 3) (nI_add i 3) (by omega) hL dL_law_205 rfl ?_
  refine j_callVi C0 3 [.int (xs (i + 1)), .int (xs (i + 2)), .int (xs (i + 3))] (c_X6_fill (xs (i + 1)) (xs (i + 2)) (xs (i + 3)) hX1) dL_law_206 gL_law_X6_fill rfl (by decide +kernel) ⟨⟨Nat.le_of_ble_eq_true rfl, Nat.le_of_ble_eq_true rfl⟩, rfl, rfl⟩ (kd_lt (rfl : kd 168 = 6) (by decide)) (ce6 (rfl : kd 168 = 6)) rfl rfl rfl (Nat.le_of_ble_eq_true rfl) rfl (fun r2 μ2 hX2 => ?_)
  exact j_icmp_eq C0 (tgt := 859) dL_law_209 (by decide) rfl (fun _ => kk _ hX2.2) (fun w => absurd hX2.1 w)
theorem law_2 {p : Program} {l : Launch} {e : Env} {s : State} {m : MethodId} {below : List Frame} {meth : Method} {c : Code} {D : va_G} {Y : Nat → ClassId} {ad : Nat → Nat} {bs L : Nat} {xs : Nat → Int32} (C0 : CX D Y ad (AB s.heap.size) room_1 177 3871 p s #[Value.ref bs] m c code 4 RL wsL_law) (hX : va_X bs L xs s s.heap) (hbl : bs < s.heap.size) (hL : L ≤ 2048) {i ct : Nat} {μ : Mem} (hi : i + 4 ≤ L) (hI : Inv (ct + 1) μ) (kk : ∀ μ2, Inv ct μ2 → J p l e room_1 s m #[Value.ref bs] below meth c D Y ad (AB s.heap.size) 177 3871 4 (lw_Z below #[Value.ref bs] s) 859 [(3, .int (nI (i))), (2, .ref (ad 168)), (1, .ref (ad 0)), (0, .ref bs)] [] μ2) : J p l e room_1 s m #[Value.ref bs] below meth c D Y ad (AB s.heap.size) 177 3871 4 (lw_Z below #[Value.ref bs] s) 214 [(3, .int (nI (i))), (2, .ref (ad 168)), (1, .ref (ad 0)), (0, .ref bs)] [] μ := by
  have hbA : ¬ AB s.heap.size bs := by unfold AB; omega
  refine j_aload_n C0 2 dL_law_214 rfl rfl rfl ?_
  refine j_aload_n C0 3 dL_law_215 rfl rfl rfl ?_
  refine j_iload_n C0 0 dL_law_216 rfl rfl rfl ?_
  refine j_iconst C0 1 dL_law_217 (by decide) rfl ?_
  refine j_iadd C0 dL_law_218 rfl ?_
  refine j_sld C0 hX hbl hbA (i + 1) (nI_add i 1) (by omega) hL dL_law_219 rfl ?_
  refine j_aload_n C0 3 dL_law_220 rfl rfl rfl ?_
  refine j_iload_n C0 0 dL_law_221 rfl rfl rfl ?_
  refine j_iconst C0 2 dL_law_222 (by decide) rfl ?_
  refine j_iadd C0 dL_law_223 rfl ?_
  refine j_sld C0 hX hbl hbA (i + 2) (nI_add i 2) (by omega) hL dL_law_224 rfl ?_
  refine j_callVi C0 2 [.int (xs (i + 1)), .int (xs (i + 2))] (c_X5_step (xs (i + 1)) (xs (i + 2)) (op_step hI)) dL_law_225 gL_law_X5_step rfl (by decide +kernel) ⟨⟨Nat.le_of_ble_eq_true rfl, Nat.le_of_ble_eq_true rfl⟩, rfl, rfl⟩ (kd_lt (rfl : kd 0 = 5) (by decide)) (ce5 (rfl : kd 0 = 5)) rfl rfl rfl (Nat.le_of_ble_eq_true rfl) rfl (fun r1 μ1 hX1 => ?_)
  refine j_aload_n C0 1 dL_law_228 rfl rfl rfl ?_
  refine j_aload_n C0 3 dL_law_229 rfl rfl rfl ?_
  refine j_iload_n C0 0 dL_law_230 rfl rfl rfl ?_
  refine j_iconst C0 1 dL_law_231 (by decide) rfl ?_
  refine j_iadd C0 dL_law_232 rfl ?_
  refine j_sld C0 hX hbl hbA (i + 1) (nI_add i 1) (by omega) hL dL_law_233 rfl ?_
  refine j_aload_n C0 3 dL_law_234 rfl rfl rfl ?_
  refine j_iload_n C0 0 dL_law_235 rfl rfl rfl ?_
  refine j_iconst C0 2 dL_law_236 (by decide) rfl ?_
  refine j_iadd C0 dL_law_237 rfl ?_
  refine j_sld C0 hX hbl hbA (i + 2) (nI_add i 2) (by omega) hL dL_law_238 rfl ?_
  refine j_callVi C0 2 [.int (xs (i + 1)), .int (xs (i + 2))] (c_X6_step (xs (i + 1)) (xs (i + 2)) hX1) dL_law_239 gL_law_X6_step rfl (by decide +kernel) ⟨⟨Nat.le_of_ble_eq_true rfl, Nat.le_of_ble_eq_true rfl⟩, rfl, rfl⟩ (kd_lt (rfl : kd 168 = 6) (by decide)) (ce6 (rfl : kd 168 = 6)) rfl rfl rfl (Nat.le_of_ble_eq_true rfl) rfl (fun r2 μ2 hX2 => ?_)
  exact j_icmp_eq C0 (tgt := 859) dL_law_242 (by decide) rfl (fun _ => kk _ hX2.2) (fun w => absurd hX2.1 w)
theorem law_3 {p : Program} {l : Launch} {e : Env} {s : State} {m : MethodId} {below : List Frame} {meth : Method} {c : Code} {D : va_G} {Y : Nat → ClassId} {ad : Nat → Nat} {bs L : Nat} {xs : Nat → Int32} (C0 : CX D Y ad (AB s.heap.size) room_1 177 3871 p s #[Value.ref bs] m c code 4 RL wsL_law) (hX : va_X bs L xs s s.heap) (hbl : bs < s.heap.size) (hL : L ≤ 2048) {i ct : Nat} {μ : Mem} (hi : i + 4 ≤ L) (hI : Inv (ct + 1) μ) (kk : ∀ μ2, Inv ct μ2 → J p l e room_1 s m #[Value.ref bs] below meth c D Y ad (AB s.heap.size) 177 3871 4 (lw_Z below #[Value.ref bs] s) 859 [(3, .int (nI (i))), (2, .ref (ad 168)), (1, .ref (ad 0)), (0, .ref bs)] [] μ2) : J p l e room_1 s m #[Value.ref bs] below meth c D Y ad (AB s.heap.size) 177 3871 4 (lw_Z below #[Value.ref bs] s) 247 [(3, .int (nI (i))), (2, .ref (ad 168)), (1, .ref (ad 0)), (0, .ref bs)] [] μ := by
  have hbA : ¬ AB s.heap.size bs := by unfold AB; omega
  refine j_aload_n C0 2 dL_law_247 rfl rfl rfl ?_
  refine j_aload_n C0 3 dL_law_248 rfl rfl rfl ?_
  refine j_iload_n C0 0 dL_law_249 rfl rfl rfl ?_
  refine j_iconst C0 1 dL_law_250 (by decide) rfl ?_
  refine j_iadd C0 dL_law_251 rfl ?_
  refine j_sld C0 hX hbl hbA (i + 1) (nI_add i 1) (by omega) hL dL_law_252 rfl ?_
  refine j_aload_n C0 3 dL_law_253 rfl rfl rfl ?_
  refine j_iload_n C0 0 dL_law_254 rfl rfl rfl ?_
  refine j_iconst C0 2 dL_law_255 (by decide) rfl ?_
  refine j_iadd C0 dL_law_256 rfl ?_
  refine j_sld C0 hX hbl hbA (i + 2) (nI_add i 2) (by omega) hL dL_law_257 rfl ?_
  refine j_callVi C0 2 [.int (xs (i + 1)), .int (xs (i + 2))] (c_X5_table (xs (i + 1)) (xs (i + 2)) (op_table hI)) dL_law_258 gL_law_X5_table rfl (by decide +kernel) ⟨⟨Nat.le_of_ble_eq_true rfl, Nat.le_of_ble_eq_true rfl⟩, rfl, rfl⟩ (kd_lt (rfl : kd 0 = 5) (by decide)) (ce5 (rfl : kd 0 = 5)) rfl rfl rfl (Nat.le_of_ble_eq_true rfl) rfl (fun r1 μ1 hX1 => ?_)
  refine j_aload_n C0 1 dL_law_261 rfl rfl rfl ?_
  refine j_aload_n C0 3 dL_law_262 rfl rfl rfl ?_
  refine j_iload_n C0 0 dL_law_263 rfl rfl rfl ?_
  refine j_iconst C0 1 dL_law_264 (by decide) rfl ?_
  refine j_iadd C0 dL_law_265 rfl ?_
  refine j_sld C0 hX hbl hbA (i + 1) (nI_add i 1) (by omega) hL dL_law_266 rfl ?_
  refine j_aload_n C0 3 dL_law_267 rfl rfl rfl ?_
  refine j_iload_n C0 0 dL_law_268 rfl rfl rfl ?_
  refine j_iconst C0 2 dL_law_269 (by decide) rfl ?_
  refine j_iadd C0 dL_law_270 rfl ?_
  refine j_sld C0 hX hbl hbA (i + 2) (nI_add i 2) (by omega) hL dL_law_271 rfl ?_
  refine j_callVi C0 2 [.int (xs (i + 1)), .int (xs (i + 2))] (c_X6_table (xs (i + 1)) (xs (i + 2)) hX1) dL_law_272 gL_law_X6_table rfl (by decide +kernel) ⟨⟨Nat.le_of_ble_eq_true rfl, Nat.le_of_ble_eq_true rfl⟩, rfl, rfl⟩ (kd_lt (rfl : kd 168 = 6) (by decide)) (ce6 (rfl : kd 168 = 6)) rfl rfl rfl (Nat.le_of_ble_eq_true rfl) rfl (fun r2 μ2 hX2 => ?_)
  exact j_icmp_eq C0 (tgt := 859) dL_law_275 (by decide) rfl (fun _ => kk _ hX2.2) (fun w => absurd hX2.1 w)
theorem law_4 {p : Program} {l : Launch} {e : Env} {s : State} {m : MethodId} {below : List Frame} {meth : Method} {c : Code} {D : va_G} {Y : Nat → ClassId} {ad : Nat → Nat} {bs L : Nat} {xs : Nat → Int32} (C0 : CX D Y ad (AB s.heap.size) room_1 177 3871 p s #[Value.ref bs] m c code 4 RL wsL_law) (hX : va_X bs L xs s s.heap) (hbl : bs < s.heap.size) (hL : L ≤ 2048) {i ct : Nat} {μ : Mem} (hi : i + 4 ≤ L) (hI : Inv (ct + 1) μ) (kk : ∀ μ2, Inv ct μ2 → J p l e room_1 s m #[Value.ref bs] below meth c D Y ad (AB s.heap.size) 177 3871 4 (lw_Z below #[Value.ref bs] s) 859 [(3, .int (nI (i))), (2, .ref (ad 168)), (1, .ref (ad 0)), (0, .ref bs)] [] μ2) : J p l e room_1 s m #[Value.ref bs] below meth c D Y ad (AB s.heap.size) 177 3871 4 (lw_Z below #[Value.ref bs] s) 280 [(3, .int (nI (i))), (2, .ref (ad 168)), (1, .ref (ad 0)), (0, .ref bs)] [] μ := by
  have hbA : ¬ AB s.heap.size bs := by unfold AB; omega
  refine j_aload_n C0 2 dL_law_280 rfl rfl rfl ?_
  refine j_aload_n C0 3 dL_law_281 rfl rfl rfl ?_
  refine j_iload_n C0 0 dL_law_282 rfl rfl rfl ?_
  refine j_iconst C0 1 dL_law_283 (by decide) rfl ?_
  refine j_iadd C0 dL_law_284 rfl ?_
  refine j_sld C0 hX hbl hbA (i + 1) (nI_add i 1) (by omega) hL dL_law_285 rfl ?_
  refine j_aload_n C0 3 dL_law_286 rfl rfl rfl ?_
  refine j_iload_n C0 0 dL_law_287 rfl rfl rfl ?_
  refine j_iconst C0 2 dL_law_288 (by decide) rfl ?_
  refine j_iadd C0 dL_law_289 rfl ?_
  refine j_sld C0 hX hbl hbA (i + 2) (nI_add i 2) (by omega) hL dL_law_290 rfl ?_
  refine j_callVi C0 2 [.int (xs (i + 1)), .int (xs (i + 2))] (c_X5_volume (xs (i + 1)) (xs (i + 2)) (op_volume hI)) dL_law_291 gL_law_X5_volume rfl (by decide +kernel) ⟨⟨Nat.le_of_ble_eq_true rfl, Nat.le_of_ble_eq_true rfl⟩, rfl, rfl⟩ (kd_lt (rfl : kd 0 = 5) (by decide)) (ce5 (rfl : kd 0 = 5)) rfl rfl rfl (Nat.le_of_ble_eq_true rfl) rfl (fun r1 μ1 hX1 => ?_)
  refine j_aload_n C0 1 dL_law_294 rfl rfl rfl ?_
  refine j_aload_n C0 3 dL_law_295 rfl rfl rfl ?_
  refine j_iload_n C0 0 dL_law_296 rfl rfl rfl ?_
  refine j_iconst C0 1 dL_law_297 (by decide) rfl ?_
  refine j_iadd C0 dL_law_298 rfl ?_
  refine j_sld C0 hX hbl hbA (i + 1) (nI_add i 1) (by omega) hL dL_law_299 rfl ?_
  refine j_aload_n C0 3 dL_law_300 rfl rfl rfl ?_
  refine j_iload_n C0 0 dL_law_301 rfl rfl rfl ?_
  refine j_iconst C0 2 dL_law_302 (by decide) rfl ?_
  refine j_iadd C0 dL_law_303 rfl ?_
  refine j_sld C0 hX hbl hbA (i + 2) (nI_add i 2) (by omega) hL dL_law_304 rfl ?_
  refine j_callVi C0 2 [.int (xs (i + 1)), .int (xs (i + 2))] (c_X6_volume (xs (i + 1)) (xs (i + 2)) hX1) dL_law_305 gL_law_X6_volume rfl (by decide +kernel) ⟨⟨Nat.le_of_ble_eq_true rfl, Nat.le_of_ble_eq_true rfl⟩, rfl, rfl⟩ (kd_lt (rfl : kd 168 = 6) (by decide)) (ce6 (rfl : kd 168 = 6)) rfl rfl rfl (Nat.le_of_ble_eq_true rfl) rfl (fun r2 μ2 hX2 => ?_)
  exact j_icmp_eq C0 (tgt := 859) dL_law_308 (by decide) rfl (fun _ => kk _ hX2.2) (fun w => absurd hX2.1 w)
theorem law_5 {p : Program} {l : Launch} {e : Env} {s : State} {m : MethodId} {below : List Frame} {meth : Method} {c : Code} {D : va_G} {Y : Nat → ClassId} {ad : Nat → Nat} {bs L : Nat} {xs : Nat → Int32} (C0 : CX D Y ad (AB s.heap.size) room_1 177 3871 p s #[Value.ref bs] m c code 4 RL wsL_law) (hX : va_X bs L xs s s.heap) (hbl : bs < s.heap.size) (hL : L ≤ 2048) {i ct : Nat} {μ : Mem} (hi : i + 4 ≤ L) (hI : Inv (ct + 1) μ) (kk : ∀ μ2, Inv ct μ2 → J p l e room_1 s m #[Value.ref bs] below meth c D Y ad (AB s.heap.size) 177 3871 4 (lw_Z below #[Value.ref bs] s) 859 [(3, .int (nI (i))), (2, .ref (ad 168)), (1, .ref (ad 0)), (0, .ref bs)] [] μ2) : J p l e room_1 s m #[Value.ref bs] below meth c D Y ad (AB s.heap.size) 177 3871 4 (lw_Z below #[Value.ref bs] s) 313 [(3, .int (nI (i))), (2, .ref (ad 168)), (1, .ref (ad 0)), (0, .ref bs)] [] μ := by
  have hbA : ¬ AB s.heap.size bs := by unfold AB; omega
  refine j_aload_n C0 2 dL_law_313 rfl rfl rfl ?_
  refine j_aload_n C0 3 dL_law_314 rfl rfl rfl ?_
  refine j_iload_n C0 0 dL_law_315 rfl rfl rfl ?_
  refine j_iconst C0 1 dL_law_316 (by decide) rfl ?_
  refine j_iadd C0 dL_law_317 rfl ?_
  refine j_sld C0 hX hbl hbA (i + 1) (nI_add i 1) (by omega) hL dL_law_318 rfl ?_
  refine j_aload_n C0 3 dL_law_319 rfl rfl rfl ?_
  refine j_iload_n C0 0 dL_law_320 rfl rfl rfl ?_
  refine j_iconst C0 2 dL_law_321 (by decide) rfl ?_
  refine j_iadd C0 dL_law_322 rfl ?_
  refine j_sld C0 hX hbl hbA (i + 2) (nI_add i 2) (by omega) hL dL_law_323 rfl ?_
  refine j_if_eq C0 (tgt := 331) dL_law_324 (by decide) rfl (fun z => ?_) (fun z => ?_)
  · skip
    refine j_iconst C0 0 dL_law_331 (by decide) rfl ?_
    refine j_callVi C0 2 [.int (xs (i + 1)), .int 0] (c_X5_turn (xs (i + 1)) 0 (op_turn hI (Or.inl rfl))) dL_law_332 gL_law_X5_turn rfl (by decide +kernel) ⟨⟨Nat.le_of_ble_eq_true rfl, Nat.le_of_ble_eq_true rfl⟩, rfl, rfl⟩ (kd_lt (rfl : kd 0 = 5) (by decide)) (ce5 (rfl : kd 0 = 5)) rfl rfl rfl (Nat.le_of_ble_eq_true rfl) rfl (fun r1 μ1 hX1 => ?_)
    refine j_aload_n C0 1 dL_law_335 rfl rfl rfl ?_
    refine j_aload_n C0 3 dL_law_336 rfl rfl rfl ?_
    refine j_iload_n C0 0 dL_law_337 rfl rfl rfl ?_
    refine j_iconst C0 1 dL_law_338 (by decide) rfl ?_
    refine j_iadd C0 dL_law_339 rfl ?_
    refine j_sld C0 hX hbl hbA (i + 1) (nI_add i 1) (by omega) hL dL_law_340 rfl ?_
    refine j_aload_n C0 3 dL_law_341 rfl rfl rfl ?_
    refine j_iload_n C0 0 dL_law_342 rfl rfl rfl ?_
    refine j_iconst C0 2 dL_law_343 (by decide) rfl ?_
    refine j_iadd C0 dL_law_344 rfl ?_
    refine j_sld C0 hX hbl hbA (i + 2) (nI_add i 2) (by omega) hL dL_law_345 rfl ?_
    refine j_if_eq C0 (tgt := 353) dL_law_346 (by decide) rfl (fun _ => ?_) (fun w => absurd z w)
    refine j_iconst C0 0 dL_law_353 (by decide) rfl ?_
    refine j_callVi C0 2 [.int (xs (i + 1)), .int 0] (c_X6_turn (xs (i + 1)) 0 hX1) dL_law_354 gL_law_X6_turn rfl (by decide +kernel) ⟨⟨Nat.le_of_ble_eq_true rfl, Nat.le_of_ble_eq_true rfl⟩, rfl, rfl⟩ (kd_lt (rfl : kd 168 = 6) (by decide)) (ce6 (rfl : kd 168 = 6)) rfl rfl rfl (Nat.le_of_ble_eq_true rfl) rfl (fun r2 μ2 hX2 => ?_)
    exact j_icmp_eq C0 (tgt := 859) dL_law_357 (by decide) rfl (fun _ => kk _ hX2.2) (fun w => absurd hX2.1 w)
  · skip
    refine j_iconst C0 1 dL_law_327 (by decide) rfl ?_
    refine j_goto C0 (tgt := 332) dL_law_328 (by decide) ?_
    refine j_callVi C0 2 [.int (xs (i + 1)), .int 1] (c_X5_turn (xs (i + 1)) 1 (op_turn hI (Or.inr rfl))) dL_law_332 gL_law_X5_turn rfl (by decide +kernel) ⟨⟨Nat.le_of_ble_eq_true rfl, Nat.le_of_ble_eq_true rfl⟩, rfl, rfl⟩ (kd_lt (rfl : kd 0 = 5) (by decide)) (ce5 (rfl : kd 0 = 5)) rfl rfl rfl (Nat.le_of_ble_eq_true rfl) rfl (fun r1 μ1 hX1 => ?_)
    refine j_aload_n C0 1 dL_law_335 rfl rfl rfl ?_
    refine j_aload_n C0 3 dL_law_336 rfl rfl rfl ?_
    refine j_iload_n C0 0 dL_law_337 rfl rfl rfl ?_
    refine j_iconst C0 1 dL_law_338 (by decide) rfl ?_
    refine j_iadd C0 dL_law_339 rfl ?_
    refine j_sld C0 hX hbl hbA (i + 1) (nI_add i 1) (by omega) hL dL_law_340 rfl ?_
    refine j_aload_n C0 3 dL_law_341 rfl rfl rfl ?_
    refine j_iload_n C0 0 dL_law_342 rfl rfl rfl ?_
    refine j_iconst C0 2 dL_law_343 (by decide) rfl ?_
    refine j_iadd C0 dL_law_344 rfl ?_
    refine j_sld C0 hX hbl hbA (i + 2) (nI_add i 2) (by omega) hL dL_law_345 rfl ?_
    refine j_if_eq C0 (tgt := 353) dL_law_346 (by decide) rfl (fun w => absurd w z) (fun _ => ?_)
    refine j_iconst C0 1 dL_law_349 (by decide) rfl ?_
    refine j_goto C0 (tgt := 354) dL_law_350 (by decide) ?_
    refine j_callVi C0 2 [.int (xs (i + 1)), .int 1] (c_X6_turn (xs (i + 1)) 1 hX1) dL_law_354 gL_law_X6_turn rfl (by decide +kernel) ⟨⟨Nat.le_of_ble_eq_true rfl, Nat.le_of_ble_eq_true rfl⟩, rfl, rfl⟩ (kd_lt (rfl : kd 168 = 6) (by decide)) (ce6 (rfl : kd 168 = 6)) rfl rfl rfl (Nat.le_of_ble_eq_true rfl) rfl (fun r2 μ2 hX2 => ?_)
    exact j_icmp_eq C0 (tgt := 859) dL_law_357 (by decide) rfl (fun _ => kk _ hX2.2) (fun w => absurd hX2.1 w)
theorem law_6 {p : Program} {l : Launch} {e : Env} {s : State} {m : MethodId} {below : List Frame} {meth : Method} {c : Code} {D : va_G} {Y : Nat → ClassId} {ad : Nat → Nat} {bs L : Nat} {xs : Nat → Int32} (C0 : CX D Y ad (AB s.heap.size) room_1 177 3871 p s #[Value.ref bs] m c code 4 RL wsL_law) (hX : va_X bs L xs s s.heap) (hbl : bs < s.heap.size) (hL : L ≤ 2048) {i ct : Nat} {μ : Mem} (hi : i + 4 ≤ L) (hI : Inv (ct + 1) μ) (kk : ∀ μ2, Inv ct μ2 → J p l e room_1 s m #[Value.ref bs] below meth c D Y ad (AB s.heap.size) 177 3871 4 (lw_Z below #[Value.ref bs] s) 859 [(3, .int (nI (i))), (2, .ref (ad 168)), (1, .ref (ad 0)), (0, .ref bs)] [] μ2) : J p l e room_1 s m #[Value.ref bs] below meth c D Y ad (AB s.heap.size) 177 3871 4 (lw_Z below #[Value.ref bs] s) 362 [(3, .int (nI (i))), (2, .ref (ad 168)), (1, .ref (ad 0)), (0, .ref bs)] [] μ := by
  have hbA : ¬ AB s.heap.size bs := by unfold AB; omega
  refine j_aload_n C0 2 dL_law_362 rfl rfl rfl ?_
  refine j_aload_n C0 3 dL_law_363 rfl rfl rfl ?_
  refine j_iload_n C0 0 dL_law_364 rfl rfl rfl ?_
  refine j_iconst C0 1 dL_law_365 (by decide) rfl ?_
  refine j_iadd C0 dL_law_366 rfl ?_
  refine j_sld C0 hX hbl hbA (i + 1) (nI_add i 1) (by omega) hL dL_law_367 rfl ?_
  refine j_aload_n C0 3 dL_law_368 rfl rfl rfl ?_
  refine j_iload_n C0 0 dL_law_369 rfl rfl rfl ?_
  refine j_iconst C0 2 dL_law_370 (by decide) rfl ?_
  refine j_iadd C0 dL_law_371 rfl ?_
  refine j_sld C0 hX hbl hbA (i + 2) (nI_add i 2) (by omega) hL dL_law_372 rfl ?_
  refine j_callVi C0 2 [.int (xs (i + 1)), .int (xs (i + 2))] (c_X5_phase (xs (i + 1)) (xs (i + 2)) (op_phase hI)) dL_law_373 gL_law_X5_phase rfl (by decide +kernel) ⟨⟨Nat.le_of_ble_eq_true rfl, Nat.le_of_ble_eq_true rfl⟩, rfl, rfl⟩ (kd_lt (rfl : kd 0 = 5) (by decide)) (ce5 (rfl : kd 0 = 5)) rfl rfl rfl (Nat.le_of_ble_eq_true rfl) rfl (fun r1 μ1 hX1 => ?_)
  refine j_aload_n C0 1 dL_law_376 rfl rfl rfl ?_
  refine j_aload_n C0 3 dL_law_377 rfl rfl rfl ?_
  refine j_iload_n C0 0 dL_law_378 rfl rfl rfl ?_
  refine j_iconst C0 1 dL_law_379 (by decide) rfl ?_
  refine j_iadd C0 dL_law_380 rfl ?_
  refine j_sld C0 hX hbl hbA (i + 1) (nI_add i 1) (by omega) hL dL_law_381 rfl ?_
  refine j_aload_n C0 3 dL_law_382 rfl rfl rfl ?_
  refine j_iload_n C0 0 dL_law_383 rfl rfl rfl ?_
  refine j_iconst C0 2 dL_law_384 (by decide) rfl ?_
  refine j_iadd C0 dL_law_385 rfl ?_
  refine j_sld C0 hX hbl hbA (i + 2) (nI_add i 2) (by omega) hL dL_law_386 rfl ?_
  refine j_callVi C0 2 [.int (xs (i + 1)), .int (xs (i + 2))] (c_X6_phase (xs (i + 1)) (xs (i + 2)) hX1) dL_law_387 gL_law_X6_phase rfl (by decide +kernel) ⟨⟨Nat.le_of_ble_eq_true rfl, Nat.le_of_ble_eq_true rfl⟩, rfl, rfl⟩ (kd_lt (rfl : kd 168 = 6) (by decide)) (ce6 (rfl : kd 168 = 6)) rfl rfl rfl (Nat.le_of_ble_eq_true rfl) rfl (fun r2 μ2 hX2 => ?_)
  exact j_icmp_eq C0 (tgt := 859) dL_law_390 (by decide) rfl (fun _ => kk _ hX2.2) (fun w => absurd hX2.1 w)
theorem law_7 {p : Program} {l : Launch} {e : Env} {s : State} {m : MethodId} {below : List Frame} {meth : Method} {c : Code} {D : va_G} {Y : Nat → ClassId} {ad : Nat → Nat} {bs L : Nat} {xs : Nat → Int32} (C0 : CX D Y ad (AB s.heap.size) room_1 177 3871 p s #[Value.ref bs] m c code 4 RL wsL_law) (hX : va_X bs L xs s s.heap) (hbl : bs < s.heap.size) (hL : L ≤ 2048) {i ct : Nat} {μ : Mem} (hi : i + 4 ≤ L) (hI : Inv (ct + 1) μ) (kk : ∀ μ2, Inv ct μ2 → J p l e room_1 s m #[Value.ref bs] below meth c D Y ad (AB s.heap.size) 177 3871 4 (lw_Z below #[Value.ref bs] s) 859 [(3, .int (nI (i))), (2, .ref (ad 168)), (1, .ref (ad 0)), (0, .ref bs)] [] μ2) : J p l e room_1 s m #[Value.ref bs] below meth c D Y ad (AB s.heap.size) 177 3871 4 (lw_Z below #[Value.ref bs] s) 395 [(3, .int (nI (i))), (2, .ref (ad 168)), (1, .ref (ad 0)), (0, .ref bs)] [] μ := by
  have hbA : ¬ AB s.heap.size bs := by unfold AB; omega
  refine j_aload_n C0 2 dL_law_395 rfl rfl rfl ?_
  refine j_aload_n C0 3 dL_law_396 rfl rfl rfl ?_
  refine j_iload_n C0 0 dL_law_397 rfl rfl rfl ?_
  refine j_iconst C0 1 dL_law_398 (by decide) rfl ?_
  refine j_iadd C0 dL_law_399 rfl ?_
  refine j_sld C0 hX hbl hbA (i + 1) (nI_add i 1) (by omega) hL dL_law_400 rfl ?_
  refine j_aload_n C0 3 dL_law_401 rfl rfl rfl ?_
  refine j_iload_n C0 0 dL_law_402 rfl rfl rfl ?_
  refine j_iconst C0 2 dL_law_403 (by decide) rfl ?_
  refine j_iadd C0 dL_law_404 rfl ?_
  refine j_sld C0 hX hbl hbA (i + 2) (nI_add i 2) (by omega) hL dL_law_405 rfl ?_
  refine j_aload_n C0 3 dL_law_406 rfl rfl rfl ?_
  refine j_iload_n C0 0 dL_law_407 rfl rfl rfl ?_
  refine j_iconst C0 3 dL_law_408 (by decide) rfl ?_
  refine j_iadd C0 dL_law_409 rfl ?_
  refine j_sld C0 hX hbl hbA (i + 3) (nI_add i 3) (by omega) hL dL_law_410 rfl ?_
  refine j_callVi C0 3 [.int (xs (i + 1)), .int (xs (i + 2)), .int (xs (i + 3))] (c_X5_sweep (xs (i + 1)) (xs (i + 2)) (xs (i + 3)) (op_sweep hI)) dL_law_411 gL_law_X5_sweep rfl (by decide +kernel) ⟨⟨Nat.le_of_ble_eq_true rfl, Nat.le_of_ble_eq_true rfl⟩, rfl, rfl⟩ (kd_lt (rfl : kd 0 = 5) (by decide)) (ce5 (rfl : kd 0 = 5)) rfl rfl rfl (Nat.le_of_ble_eq_true rfl) rfl (fun r1 μ1 hX1 => ?_)
  refine j_aload_n C0 1 dL_law_414 rfl rfl rfl ?_
  refine j_aload_n C0 3 dL_law_415 rfl rfl rfl ?_
  refine j_iload_n C0 0 dL_law_416 rfl rfl rfl ?_
  refine j_iconst C0 1 dL_law_417 (by decide) rfl ?_
  refine j_iadd C0 dL_law_418 rfl ?_
  refine j_sld C0 hX hbl hbA (i + 1) (nI_add i 1) (by omega) hL dL_law_419 rfl ?_
  refine j_aload_n C0 3 dL_law_420 rfl rfl rfl ?_
  refine j_iload_n C0 0 dL_law_421 rfl rfl rfl ?_
  refine j_iconst C0 2 dL_law_422 (by decide) rfl ?_
  refine j_iadd C0 dL_law_423 rfl ?_
  refine j_sld C0 hX hbl hbA (i + 2) (nI_add i 2) (by omega) hL dL_law_424 rfl ?_
  refine j_aload_n C0 3 dL_law_425 rfl rfl rfl ?_
  refine j_iload_n C0 0 dL_law_426 rfl rfl rfl ?_
  refine j_iconst C0 3 dL_law_427 (by decide) rfl ?_
  refine j_iadd C0 dL_law_428 rfl ?_
  refine j_sld C0 hX hbl hbA (i + 3) (nI_add i 3) (by omega) hL dL_law_429 rfl ?_
  refine j_callVi C0 3 [.int (xs (i + 1)), .int (xs (i + 2)), .int (xs (i + 3))] (c_X6_sweep (xs (i + 1)) (xs (i + 2)) (xs (i + 3)) hX1) dL_law_430 gL_law_X6_sweep rfl (by decide +kernel) ⟨⟨Nat.le_of_ble_eq_true rfl, Nat.le_of_ble_eq_true rfl⟩, rfl, rfl⟩ (kd_lt (rfl : kd 168 = 6) (by decide)) (ce6 (rfl : kd 168 = 6)) rfl rfl rfl (Nat.le_of_ble_eq_true rfl) rfl (fun r2 μ2 hX2 => ?_)
  exact j_icmp_eq C0 (tgt := 859) dL_law_433 (by decide) rfl (fun _ => kk _ hX2.2) (fun w => absurd hX2.1 w)
theorem law_8 {p : Program} {l : Launch} {e : Env} {s : State} {m : MethodId} {below : List Frame} {meth : Method} {c : Code} {D : va_G} {Y : Nat → ClassId} {ad : Nat → Nat} {bs L : Nat} {xs : Nat → Int32} (C0 : CX D Y ad (AB s.heap.size) room_1 177 3871 p s #[Value.ref bs] m c code 4 RL wsL_law) (hX : va_X bs L xs s s.heap) (hbl : bs < s.heap.size) (hL : L ≤ 2048) {i ct : Nat} {μ : Mem} (hi : i + 4 ≤ L) (hI : Inv (ct + 1) μ) (kk : ∀ μ2, Inv ct μ2 → J p l e room_1 s m #[Value.ref bs] below meth c D Y ad (AB s.heap.size) 177 3871 4 (lw_Z below #[Value.ref bs] s) 859 [(3, .int (nI (i))), (2, .ref (ad 168)), (1, .ref (ad 0)), (0, .ref bs)] [] μ2) : J p l e room_1 s m #[Value.ref bs] below meth c D Y ad (AB s.heap.size) 177 3871 4 (lw_Z below #[Value.ref bs] s) 438 [(3, .int (nI (i))), (2, .ref (ad 168)), (1, .ref (ad 0)), (0, .ref bs)] [] μ := by
  have hbA : ¬ AB s.heap.size bs := by unfold AB; omega
  refine j_aload_n C0 2 dL_law_438 rfl rfl rfl ?_
  refine j_aload_n C0 3 dL_law_439 rfl rfl rfl ?_
  refine j_iload_n C0 0 dL_law_440 rfl rfl rfl ?_
  refine j_iconst C0 1 dL_law_441 (by decide) rfl ?_
  refine j_iadd C0 dL_law_442 rfl ?_
  refine j_sld C0 hX hbl hbA (i + 1) (nI_add i 1) (by omega) hL dL_law_443 rfl ?_
  refine j_callVi C0 1 [.int (xs (i + 1))] (c_X5_make (xs (i + 1)) (op_make hI)) dL_law_444 gL_law_X5_make rfl (by decide +kernel) ⟨⟨Nat.le_of_ble_eq_true rfl, Nat.le_of_ble_eq_true rfl⟩, rfl, rfl⟩ (kd_lt (rfl : kd 0 = 5) (by decide)) (ce5 (rfl : kd 0 = 5)) rfl rfl rfl (Nat.le_of_ble_eq_true rfl) rfl (fun r1 μ1 hX1 => ?_)
  refine j_aload_n C0 1 dL_law_447 rfl rfl rfl ?_
  refine j_aload_n C0 3 dL_law_448 rfl rfl rfl ?_
  refine j_iload_n C0 0 dL_law_449 rfl rfl rfl ?_
  refine j_iconst C0 1 dL_law_450 (by decide) rfl ?_
  refine j_iadd C0 dL_law_451 rfl ?_
  refine j_sld C0 hX hbl hbA (i + 1) (nI_add i 1) (by omega) hL dL_law_452 rfl ?_
  refine j_callVi C0 1 [.int (xs (i + 1))] (c_X6_make (xs (i + 1)) hX1) dL_law_453 gL_law_X6_make rfl (by decide +kernel) ⟨⟨Nat.le_of_ble_eq_true rfl, Nat.le_of_ble_eq_true rfl⟩, rfl, rfl⟩ (kd_lt (rfl : kd 168 = 6) (by decide)) (ce6 (rfl : kd 168 = 6)) rfl rfl rfl (Nat.le_of_ble_eq_true rfl) rfl (fun r2 μ2 hX2 => ?_)
  exact j_icmp_eq C0 (tgt := 859) dL_law_456 (by decide) rfl (fun _ => kk _ hX2.2) (fun w => absurd hX2.1 w)
theorem law_9 {p : Program} {l : Launch} {e : Env} {s : State} {m : MethodId} {below : List Frame} {meth : Method} {c : Code} {D : va_G} {Y : Nat → ClassId} {ad : Nat → Nat} {bs L : Nat} {xs : Nat → Int32} (C0 : CX D Y ad (AB s.heap.size) room_1 177 3871 p s #[Value.ref bs] m c code 4 RL wsL_law) (hX : va_X bs L xs s s.heap) (hbl : bs < s.heap.size) (hL : L ≤ 2048) {i ct : Nat} {μ : Mem} (hi : i + 4 ≤ L) (hI : Inv (ct + 1) μ) (kk : ∀ μ2, Inv ct μ2 → J p l e room_1 s m #[Value.ref bs] below meth c D Y ad (AB s.heap.size) 177 3871 4 (lw_Z below #[Value.ref bs] s) 859 [(3, .int (nI (i))), (2, .ref (ad 168)), (1, .ref (ad 0)), (0, .ref bs)] [] μ2) : J p l e room_1 s m #[Value.ref bs] below meth c D Y ad (AB s.heap.size) 177 3871 4 (lw_Z below #[Value.ref bs] s) 461 [(3, .int (nI (i))), (2, .ref (ad 168)), (1, .ref (ad 0)), (0, .ref bs)] [] μ := by
  have hbA : ¬ AB s.heap.size bs := by unfold AB; omega
  refine j_aload_n C0 2 dL_law_461 rfl rfl rfl ?_
  refine j_callVi C0 0 [] (c_X5_run  (op_run hI)) dL_law_462 gL_law_X5_run rfl (by decide +kernel) ⟨⟨Nat.le_of_ble_eq_true rfl, Nat.le_of_ble_eq_true rfl⟩, rfl, rfl⟩ (kd_lt (rfl : kd 0 = 5) (by decide)) (ce5 (rfl : kd 0 = 5)) rfl rfl rfl (Nat.le_of_ble_eq_true rfl) rfl (fun r1 μ1 hX1 => ?_)
  refine j_aload_n C0 1 dL_law_465 rfl rfl rfl ?_
  refine j_callVi C0 0 [] (c_X6_run  hX1) dL_law_466 gL_law_X6_run rfl (by decide +kernel) ⟨⟨Nat.le_of_ble_eq_true rfl, Nat.le_of_ble_eq_true rfl⟩, rfl, rfl⟩ (kd_lt (rfl : kd 168 = 6) (by decide)) (ce6 (rfl : kd 168 = 6)) rfl rfl rfl (Nat.le_of_ble_eq_true rfl) rfl (fun r2 μ2 hX2 => ?_)
  exact j_icmp_eq C0 (tgt := 859) dL_law_469 (by decide) rfl (fun _ => kk _ hX2.2) (fun w => absurd hX2.1 w)
theorem law_10 {p : Program} {l : Launch} {e : Env} {s : State} {m : MethodId} {below : List Frame} {meth : Method} {c : Code} {D : va_G} {Y : Nat → ClassId} {ad : Nat → Nat} {bs L : Nat} {xs : Nat → Int32} (C0 : CX D Y ad (AB s.heap.size) room_1 177 3871 p s #[Value.ref bs] m c code 4 RL wsL_law) (hX : va_X bs L xs s s.heap) (hbl : bs < s.heap.size) (hL : L ≤ 2048) {i ct : Nat} {μ : Mem} (hi : i + 4 ≤ L) (hI : Inv (ct + 1) μ) (kk : ∀ μ2, Inv ct μ2 → J p l e room_1 s m #[Value.ref bs] below meth c D Y ad (AB s.heap.size) 177 3871 4 (lw_Z below #[Value.ref bs] s) 859 [(3, .int (nI (i))), (2, .ref (ad 168)), (1, .ref (ad 0)), (0, .ref bs)] [] μ2) : J p l e room_1 s m #[Value.ref bs] below meth c D Y ad (AB s.heap.size) 177 3871 4 (lw_Z below #[Value.ref bs] s) 474 [(3, .int (nI (i))), (2, .ref (ad 168)), (1, .ref (ad 0)), (0, .ref bs)] [] μ := by
  have hbA : ¬ AB s.heap.size bs := by unfold AB; omega
  refine j_aload_n C0 2 dL_law_474 rfl rfl rfl ?_
  refine j_aload_n C0 3 dL_law_475 rfl rfl rfl ?_
  refine j_iload_n C0 0 dL_law_476 rfl rfl rfl ?_
  refine j_iconst C0 1 dL_law_477 (by decide) rfl ?_
  refine j_iadd C0 dL_law_478 rfl ?_
  refine j_sld C0 hX hbl hbA (i + 1) (nI_add i 1) (by omega) hL dL_law_479 rfl ?_
  refine j_aload_n C0 3 dL_law_480 rfl rfl rfl ?_
  refine j_iload_n C0 0 dL_law_481 rfl rfl rfl ?_
  refine j_iconst C0 2 dL_law_482 (by decide) rfl ?_
  refine j_iadd C0 dL_law_483 rfl ?_
  refine j_sld C0 hX hbl hbA (i + 2) (nI_add i 2) (by omega) hL dL_law_484 rfl ?_
  refine j_callVi C0 2 [.int (xs (i + 1)), .int (xs (i + 2))] (c_X5_wheel (xs (i + 1)) (xs (i + 2)) (op_wheel hI)) dL_law_485 gL_law_X5_wheel rfl (by decide +kernel) ⟨⟨Nat.le_of_ble_eq_true rfl, Nat.le_of_ble_eq_true rfl⟩, rfl, rfl⟩ (kd_lt (rfl : kd 0 = 5) (by decide)) (ce5 (rfl : kd 0 = 5)) rfl rfl rfl (Nat.le_of_ble_eq_true rfl) rfl (fun r1 μ1 hX1 => ?_)
  refine j_aload_n C0 1 dL_law_488 rfl rfl rfl ?_
  refine j_aload_n C0 3 dL_law_489 rfl rfl rfl ?_
  refine j_iload_n C0 0 dL_law_490 rfl rfl rfl ?_
  refine j_iconst C0 1 dL_law_491 (by decide) rfl ?_
  refine j_iadd C0 dL_law_492 rfl ?_
  refine j_sld C0 hX hbl hbA (i + 1) (nI_add i 1) (by omega) hL dL_law_493 rfl ?_
  refine j_aload_n C0 3 dL_law_494 rfl rfl rfl ?_
  refine j_iload_n C0 0 dL_law_495 rfl rfl rfl ?_
  refine j_iconst C0 2 dL_law_496 (by decide) rfl ?_
  refine j_iadd C0 dL_law_497 rfl ?_
  refine j_sld C0 hX hbl hbA (i + 2) (nI_add i 2) (by omega) hL dL_law_498 rfl ?_
  refine j_callVi C0 2 [.int (xs (i + 1)), .int (xs (i + 2))] (c_X6_wheel (xs (i + 1)) (xs (i + 2)) hX1) dL_law_499 gL_law_X6_wheel rfl (by decide +kernel) ⟨⟨Nat.le_of_ble_eq_true rfl, Nat.le_of_ble_eq_true rfl⟩, rfl, rfl⟩ (kd_lt (rfl : kd 168 = 6) (by decide)) (ce6 (rfl : kd 168 = 6)) rfl rfl rfl (Nat.le_of_ble_eq_true rfl) rfl (fun r2 μ2 hX2 => ?_)
  exact j_icmp_eq C0 (tgt := 859) dL_law_502 (by decide) rfl (fun _ => kk _ hX2.2.dn) (fun w => absurd hX2.1 w)
theorem law_11 {p : Program} {l : Launch} {e : Env} {s : State} {m : MethodId} {below : List Frame} {meth : Method} {c : Code} {D : va_G} {Y : Nat → ClassId} {ad : Nat → Nat} {bs L : Nat} {xs : Nat → Int32} (C0 : CX D Y ad (AB s.heap.size) room_1 177 3871 p s #[Value.ref bs] m c code 4 RL wsL_law) (hX : va_X bs L xs s s.heap) (hbl : bs < s.heap.size) (hL : L ≤ 2048) {i ct : Nat} {μ : Mem} (hi : i + 4 ≤ L) (hI : Inv (ct + 1) μ) (kk : ∀ μ2, Inv ct μ2 → J p l e room_1 s m #[Value.ref bs] below meth c D Y ad (AB s.heap.size) 177 3871 4 (lw_Z below #[Value.ref bs] s) 859 [(3, .int (nI (i))), (2, .ref (ad 168)), (1, .ref (ad 0)), (0, .ref bs)] [] μ2) : J p l e room_1 s m #[Value.ref bs] below meth c D Y ad (AB s.heap.size) 177 3871 4 (lw_Z below #[Value.ref bs] s) 507 [(3, .int (nI (i))), (2, .ref (ad 168)), (1, .ref (ad 0)), (0, .ref bs)] [] μ := by
  have hbA : ¬ AB s.heap.size bs := by unfold AB; omega
  refine j_aload_n C0 2 dL_law_507 rfl rfl rfl ?_
  refine j_aload_n C0 3 dL_law_508 rfl rfl rfl ?_
  refine j_iload_n C0 0 dL_law_509 rfl rfl rfl ?_
  refine j_iconst C0 1 dL_law_510 (by decide) rfl ?_
  refine j_iadd C0 dL_law_511 rfl ?_
  refine j_sld C0 hX hbl hbA (i + 1) (nI_add i 1) (by omega) hL dL_law_512 rfl ?_
  refine j_aload_n C0 3 dL_law_513 rfl rfl rfl ?_
  refine j_iload_n C0 0 dL_law_514 rfl rfl rfl ?_
  refine j_iconst C0 2 dL_law_515 (by decide) rfl ?_
  refine j_iadd C0 dL_law_516 rfl ?_
  refine j_sld C0 hX hbl hbA (i + 2) (nI_add i 2) (by omega) hL dL_law_517 rfl ?_
  refine j_callVi C0 2 [.int (xs (i + 1)), .int (xs (i + 2))] (c_X5_valueOf (xs (i + 1)) (xs (i + 2)) (op_valueOf hI)) dL_law_518 gL_law_X5_valueOf rfl (by decide +kernel) ⟨⟨Nat.le_of_ble_eq_true rfl, Nat.le_of_ble_eq_true rfl⟩, rfl, rfl⟩ (kd_lt (rfl : kd 0 = 5) (by decide)) (ce5 (rfl : kd 0 = 5)) rfl rfl rfl (Nat.le_of_ble_eq_true rfl) rfl (fun r1 μ1 hX1 => ?_)
  refine j_aload_n C0 1 dL_law_521 rfl rfl rfl ?_
  refine j_aload_n C0 3 dL_law_522 rfl rfl rfl ?_
  refine j_iload_n C0 0 dL_law_523 rfl rfl rfl ?_
  refine j_iconst C0 1 dL_law_524 (by decide) rfl ?_
  refine j_iadd C0 dL_law_525 rfl ?_
  refine j_sld C0 hX hbl hbA (i + 1) (nI_add i 1) (by omega) hL dL_law_526 rfl ?_
  refine j_aload_n C0 3 dL_law_527 rfl rfl rfl ?_
  refine j_iload_n C0 0 dL_law_528 rfl rfl rfl ?_
  refine j_iconst C0 2 dL_law_529 (by decide) rfl ?_
  refine j_iadd C0 dL_law_530 rfl ?_
  refine j_sld C0 hX hbl hbA (i + 2) (nI_add i 2) (by omega) hL dL_law_531 rfl ?_
  refine j_callVi C0 2 [.int (xs (i + 1)), .int (xs (i + 2))] (c_X6_valueOf (xs (i + 1)) (xs (i + 2)) hX1) dL_law_532 gL_law_X6_valueOf rfl (by decide +kernel) ⟨⟨Nat.le_of_ble_eq_true rfl, Nat.le_of_ble_eq_true rfl⟩, rfl, rfl⟩ (kd_lt (rfl : kd 168 = 6) (by decide)) (ce6 (rfl : kd 168 = 6)) rfl rfl rfl (Nat.le_of_ble_eq_true rfl) rfl (fun r2 μ2 hX2 => ?_)
  exact j_icmp_eq C0 (tgt := 859) dL_law_535 (by decide) rfl (fun _ => kk _ hX2.2.dn) (fun w => absurd hX2.1 w)
theorem law_12 {p : Program} {l : Launch} {e : Env} {s : State} {m : MethodId} {below : List Frame} {meth : Method} {c : Code} {D : va_G} {Y : Nat → ClassId} {ad : Nat → Nat} {bs L : Nat} {xs : Nat → Int32} (C0 : CX D Y ad (AB s.heap.size) room_1 177 3871 p s #[Value.ref bs] m c code 4 RL wsL_law) (hX : va_X bs L xs s s.heap) (hbl : bs < s.heap.size) (hL : L ≤ 2048) {i ct : Nat} {μ : Mem} (hi : i + 4 ≤ L) (hI : Inv (ct + 1) μ) (kk : ∀ μ2, Inv ct μ2 → J p l e room_1 s m #[Value.ref bs] below meth c D Y ad (AB s.heap.size) 177 3871 4 (lw_Z below #[Value.ref bs] s) 859 [(3, .int (nI (i))), (2, .ref (ad 168)), (1, .ref (ad 0)), (0, .ref bs)] [] μ2) : J p l e room_1 s m #[Value.ref bs] below meth c D Y ad (AB s.heap.size) 177 3871 4 (lw_Z below #[Value.ref bs] s) 540 [(3, .int (nI (i))), (2, .ref (ad 168)), (1, .ref (ad 0)), (0, .ref bs)] [] μ := by
  have hbA : ¬ AB s.heap.size bs := by unfold AB; omega
  refine j_aload_n C0 2 dL_law_540 rfl rfl rfl ?_
  refine j_aload_n C0 3 dL_law_541 rfl rfl rfl ?_
  refine j_iload_n C0 0 dL_law_542 rfl rfl rfl ?_
  refine j_iconst C0 1 dL_law_543 (by decide) rfl ?_
  refine j_iadd C0 dL_law_544 rfl ?_
  refine j_sld C0 hX hbl hbA (i + 1) (nI_add i 1) (by omega) hL dL_law_545 rfl ?_
  refine j_callVi C0 1 [.int (xs (i + 1))] (c_X5_sample (xs (i + 1)) (op_sample hI)) dL_law_546 gL_law_X5_sample rfl (by decide +kernel) ⟨⟨Nat.le_of_ble_eq_true rfl, Nat.le_of_ble_eq_true rfl⟩, rfl, rfl⟩ (kd_lt (rfl : kd 0 = 5) (by decide)) (ce5 (rfl : kd 0 = 5)) rfl rfl rfl (Nat.le_of_ble_eq_true rfl) rfl (fun r1 μ1 hX1 => ?_)
  refine j_aload_n C0 1 dL_law_549 rfl rfl rfl ?_
  refine j_aload_n C0 3 dL_law_550 rfl rfl rfl ?_
  refine j_iload_n C0 0 dL_law_551 rfl rfl rfl ?_
  refine j_iconst C0 1 dL_law_552 (by decide) rfl ?_
  refine j_iadd C0 dL_law_553 rfl ?_
  refine j_sld C0 hX hbl hbA (i + 1) (nI_add i 1) (by omega) hL dL_law_554 rfl ?_
  refine j_callVi C0 1 [.int (xs (i + 1))] (c_X6_sample (xs (i + 1)) hX1) dL_law_555 gL_law_X6_sample rfl (by decide +kernel) ⟨⟨Nat.le_of_ble_eq_true rfl, Nat.le_of_ble_eq_true rfl⟩, rfl, rfl⟩ (kd_lt (rfl : kd 168 = 6) (by decide)) (ce6 (rfl : kd 168 = 6)) rfl rfl rfl (Nat.le_of_ble_eq_true rfl) rfl (fun r2 μ2 hX2 => ?_)
  exact j_icmp_eq C0 (tgt := 859) dL_law_558 (by decide) rfl (fun _ => kk _ hX2.2.dn) (fun w => absurd hX2.1 w)
theorem law_13 {p : Program} {l : Launch} {e : Env} {s : State} {m : MethodId} {below : List Frame} {meth : Method} {c : Code} {D : va_G} {Y : Nat → ClassId} {ad : Nat → Nat} {bs L : Nat} {xs : Nat → Int32} (C0 : CX D Y ad (AB s.heap.size) room_1 177 3871 p s #[Value.ref bs] m c code 4 RL wsL_law) (hX : va_X bs L xs s s.heap) (hbl : bs < s.heap.size) (hL : L ≤ 2048) {i ct : Nat} {μ : Mem} (hi : i + 4 ≤ L) (hI : Inv (ct + 1) μ) (kk : ∀ μ2, Inv ct μ2 → J p l e room_1 s m #[Value.ref bs] below meth c D Y ad (AB s.heap.size) 177 3871 4 (lw_Z below #[Value.ref bs] s) 859 [(3, .int (nI (i))), (2, .ref (ad 168)), (1, .ref (ad 0)), (0, .ref bs)] [] μ2) : J p l e room_1 s m #[Value.ref bs] below meth c D Y ad (AB s.heap.size) 177 3871 4 (lw_Z below #[Value.ref bs] s) 563 [(3, .int (nI (i))), (2, .ref (ad 168)), (1, .ref (ad 0)), (0, .ref bs)] [] μ := by
  have hbA : ¬ AB s.heap.size bs := by unfold AB; omega
  refine j_aload_n C0 2 dL_law_563 rfl rfl rfl ?_
  refine j_aload_n C0 3 dL_law_564 rfl rfl rfl ?_
  refine j_iload_n C0 0 dL_law_565 rfl rfl rfl ?_
  refine j_iconst C0 1 dL_law_566 (by decide) rfl ?_
  refine j_iadd C0 dL_law_567 rfl ?_
  refine j_sld C0 hX hbl hbA (i + 1) (nI_add i 1) (by omega) hL dL_law_568 rfl ?_
  refine j_aload_n C0 3 dL_law_569 rfl rfl rfl ?_
  refine j_iload_n C0 0 dL_law_570 rfl rfl rfl ?_
  refine j_iconst C0 2 dL_law_571 (by decide) rfl ?_
  refine j_iadd C0 dL_law_572 rfl ?_
  refine j_sld C0 hX hbl hbA (i + 2) (nI_add i 2) (by omega) hL dL_law_573 rfl ?_
  refine j_callVi C0 2 [.int (xs (i + 1)), .int (xs (i + 2))] (c_X5_beat (xs (i + 1)) (xs (i + 2)) (op_beat hI)) dL_law_574 gL_law_X5_beat rfl (by decide +kernel) ⟨⟨Nat.le_of_ble_eq_true rfl, Nat.le_of_ble_eq_true rfl⟩, rfl, rfl⟩ (kd_lt (rfl : kd 0 = 5) (by decide)) (ce5 (rfl : kd 0 = 5)) rfl rfl rfl (Nat.le_of_ble_eq_true rfl) rfl (fun r1 μ1 hX1 => ?_)
  refine j_aload_n C0 1 dL_law_577 rfl rfl rfl ?_
  refine j_aload_n C0 3 dL_law_578 rfl rfl rfl ?_
  refine j_iload_n C0 0 dL_law_579 rfl rfl rfl ?_
  refine j_iconst C0 1 dL_law_580 (by decide) rfl ?_
  refine j_iadd C0 dL_law_581 rfl ?_
  refine j_sld C0 hX hbl hbA (i + 1) (nI_add i 1) (by omega) hL dL_law_582 rfl ?_
  refine j_aload_n C0 3 dL_law_583 rfl rfl rfl ?_
  refine j_iload_n C0 0 dL_law_584 rfl rfl rfl ?_
  refine j_iconst C0 2 dL_law_585 (by decide) rfl ?_
  refine j_iadd C0 dL_law_586 rfl ?_
  refine j_sld C0 hX hbl hbA (i + 2) (nI_add i 2) (by omega) hL dL_law_587 rfl ?_
  refine j_callVi C0 2 [.int (xs (i + 1)), .int (xs (i + 2))] (c_X6_beat (xs (i + 1)) (xs (i + 2)) hX1) dL_law_588 gL_law_X6_beat rfl (by decide +kernel) ⟨⟨Nat.le_of_ble_eq_true rfl, Nat.le_of_ble_eq_true rfl⟩, rfl, rfl⟩ (kd_lt (rfl : kd 168 = 6) (by decide)) (ce6 (rfl : kd 168 = 6)) rfl rfl rfl (Nat.le_of_ble_eq_true rfl) rfl (fun r2 μ2 hX2 => ?_)
  exact j_icmp_eq C0 (tgt := 859) dL_law_591 (by decide) rfl (fun _ => kk _ hX2.2.dn) (fun w => absurd hX2.1 w)
theorem law_14 {p : Program} {l : Launch} {e : Env} {s : State} {m : MethodId} {below : List Frame} {meth : Method} {c : Code} {D : va_G} {Y : Nat → ClassId} {ad : Nat → Nat} {bs L : Nat} {xs : Nat → Int32} (C0 : CX D Y ad (AB s.heap.size) room_1 177 3871 p s #[Value.ref bs] m c code 4 RL wsL_law) (hX : va_X bs L xs s s.heap) (hbl : bs < s.heap.size) (hL : L ≤ 2048) {i ct : Nat} {μ : Mem} (hi : i + 4 ≤ L) (hI : Inv (ct + 1) μ) (kk : ∀ μ2, Inv ct μ2 → J p l e room_1 s m #[Value.ref bs] below meth c D Y ad (AB s.heap.size) 177 3871 4 (lw_Z below #[Value.ref bs] s) 859 [(3, .int (nI (i))), (2, .ref (ad 168)), (1, .ref (ad 0)), (0, .ref bs)] [] μ2) : J p l e room_1 s m #[Value.ref bs] below meth c D Y ad (AB s.heap.size) 177 3871 4 (lw_Z below #[Value.ref bs] s) 596 [(3, .int (nI (i))), (2, .ref (ad 168)), (1, .ref (ad 0)), (0, .ref bs)] [] μ := by
  have hbA : ¬ AB s.heap.size bs := by unfold AB; omega
  refine j_aload_n C0 2 dL_law_596 rfl rfl rfl ?_
  refine j_aload_n C0 3 dL_law_597 rfl rfl rfl ?_
  refine j_iload_n C0 0 dL_law_598 rfl rfl rfl ?_
  refine j_iconst C0 1 dL_law_599 (by decide) rfl ?_
  refine j_iadd C0 dL_law_600 rfl ?_
  refine j_sld C0 hX hbl hbA (i + 1) (nI_add i 1) (by omega) hL dL_law_601 rfl ?_
  refine j_callVi C0 1 [.int (xs (i + 1))] (c_X5_count (xs (i + 1)) (op_count hI)) dL_law_602 gL_law_X5_count rfl (by decide +kernel) ⟨⟨Nat.le_of_ble_eq_true rfl, Nat.le_of_ble_eq_true rfl⟩, rfl, rfl⟩ (kd_lt (rfl : kd 0 = 5) (by decide)) (ce5 (rfl : kd 0 = 5)) rfl rfl rfl (Nat.le_of_ble_eq_true rfl) rfl (fun r1 μ1 hX1 => ?_)
  refine j_aload_n C0 1 dL_law_605 rfl rfl rfl ?_
  refine j_aload_n C0 3 dL_law_606 rfl rfl rfl ?_
  refine j_iload_n C0 0 dL_law_607 rfl rfl rfl ?_
  refine j_iconst C0 1 dL_law_608 (by decide) rfl ?_
  refine j_iadd C0 dL_law_609 rfl ?_
  refine j_sld C0 hX hbl hbA (i + 1) (nI_add i 1) (by omega) hL dL_law_610 rfl ?_
  refine j_callVi C0 1 [.int (xs (i + 1))] (c_X6_count (xs (i + 1)) hX1) dL_law_611 gL_law_X6_count rfl (by decide +kernel) ⟨⟨Nat.le_of_ble_eq_true rfl, Nat.le_of_ble_eq_true rfl⟩, rfl, rfl⟩ (kd_lt (rfl : kd 168 = 6) (by decide)) (ce6 (rfl : kd 168 = 6)) rfl rfl rfl (Nat.le_of_ble_eq_true rfl) rfl (fun r2 μ2 hX2 => ?_)
  exact j_icmp_eq C0 (tgt := 859) dL_law_614 (by decide) rfl (fun _ => kk _ hX2.2.dn) (fun w => absurd hX2.1 w)
theorem law_15 {p : Program} {l : Launch} {e : Env} {s : State} {m : MethodId} {below : List Frame} {meth : Method} {c : Code} {D : va_G} {Y : Nat → ClassId} {ad : Nat → Nat} {bs L : Nat} {xs : Nat → Int32} (C0 : CX D Y ad (AB s.heap.size) room_1 177 3871 p s #[Value.ref bs] m c code 4 RL wsL_law) (hX : va_X bs L xs s s.heap) (hbl : bs < s.heap.size) (hL : L ≤ 2048) {i ct : Nat} {μ : Mem} (hi : i + 4 ≤ L) (hI : Inv (ct + 1) μ) (kk : ∀ μ2, Inv ct μ2 → J p l e room_1 s m #[Value.ref bs] below meth c D Y ad (AB s.heap.size) 177 3871 4 (lw_Z below #[Value.ref bs] s) 859 [(3, .int (nI (i))), (2, .ref (ad 168)), (1, .ref (ad 0)), (0, .ref bs)] [] μ2) : J p l e room_1 s m #[Value.ref bs] below meth c D Y ad (AB s.heap.size) 177 3871 4 (lw_Z below #[Value.ref bs] s) 619 [(3, .int (nI (i))), (2, .ref (ad 168)), (1, .ref (ad 0)), (0, .ref bs)] [] μ := by
  have hbA : ¬ AB s.heap.size bs := by unfold AB; omega
  refine j_aload_n C0 2 dL_law_619 rfl rfl rfl ?_
  refine j_aload_n C0 3 dL_law_620 rfl rfl rfl ?_
  refine j_iload_n C0 0 dL_law_621 rfl rfl rfl ?_
  refine j_iconst C0 1 dL_law_622 (by decide) rfl ?_
  refine j_iadd C0 dL_law_623 rfl ?_
  refine j_sld C0 hX hbl hbA (i + 1) (nI_add i 1) (by omega) hL dL_law_624 rfl ?_
  refine j_aload_n C0 3 dL_law_625 rfl rfl rfl ?_
  refine j_iload_n C0 0 dL_law_626 rfl rfl rfl ?_
  refine j_iconst C0 2 dL_law_627 (by decide) rfl ?_
  refine j_iadd C0 dL_law_628 rfl ?_
  refine j_sld C0 hX hbl hbA (i + 2) (nI_add i 2) (by omega) hL dL_law_629 rfl ?_
  refine j_callVi C0 2 [.int (xs (i + 1)), .int (xs (i + 2))] (c_X5_ifMade (xs (i + 1)) (xs (i + 2)) (op_ifMade hI)) dL_law_630 gL_law_X5_ifMade rfl (by decide +kernel) ⟨⟨Nat.le_of_ble_eq_true rfl, Nat.le_of_ble_eq_true rfl⟩, rfl, rfl⟩ (kd_lt (rfl : kd 0 = 5) (by decide)) (ce5 (rfl : kd 0 = 5)) rfl rfl rfl (Nat.le_of_ble_eq_true rfl) rfl (fun r1 μ1 hX1 => ?_)
  refine j_aload_n C0 1 dL_law_633 rfl rfl rfl ?_
  refine j_aload_n C0 3 dL_law_634 rfl rfl rfl ?_
  refine j_iload_n C0 0 dL_law_635 rfl rfl rfl ?_
  refine j_iconst C0 1 dL_law_636 (by decide) rfl ?_
  refine j_iadd C0 dL_law_637 rfl ?_
  refine j_sld C0 hX hbl hbA (i + 1) (nI_add i 1) (by omega) hL dL_law_638 rfl ?_
  refine j_aload_n C0 3 dL_law_639 rfl rfl rfl ?_
  refine j_iload_n C0 0 dL_law_640 rfl rfl rfl ?_
  refine j_iconst C0 2 dL_law_641 (by decide) rfl ?_
  refine j_iadd C0 dL_law_642 rfl ?_
  refine j_sld C0 hX hbl hbA (i + 2) (nI_add i 2) (by omega) hL dL_law_643 rfl ?_
  refine j_callVi C0 2 [.int (xs (i + 1)), .int (xs (i + 2))] (c_X6_ifMade (xs (i + 1)) (xs (i + 2)) hX1) dL_law_644 gL_law_X6_ifMade rfl (by decide +kernel) ⟨⟨Nat.le_of_ble_eq_true rfl, Nat.le_of_ble_eq_true rfl⟩, rfl, rfl⟩ (kd_lt (rfl : kd 168 = 6) (by decide)) (ce6 (rfl : kd 168 = 6)) rfl rfl rfl (Nat.le_of_ble_eq_true rfl) rfl (fun r2 μ2 hX2 => ?_)
  exact j_icmp_eq C0 (tgt := 859) dL_law_647 (by decide) rfl (fun _ => kk _ hX2.2.dn) (fun w => absurd hX2.1 w)
theorem law_16 {p : Program} {l : Launch} {e : Env} {s : State} {m : MethodId} {below : List Frame} {meth : Method} {c : Code} {D : va_G} {Y : Nat → ClassId} {ad : Nat → Nat} {bs L : Nat} {xs : Nat → Int32} (C0 : CX D Y ad (AB s.heap.size) room_1 177 3871 p s #[Value.ref bs] m c code 4 RL wsL_law) (hX : va_X bs L xs s s.heap) (hbl : bs < s.heap.size) (hL : L ≤ 2048) {i ct : Nat} {μ : Mem} (hi : i + 4 ≤ L) (hI : Inv (ct + 1) μ) (kk : ∀ μ2, Inv ct μ2 → J p l e room_1 s m #[Value.ref bs] below meth c D Y ad (AB s.heap.size) 177 3871 4 (lw_Z below #[Value.ref bs] s) 859 [(3, .int (nI (i))), (2, .ref (ad 168)), (1, .ref (ad 0)), (0, .ref bs)] [] μ2) : J p l e room_1 s m #[Value.ref bs] below meth c D Y ad (AB s.heap.size) 177 3871 4 (lw_Z below #[Value.ref bs] s) 652 [(3, .int (nI (i))), (2, .ref (ad 168)), (1, .ref (ad 0)), (0, .ref bs)] [] μ := by
  have hbA : ¬ AB s.heap.size bs := by unfold AB; omega
  refine j_aload_n C0 2 dL_law_652 rfl rfl rfl ?_
  refine j_callVi C0 0 [] (c_X5_untilClip  (op_untilClip hI)) dL_law_653 gL_law_X5_untilClip rfl (by decide +kernel) ⟨⟨Nat.le_of_ble_eq_true rfl, Nat.le_of_ble_eq_true rfl⟩, rfl, rfl⟩ (kd_lt (rfl : kd 0 = 5) (by decide)) (ce5 (rfl : kd 0 = 5)) rfl rfl rfl (Nat.le_of_ble_eq_true rfl) rfl (fun r1 μ1 hX1 => ?_)
  refine j_aload_n C0 1 dL_law_656 rfl rfl rfl ?_
  refine j_callVi C0 0 [] (c_X6_untilClip  hX1) dL_law_657 gL_law_X6_untilClip rfl (by decide +kernel) ⟨⟨Nat.le_of_ble_eq_true rfl, Nat.le_of_ble_eq_true rfl⟩, rfl, rfl⟩ (kd_lt (rfl : kd 168 = 6) (by decide)) (ce6 (rfl : kd 168 = 6)) rfl rfl rfl (Nat.le_of_ble_eq_true rfl) rfl (fun r2 μ2 hX2 => ?_)
  exact j_icmp_eq C0 (tgt := 859) dL_law_660 (by decide) rfl (fun _ => kk _ hX2.2.dn) (fun w => absurd hX2.1 w)
theorem law_17 {p : Program} {l : Launch} {e : Env} {s : State} {m : MethodId} {below : List Frame} {meth : Method} {c : Code} {D : va_G} {Y : Nat → ClassId} {ad : Nat → Nat} {bs L : Nat} {xs : Nat → Int32} (C0 : CX D Y ad (AB s.heap.size) room_1 177 3871 p s #[Value.ref bs] m c code 4 RL wsL_law) (hX : va_X bs L xs s s.heap) (hbl : bs < s.heap.size) (hL : L ≤ 2048) {i ct : Nat} {μ : Mem} (hi : i + 4 ≤ L) (hI : Inv (ct + 1) μ) (kk : ∀ μ2, Inv ct μ2 → J p l e room_1 s m #[Value.ref bs] below meth c D Y ad (AB s.heap.size) 177 3871 4 (lw_Z below #[Value.ref bs] s) 859 [(3, .int (nI (i))), (2, .ref (ad 168)), (1, .ref (ad 0)), (0, .ref bs)] [] μ2) : J p l e room_1 s m #[Value.ref bs] below meth c D Y ad (AB s.heap.size) 177 3871 4 (lw_Z below #[Value.ref bs] s) 665 [(3, .int (nI (i))), (2, .ref (ad 168)), (1, .ref (ad 0)), (0, .ref bs)] [] μ := by
  have hbA : ¬ AB s.heap.size bs := by unfold AB; omega
  refine j_aload_n C0 2 dL_law_665 rfl rfl rfl ?_
  refine j_aload_n C0 3 dL_law_666 rfl rfl rfl ?_
  refine j_iload_n C0 0 dL_law_667 rfl rfl rfl ?_
  refine j_iconst C0 1 dL_law_668 (by decide) rfl ?_
  refine j_iadd C0 dL_law_669 rfl ?_
  refine j_sld C0 hX hbl hbA (i + 1) (nI_add i 1) (by omega) hL dL_law_670 rfl ?_
  refine j_aload_n C0 3 dL_law_671 rfl rfl rfl ?_
  refine j_iload_n C0 0 dL_law_672 rfl rfl rfl ?_
  refine j_iconst C0 2 dL_law_673 (by decide) rfl ?_
  refine j_iadd C0 dL_law_674 rfl ?_
  refine j_sld C0 hX hbl hbA (i + 2) (nI_add i 2) (by omega) hL dL_law_675 rfl ?_
  refine j_callVi C0 2 [.int (xs (i + 1)), .int (xs (i + 2))] (c_X5_bestStep (xs (i + 1)) (xs (i + 2)) (op_bestStep hI)) dL_law_676 gL_law_X5_bestStep rfl (by decide +kernel) ⟨⟨Nat.le_of_ble_eq_true rfl, Nat.le_of_ble_eq_true rfl⟩, rfl, rfl⟩ (kd_lt (rfl : kd 0 = 5) (by decide)) (ce5 (rfl : kd 0 = 5)) rfl rfl rfl (Nat.le_of_ble_eq_true rfl) rfl (fun r1 μ1 hX1 => ?_)
  refine j_aload_n C0 1 dL_law_679 rfl rfl rfl ?_
  refine j_aload_n C0 3 dL_law_680 rfl rfl rfl ?_
  refine j_iload_n C0 0 dL_law_681 rfl rfl rfl ?_
  refine j_iconst C0 1 dL_law_682 (by decide) rfl ?_
  refine j_iadd C0 dL_law_683 rfl ?_
  refine j_sld C0 hX hbl hbA (i + 1) (nI_add i 1) (by omega) hL dL_law_684 rfl ?_
  refine j_aload_n C0 3 dL_law_685 rfl rfl rfl ?_
  refine j_iload_n C0 0 dL_law_686 rfl rfl rfl ?_
  refine j_iconst C0 2 dL_law_687 (by decide) rfl ?_
  refine j_iadd C0 dL_law_688 rfl ?_
  refine j_sld C0 hX hbl hbA (i + 2) (nI_add i 2) (by omega) hL dL_law_689 rfl ?_
  refine j_callVi C0 2 [.int (xs (i + 1)), .int (xs (i + 2))] (c_X6_bestStep (xs (i + 1)) (xs (i + 2)) hX1) dL_law_690 gL_law_X6_bestStep rfl (by decide +kernel) ⟨⟨Nat.le_of_ble_eq_true rfl, Nat.le_of_ble_eq_true rfl⟩, rfl, rfl⟩ (kd_lt (rfl : kd 168 = 6) (by decide)) (ce6 (rfl : kd 168 = 6)) rfl rfl rfl (Nat.le_of_ble_eq_true rfl) rfl (fun r2 μ2 hX2 => ?_)
  exact j_icmp_eq C0 (tgt := 859) dL_law_693 (by decide) rfl (fun _ => kk _ hX2.2.dn) (fun w => absurd hX2.1 w)
theorem law_18 {p : Program} {l : Launch} {e : Env} {s : State} {m : MethodId} {below : List Frame} {meth : Method} {c : Code} {D : va_G} {Y : Nat → ClassId} {ad : Nat → Nat} {bs L : Nat} {xs : Nat → Int32} (C0 : CX D Y ad (AB s.heap.size) room_1 177 3871 p s #[Value.ref bs] m c code 4 RL wsL_law) (hX : va_X bs L xs s s.heap) (hbl : bs < s.heap.size) (hL : L ≤ 2048) {i ct : Nat} {μ : Mem} (hi : i + 4 ≤ L) (hI : Inv (ct + 1) μ) (kk : ∀ μ2, Inv ct μ2 → J p l e room_1 s m #[Value.ref bs] below meth c D Y ad (AB s.heap.size) 177 3871 4 (lw_Z below #[Value.ref bs] s) 859 [(3, .int (nI (i))), (2, .ref (ad 168)), (1, .ref (ad 0)), (0, .ref bs)] [] μ2) : J p l e room_1 s m #[Value.ref bs] below meth c D Y ad (AB s.heap.size) 177 3871 4 (lw_Z below #[Value.ref bs] s) 698 [(3, .int (nI (i))), (2, .ref (ad 168)), (1, .ref (ad 0)), (0, .ref bs)] [] μ := by
  have hbA : ¬ AB s.heap.size bs := by unfold AB; omega
  refine j_aload_n C0 2 dL_law_698 rfl rfl rfl ?_
  refine j_aload_n C0 3 dL_law_699 rfl rfl rfl ?_
  refine j_iload_n C0 0 dL_law_700 rfl rfl rfl ?_
  refine j_iconst C0 1 dL_law_701 (by decide) rfl ?_
  refine j_iadd C0 dL_law_702 rfl ?_
  refine j_sld C0 hX hbl hbA (i + 1) (nI_add i 1) (by omega) hL dL_law_703 rfl ?_
  refine j_callVi C0 1 [.int (xs (i + 1))] (c_X5_untilRound (xs (i + 1)) (op_untilRound hI)) dL_law_704 gL_law_X5_untilRound rfl (by decide +kernel) ⟨⟨Nat.le_of_ble_eq_true rfl, Nat.le_of_ble_eq_true rfl⟩, rfl, rfl⟩ (kd_lt (rfl : kd 0 = 5) (by decide)) (ce5 (rfl : kd 0 = 5)) rfl rfl rfl (Nat.le_of_ble_eq_true rfl) rfl (fun r1 μ1 hX1 => ?_)
  refine j_aload_n C0 1 dL_law_707 rfl rfl rfl ?_
  refine j_aload_n C0 3 dL_law_708 rfl rfl rfl ?_
  refine j_iload_n C0 0 dL_law_709 rfl rfl rfl ?_
  refine j_iconst C0 1 dL_law_710 (by decide) rfl ?_
  refine j_iadd C0 dL_law_711 rfl ?_
  refine j_sld C0 hX hbl hbA (i + 1) (nI_add i 1) (by omega) hL dL_law_712 rfl ?_
  refine j_callVi C0 1 [.int (xs (i + 1))] (c_X6_untilRound (xs (i + 1)) hX1) dL_law_713 gL_law_X6_untilRound rfl (by decide +kernel) ⟨⟨Nat.le_of_ble_eq_true rfl, Nat.le_of_ble_eq_true rfl⟩, rfl, rfl⟩ (kd_lt (rfl : kd 168 = 6) (by decide)) (ce6 (rfl : kd 168 = 6)) rfl rfl rfl (Nat.le_of_ble_eq_true rfl) rfl (fun r2 μ2 hX2 => ?_)
  exact j_icmp_eq C0 (tgt := 859) dL_law_716 (by decide) rfl (fun _ => kk _ hX2.2.dn) (fun w => absurd hX2.1 w)
theorem law_19 {p : Program} {l : Launch} {e : Env} {s : State} {m : MethodId} {below : List Frame} {meth : Method} {c : Code} {D : va_G} {Y : Nat → ClassId} {ad : Nat → Nat} {bs L : Nat} {xs : Nat → Int32} (C0 : CX D Y ad (AB s.heap.size) room_1 177 3871 p s #[Value.ref bs] m c code 4 RL wsL_law) (hX : va_X bs L xs s s.heap) (hbl : bs < s.heap.size) (hL : L ≤ 2048) {i ct : Nat} {μ : Mem} (hi : i + 4 ≤ L) (hI : Inv (ct + 1) μ) (kk : ∀ μ2, Inv ct μ2 → J p l e room_1 s m #[Value.ref bs] below meth c D Y ad (AB s.heap.size) 177 3871 4 (lw_Z below #[Value.ref bs] s) 859 [(3, .int (nI (i))), (2, .ref (ad 168)), (1, .ref (ad 0)), (0, .ref bs)] [] μ2) : J p l e room_1 s m #[Value.ref bs] below meth c D Y ad (AB s.heap.size) 177 3871 4 (lw_Z below #[Value.ref bs] s) 721 [(3, .int (nI (i))), (2, .ref (ad 168)), (1, .ref (ad 0)), (0, .ref bs)] [] μ := by
  have hbA : ¬ AB s.heap.size bs := by unfold AB; omega
  refine j_aload_n C0 2 dL_law_721 rfl rfl rfl ?_
  refine j_aload_n C0 3 dL_law_722 rfl rfl rfl ?_
  refine j_iload_n C0 0 dL_law_723 rfl rfl rfl ?_
  refine j_iconst C0 1 dL_law_724 (by decide) rfl ?_
  refine j_iadd C0 dL_law_725 rfl ?_
  refine j_sld C0 hX hbl hbA (i + 1) (nI_add i 1) (by omega) hL dL_law_726 rfl ?_
  refine j_i2l C0 dL_law_727 rfl ?_
  refine j_bipush C0 32 dL_law_728 (by decide) rfl ?_
  refine j_lshl C0 dL_law_730 rfl ?_
  refine j_aload_n C0 3 dL_law_731 rfl rfl rfl ?_
  refine j_iload_n C0 0 dL_law_732 rfl rfl rfl ?_
  refine j_iconst C0 2 dL_law_733 (by decide) rfl ?_
  refine j_iadd C0 dL_law_734 rfl ?_
  refine j_sld C0 hX hbl hbA (i + 2) (nI_add i 2) (by omega) hL dL_law_735 rfl ?_
  refine j_i2l C0 dL_law_736 rfl ?_
  refine j_ldc2 C0 4294967295 dL_law_737 hlk_long rfl ?_
  refine j_land C0 dL_law_740 rfl ?_
  refine j_lor C0 dL_law_741 rfl ?_
  refine j_callVi C0 1 [.long (((xs (i + 1)).toInt64 <<< ((32 : Int32).toInt64 &&& 63)) ||| ((xs (i + 2)).toInt64 &&& 4294967295))] (c_X5_put (((xs (i + 1)).toInt64 <<< ((32 : Int32).toInt64 &&& 63)) ||| ((xs (i + 2)).toInt64 &&& 4294967295)) (op_put hI)) dL_law_742 gL_law_X5_put rfl (by decide +kernel) ⟨⟨Nat.le_of_ble_eq_true rfl, Nat.le_of_ble_eq_true rfl⟩, rfl, rfl⟩ (kd_lt (rfl : kd 0 = 5) (by decide)) (ce5 (rfl : kd 0 = 5)) rfl rfl rfl (Nat.le_of_ble_eq_true rfl) rfl (fun r1 μ1 hX1 => ?_)
  refine j_aload_n C0 1 dL_law_745 rfl rfl rfl ?_
  refine j_aload_n C0 3 dL_law_746 rfl rfl rfl ?_
  refine j_iload_n C0 0 dL_law_747 rfl rfl rfl ?_
  refine j_iconst C0 1 dL_law_748 (by decide) rfl ?_
  refine j_iadd C0 dL_law_749 rfl ?_
  refine j_sld C0 hX hbl hbA (i + 1) (nI_add i 1) (by omega) hL dL_law_750 rfl ?_
  refine j_i2l C0 dL_law_751 rfl ?_
  refine j_bipush C0 32 dL_law_752 (by decide) rfl ?_
  refine j_lshl C0 dL_law_754 rfl ?_
  refine j_aload_n C0 3 dL_law_755 rfl rfl rfl ?_
  refine j_iload_n C0 0 dL_law_756 rfl rfl rfl ?_
  refine j_iconst C0 2 dL_law_757 (by decide) rfl ?_
  refine j_iadd C0 dL_law_758 rfl ?_
  refine j_sld C0 hX hbl hbA (i + 2) (nI_add i 2) (by omega) hL dL_law_759 rfl ?_
  refine j_i2l C0 dL_law_760 rfl ?_
  refine j_ldc2 C0 4294967295 dL_law_761 hlk_long rfl ?_
  refine j_land C0 dL_law_764 rfl ?_
  refine j_lor C0 dL_law_765 rfl ?_
  refine j_callVi C0 1 [.long (((xs (i + 1)).toInt64 <<< ((32 : Int32).toInt64 &&& 63)) ||| ((xs (i + 2)).toInt64 &&& 4294967295))] (c_X6_put (((xs (i + 1)).toInt64 <<< ((32 : Int32).toInt64 &&& 63)) ||| ((xs (i + 2)).toInt64 &&& 4294967295)) hX1) dL_law_766 gL_law_X6_put rfl (by decide +kernel) ⟨⟨Nat.le_of_ble_eq_true rfl, Nat.le_of_ble_eq_true rfl⟩, rfl, rfl⟩ (kd_lt (rfl : kd 168 = 6) (by decide)) (ce6 (rfl : kd 168 = 6)) rfl rfl rfl (Nat.le_of_ble_eq_true rfl) rfl (fun r2 μ2 hX2 => ?_)
  exact j_icmp_eq C0 (tgt := 859) dL_law_769 (by decide) rfl (fun _ => kk _ hX2.2.dn) (fun w => absurd hX2.1 w)
theorem law_20 {p : Program} {l : Launch} {e : Env} {s : State} {m : MethodId} {below : List Frame} {meth : Method} {c : Code} {D : va_G} {Y : Nat → ClassId} {ad : Nat → Nat} {bs L : Nat} {xs : Nat → Int32} (C0 : CX D Y ad (AB s.heap.size) room_1 177 3871 p s #[Value.ref bs] m c code 4 RL wsL_law) (hX : va_X bs L xs s s.heap) (hbl : bs < s.heap.size) (hL : L ≤ 2048) {i ct : Nat} {μ : Mem} (hi : i + 4 ≤ L) (hI : Inv (ct + 1) μ) (kk : ∀ μ2, Inv ct μ2 → J p l e room_1 s m #[Value.ref bs] below meth c D Y ad (AB s.heap.size) 177 3871 4 (lw_Z below #[Value.ref bs] s) 859 [(3, .int (nI (i))), (2, .ref (ad 168)), (1, .ref (ad 0)), (0, .ref bs)] [] μ2) : J p l e room_1 s m #[Value.ref bs] below meth c D Y ad (AB s.heap.size) 177 3871 4 (lw_Z below #[Value.ref bs] s) 774 [(3, .int (nI (i))), (2, .ref (ad 168)), (1, .ref (ad 0)), (0, .ref bs)] [] μ := by
  have hbA : ¬ AB s.heap.size bs := by unfold AB; omega
  refine j_aload_n C0 2 dL_law_774 rfl rfl rfl ?_
  refine j_callVi C0 0 [] (c_X5_wipe  (op_wipe hI)) dL_law_775 gL_law_X5_wipe rfl (by decide +kernel) ⟨⟨Nat.le_of_ble_eq_true rfl, Nat.le_of_ble_eq_true rfl⟩, rfl, rfl⟩ (kd_lt (rfl : kd 0 = 5) (by decide)) (ce5 (rfl : kd 0 = 5)) rfl rfl rfl (Nat.le_of_ble_eq_true rfl) rfl (fun r1 μ1 hX1 => ?_)
  refine j_aload_n C0 1 dL_law_778 rfl rfl rfl ?_
  refine j_callVi C0 0 [] (c_X6_wipe  hX1) dL_law_779 gL_law_X6_wipe rfl (by decide +kernel) ⟨⟨Nat.le_of_ble_eq_true rfl, Nat.le_of_ble_eq_true rfl⟩, rfl, rfl⟩ (kd_lt (rfl : kd 168 = 6) (by decide)) (ce6 (rfl : kd 168 = 6)) rfl rfl rfl (Nat.le_of_ble_eq_true rfl) rfl (fun r2 μ2 hX2 => ?_)
  exact j_icmp_eq C0 (tgt := 859) dL_law_782 (by decide) rfl (fun _ => kk _ hX2.2.dn) (fun w => absurd hX2.1 w)
theorem law_21 {p : Program} {l : Launch} {e : Env} {s : State} {m : MethodId} {below : List Frame} {meth : Method} {c : Code} {D : va_G} {Y : Nat → ClassId} {ad : Nat → Nat} {bs L : Nat} {xs : Nat → Int32} (C0 : CX D Y ad (AB s.heap.size) room_1 177 3871 p s #[Value.ref bs] m c code 4 RL wsL_law) (hX : va_X bs L xs s s.heap) (hbl : bs < s.heap.size) (hL : L ≤ 2048) {i ct : Nat} {μ : Mem} (hi : i + 4 ≤ L) (hI : Inv (ct + 1) μ) (kk : ∀ μ2, Inv ct μ2 → J p l e room_1 s m #[Value.ref bs] below meth c D Y ad (AB s.heap.size) 177 3871 4 (lw_Z below #[Value.ref bs] s) 859 [(3, .int (nI (i))), (2, .ref (ad 168)), (1, .ref (ad 0)), (0, .ref bs)] [] μ2) : J p l e room_1 s m #[Value.ref bs] below meth c D Y ad (AB s.heap.size) 177 3871 4 (lw_Z below #[Value.ref bs] s) 787 [(3, .int (nI (i))), (2, .ref (ad 168)), (1, .ref (ad 0)), (0, .ref bs)] [] μ := by
  have hbA : ¬ AB s.heap.size bs := by unfold AB; omega
  refine j_aload_n C0 2 dL_law_787 rfl rfl rfl ?_
  refine j_callVi C0 0 [] (c_X5_fault  (op_fault hI)) dL_law_788 gL_law_X5_fault rfl (by decide +kernel) ⟨⟨Nat.le_of_ble_eq_true rfl, Nat.le_of_ble_eq_true rfl⟩, rfl, rfl⟩ (kd_lt (rfl : kd 0 = 5) (by decide)) (ce5 (rfl : kd 0 = 5)) rfl rfl rfl (Nat.le_of_ble_eq_true rfl) rfl (fun r1 μ1 hX1 => ?_)
  refine j_aload_n C0 1 dL_law_791 rfl rfl rfl ?_
  refine j_callVi C0 0 [] (c_X6_fault  hX1) dL_law_792 gL_law_X6_fault rfl (by decide +kernel) ⟨⟨Nat.le_of_ble_eq_true rfl, Nat.le_of_ble_eq_true rfl⟩, rfl, rfl⟩ (kd_lt (rfl : kd 168 = 6) (by decide)) (ce6 (rfl : kd 168 = 6)) rfl rfl rfl (Nat.le_of_ble_eq_true rfl) rfl (fun r2 μ2 hX2 => ?_)
  exact j_icmp_eq C0 (tgt := 859) dL_law_795 (by decide) rfl (fun _ => kk _ hX2.2.dn) (fun w => absurd hX2.1 w)
theorem law_22 {p : Program} {l : Launch} {e : Env} {s : State} {m : MethodId} {below : List Frame} {meth : Method} {c : Code} {D : va_G} {Y : Nat → ClassId} {ad : Nat → Nat} {bs L : Nat} {xs : Nat → Int32} (C0 : CX D Y ad (AB s.heap.size) room_1 177 3871 p s #[Value.ref bs] m c code 4 RL wsL_law) (hX : va_X bs L xs s s.heap) (hbl : bs < s.heap.size) (hL : L ≤ 2048) {i ct : Nat} {μ : Mem} (hi : i + 4 ≤ L) (hI : Inv (ct + 1) μ) (kk : ∀ μ2, Inv ct μ2 → J p l e room_1 s m #[Value.ref bs] below meth c D Y ad (AB s.heap.size) 177 3871 4 (lw_Z below #[Value.ref bs] s) 859 [(3, .int (nI (i))), (2, .ref (ad 168)), (1, .ref (ad 0)), (0, .ref bs)] [] μ2) : J p l e room_1 s m #[Value.ref bs] below meth c D Y ad (AB s.heap.size) 177 3871 4 (lw_Z below #[Value.ref bs] s) 800 [(3, .int (nI (i))), (2, .ref (ad 168)), (1, .ref (ad 0)), (0, .ref bs)] [] μ := by
  have hbA : ¬ AB s.heap.size bs := by unfold AB; omega
  refine j_aload_n C0 2 dL_law_800 rfl rfl rfl ?_
  refine j_callVi C0 0 [] (c_X5_undo  (op_undo hI)) dL_law_801 gL_law_X5_undo rfl (by decide +kernel) ⟨⟨Nat.le_of_ble_eq_true rfl, Nat.le_of_ble_eq_true rfl⟩, rfl, rfl⟩ (kd_lt (rfl : kd 0 = 5) (by decide)) (ce5 (rfl : kd 0 = 5)) rfl rfl rfl (Nat.le_of_ble_eq_true rfl) rfl (fun r1 μ1 hX1 => ?_)
  refine j_aload_n C0 1 dL_law_804 rfl rfl rfl ?_
  refine j_callVi C0 0 [] (c_X6_undo  hX1) dL_law_805 gL_law_X6_undo rfl (by decide +kernel) ⟨⟨Nat.le_of_ble_eq_true rfl, Nat.le_of_ble_eq_true rfl⟩, rfl, rfl⟩ (kd_lt (rfl : kd 168 = 6) (by decide)) (ce6 (rfl : kd 168 = 6)) rfl rfl rfl (Nat.le_of_ble_eq_true rfl) rfl (fun r2 μ2 hX2 => ?_)
  exact j_icmp_eq C0 (tgt := 859) dL_law_808 (by decide) rfl (fun _ => kk _ hX2.2.dn) (fun w => absurd hX2.1 w)
theorem law_23 {p : Program} {l : Launch} {e : Env} {s : State} {m : MethodId} {below : List Frame} {meth : Method} {c : Code} {D : va_G} {Y : Nat → ClassId} {ad : Nat → Nat} {bs L : Nat} {xs : Nat → Int32} (C0 : CX D Y ad (AB s.heap.size) room_1 177 3871 p s #[Value.ref bs] m c code 4 RL wsL_law) (hX : va_X bs L xs s s.heap) (hbl : bs < s.heap.size) (hL : L ≤ 2048) {i ct : Nat} {μ : Mem} (hi : i + 4 ≤ L) (hI : Inv (ct + 1) μ) (kk : ∀ μ2, Inv ct μ2 → J p l e room_1 s m #[Value.ref bs] below meth c D Y ad (AB s.heap.size) 177 3871 4 (lw_Z below #[Value.ref bs] s) 859 [(3, .int (nI (i))), (2, .ref (ad 168)), (1, .ref (ad 0)), (0, .ref bs)] [] μ2) : J p l e room_1 s m #[Value.ref bs] below meth c D Y ad (AB s.heap.size) 177 3871 4 (lw_Z below #[Value.ref bs] s) 813 [(3, .int (nI (i))), (2, .ref (ad 168)), (1, .ref (ad 0)), (0, .ref bs)] [] μ := by
  have hbA : ¬ AB s.heap.size bs := by unfold AB; omega
  refine j_aload_n C0 2 dL_law_813 rfl rfl rfl ?_
  refine j_aload_n C0 3 dL_law_814 rfl rfl rfl ?_
  refine j_iload_n C0 0 dL_law_815 rfl rfl rfl ?_
  refine j_iconst C0 1 dL_law_816 (by decide) rfl ?_
  refine j_iadd C0 dL_law_817 rfl ?_
  refine j_sld C0 hX hbl hbA (i + 1) (nI_add i 1) (by omega) hL dL_law_818 rfl ?_
  refine j_callVi C0 1 [.int (xs (i + 1))] (c_X5_save (xs (i + 1)) (op_save hI)) dL_law_819 gL_law_X5_save rfl (by decide +kernel) ⟨⟨Nat.le_of_ble_eq_true rfl, Nat.le_of_ble_eq_true rfl⟩, rfl, rfl⟩ (kd_lt (rfl : kd 0 = 5) (by decide)) (ce5 (rfl : kd 0 = 5)) rfl rfl rfl (Nat.le_of_ble_eq_true rfl) rfl (fun r1 μ1 hX1 => ?_)
  refine j_aload_n C0 1 dL_law_822 rfl rfl rfl ?_
  refine j_aload_n C0 3 dL_law_823 rfl rfl rfl ?_
  refine j_iload_n C0 0 dL_law_824 rfl rfl rfl ?_
  refine j_iconst C0 1 dL_law_825 (by decide) rfl ?_
  refine j_iadd C0 dL_law_826 rfl ?_
  refine j_sld C0 hX hbl hbA (i + 1) (nI_add i 1) (by omega) hL dL_law_827 rfl ?_
  refine j_callVi C0 1 [.int (xs (i + 1))] (c_X6_save (xs (i + 1)) hX1) dL_law_828 gL_law_X6_save rfl (by decide +kernel) ⟨⟨Nat.le_of_ble_eq_true rfl, Nat.le_of_ble_eq_true rfl⟩, rfl, rfl⟩ (kd_lt (rfl : kd 168 = 6) (by decide)) (ce6 (rfl : kd 168 = 6)) rfl rfl rfl (Nat.le_of_ble_eq_true rfl) rfl (fun r2 μ2 hX2 => ?_)
  exact j_icmp_eq C0 (tgt := 859) dL_law_831 (by decide) rfl (fun _ => kk _ hX2.2.dn) (fun w => absurd hX2.1 w)
theorem law_24 {p : Program} {l : Launch} {e : Env} {s : State} {m : MethodId} {below : List Frame} {meth : Method} {c : Code} {D : va_G} {Y : Nat → ClassId} {ad : Nat → Nat} {bs L : Nat} {xs : Nat → Int32} (C0 : CX D Y ad (AB s.heap.size) room_1 177 3871 p s #[Value.ref bs] m c code 4 RL wsL_law) (hX : va_X bs L xs s s.heap) (hbl : bs < s.heap.size) (hL : L ≤ 2048) {i ct : Nat} {μ : Mem} (hi : i + 4 ≤ L) (hI : Inv (ct + 1) μ) (kk : ∀ μ2, Inv ct μ2 → J p l e room_1 s m #[Value.ref bs] below meth c D Y ad (AB s.heap.size) 177 3871 4 (lw_Z below #[Value.ref bs] s) 859 [(3, .int (nI (i))), (2, .ref (ad 168)), (1, .ref (ad 0)), (0, .ref bs)] [] μ2) : J p l e room_1 s m #[Value.ref bs] below meth c D Y ad (AB s.heap.size) 177 3871 4 (lw_Z below #[Value.ref bs] s) 836 [(3, .int (nI (i))), (2, .ref (ad 168)), (1, .ref (ad 0)), (0, .ref bs)] [] μ := by
  have hbA : ¬ AB s.heap.size bs := by unfold AB; omega
  refine j_aload_n C0 2 dL_law_836 rfl rfl rfl ?_
  refine j_aload_n C0 3 dL_law_837 rfl rfl rfl ?_
  refine j_iload_n C0 0 dL_law_838 rfl rfl rfl ?_
  refine j_iconst C0 1 dL_law_839 (by decide) rfl ?_
  refine j_iadd C0 dL_law_840 rfl ?_
  refine j_sld C0 hX hbl hbA (i + 1) (nI_add i 1) (by omega) hL dL_law_841 rfl ?_
  refine j_callVi C0 1 [.int (xs (i + 1))] (c_X5_restore (xs (i + 1)) (op_restore hI)) dL_law_842 gL_law_X5_restore rfl (by decide +kernel) ⟨⟨Nat.le_of_ble_eq_true rfl, Nat.le_of_ble_eq_true rfl⟩, rfl, rfl⟩ (kd_lt (rfl : kd 0 = 5) (by decide)) (ce5 (rfl : kd 0 = 5)) rfl rfl rfl (Nat.le_of_ble_eq_true rfl) rfl (fun r1 μ1 hX1 => ?_)
  refine j_aload_n C0 1 dL_law_845 rfl rfl rfl ?_
  refine j_aload_n C0 3 dL_law_846 rfl rfl rfl ?_
  refine j_iload_n C0 0 dL_law_847 rfl rfl rfl ?_
  refine j_iconst C0 1 dL_law_848 (by decide) rfl ?_
  refine j_iadd C0 dL_law_849 rfl ?_
  refine j_sld C0 hX hbl hbA (i + 1) (nI_add i 1) (by omega) hL dL_law_850 rfl ?_
  refine j_callVi C0 1 [.int (xs (i + 1))] (c_X6_restore (xs (i + 1)) hX1) dL_law_851 gL_law_X6_restore rfl (by decide +kernel) ⟨⟨Nat.le_of_ble_eq_true rfl, Nat.le_of_ble_eq_true rfl⟩, rfl, rfl⟩ (kd_lt (rfl : kd 168 = 6) (by decide)) (ce6 (rfl : kd 168 = 6)) rfl rfl rfl (Nat.le_of_ble_eq_true rfl) rfl (fun r2 μ2 hX2 => ?_)
  exact j_icmp_eq C0 (tgt := 859) dL_law_854 (by decide) rfl (fun _ => kk _ hX2.2) (fun w => absurd hX2.1 w)
theorem and31 (x : Int32) : ∃ n, n < 32 ∧ x &&& 31 = nI n := by
  have hu : UInt32.ofNat x.toUInt32.toNat = x.toUInt32 := UInt32.ofNat_toNat
  have hx : x = nI x.toUInt32.toNat := (congrArg UInt32.toInt32 hu).symm
  refine ⟨x.toUInt32.toNat &&& 31, ?_, ?_⟩
  · have := Nat.and_two_pow_sub_one_eq_mod x.toUInt32.toNat 5
    have h : x.toUInt32.toNat &&& 31 = x.toUInt32.toNat % 32 := this
    rw [h]
    omega
  · rw [← nI_and, ← hx]
    rfl
theorem law_sw {p : Program} {l : Launch} {e : Env} {s : State} {m : MethodId} {below : List Frame} {meth : Method} {c : Code} {D : va_G} {Y : Nat → ClassId} {ad : Nat → Nat} {bs L : Nat} {xs : Nat → Int32} (C0 : CX D Y ad (AB s.heap.size) room_1 177 3871 p s #[Value.ref bs] m c code 4 RL wsL_law) (hX : va_X bs L xs s s.heap) (hbl : bs < s.heap.size) (hL : L ≤ 2048) {i ct : Nat} {μ : Mem} (hi : i + 4 ≤ L) (hI : Inv (ct + 1) μ) (kk : ∀ μ2, Inv ct μ2 → J p l e room_1 s m #[Value.ref bs] below meth c D Y ad (AB s.heap.size) 177 3871 4 (lw_Z below #[Value.ref bs] s) 859 [(3, .int (nI (i))), (2, .ref (ad 168)), (1, .ref (ad 0)), (0, .ref bs)] [] μ2) {v : Int32} (hv : ∃ n, n < 32 ∧ v = nI n) : J p l e room_1 s m #[Value.ref bs] below meth c D Y ad (AB s.heap.size) 177 3871 4 (lw_Z below #[Value.ref bs] s) 32 [(3, .int (nI (i))), (2, .ref (ad 168)), (1, .ref (ad 0)), (0, .ref bs)] [.int v] μ := by
  obtain ⟨n, hn, rfl⟩ := hv
  rcases (by omega : n = 0 ∨ n = 1 ∨ n = 2 ∨ n = 3 ∨ n = 4 ∨ n = 5 ∨ n = 6 ∨ n = 7 ∨ n = 8 ∨ n = 9 ∨ n = 10 ∨ n = 11 ∨ n = 12 ∨ n = 13 ∨ n = 14 ∨ n = 15 ∨ n = 16 ∨ n = 17 ∨ n = 18 ∨ n = 19 ∨ n = 20 ∨ n = 21 ∨ n = 22 ∨ n = 23 ∨ n = 24 ∨ 25 ≤ n) with rfl | rfl | rfl | rfl | rfl | rfl | rfl | rfl | rfl | rfl | rfl | rfl | rfl | rfl | rfl | rfl | rfl | rfl | rfl | rfl | rfl | rfl | rfl | rfl | rfl | h
  · exact j_tableIn C0 (tgt := 148) dL_law_32 (by decide) (by decide) (off := 116) (by first | rfl | decide | decide +kernel) (by decide) (law_0 C0 hX hbl hL hi hI kk)
  · exact j_tableIn C0 (tgt := 171) dL_law_32 (by decide) (by decide) (off := 139) (by first | rfl | decide | decide +kernel) (by decide) (law_1 C0 hX hbl hL hi hI kk)
  · exact j_tableIn C0 (tgt := 214) dL_law_32 (by decide) (by decide) (off := 182) (by first | rfl | decide | decide +kernel) (by decide) (law_2 C0 hX hbl hL hi hI kk)
  · exact j_tableIn C0 (tgt := 247) dL_law_32 (by decide) (by decide) (off := 215) (by first | rfl | decide | decide +kernel) (by decide) (law_3 C0 hX hbl hL hi hI kk)
  · exact j_tableIn C0 (tgt := 280) dL_law_32 (by decide) (by decide) (off := 248) (by first | rfl | decide | decide +kernel) (by decide) (law_4 C0 hX hbl hL hi hI kk)
  · exact j_tableIn C0 (tgt := 313) dL_law_32 (by decide) (by decide) (off := 281) (by first | rfl | decide | decide +kernel) (by decide) (law_5 C0 hX hbl hL hi hI kk)
  · exact j_tableIn C0 (tgt := 362) dL_law_32 (by decide) (by decide) (off := 330) (by first | rfl | decide | decide +kernel) (by decide) (law_6 C0 hX hbl hL hi hI kk)
  · exact j_tableIn C0 (tgt := 395) dL_law_32 (by decide) (by decide) (off := 363) (by first | rfl | decide | decide +kernel) (by decide) (law_7 C0 hX hbl hL hi hI kk)
  · exact j_tableIn C0 (tgt := 438) dL_law_32 (by decide) (by decide) (off := 406) (by first | rfl | decide | decide +kernel) (by decide) (law_8 C0 hX hbl hL hi hI kk)
  · exact j_tableIn C0 (tgt := 461) dL_law_32 (by decide) (by decide) (off := 429) (by first | rfl | decide | decide +kernel) (by decide) (law_9 C0 hX hbl hL hi hI kk)
  · exact j_tableIn C0 (tgt := 474) dL_law_32 (by decide) (by decide) (off := 442) (by first | rfl | decide | decide +kernel) (by decide) (law_10 C0 hX hbl hL hi hI kk)
  · exact j_tableIn C0 (tgt := 507) dL_law_32 (by decide) (by decide) (off := 475) (by first | rfl | decide | decide +kernel) (by decide) (law_11 C0 hX hbl hL hi hI kk)
  · exact j_tableIn C0 (tgt := 540) dL_law_32 (by decide) (by decide) (off := 508) (by first | rfl | decide | decide +kernel) (by decide) (law_12 C0 hX hbl hL hi hI kk)
  · exact j_tableIn C0 (tgt := 563) dL_law_32 (by decide) (by decide) (off := 531) (by first | rfl | decide | decide +kernel) (by decide) (law_13 C0 hX hbl hL hi hI kk)
  · exact j_tableIn C0 (tgt := 596) dL_law_32 (by decide) (by decide) (off := 564) (by first | rfl | decide | decide +kernel) (by decide) (law_14 C0 hX hbl hL hi hI kk)
  · exact j_tableIn C0 (tgt := 619) dL_law_32 (by decide) (by decide) (off := 587) (by first | rfl | decide | decide +kernel) (by decide) (law_15 C0 hX hbl hL hi hI kk)
  · exact j_tableIn C0 (tgt := 652) dL_law_32 (by decide) (by decide) (off := 620) (by first | rfl | decide | decide +kernel) (by decide) (law_16 C0 hX hbl hL hi hI kk)
  · exact j_tableIn C0 (tgt := 665) dL_law_32 (by decide) (by decide) (off := 633) (by first | rfl | decide | decide +kernel) (by decide) (law_17 C0 hX hbl hL hi hI kk)
  · exact j_tableIn C0 (tgt := 698) dL_law_32 (by decide) (by decide) (off := 666) (by first | rfl | decide | decide +kernel) (by decide) (law_18 C0 hX hbl hL hi hI kk)
  · exact j_tableIn C0 (tgt := 721) dL_law_32 (by decide) (by decide) (off := 689) (by first | rfl | decide | decide +kernel) (by decide) (law_19 C0 hX hbl hL hi hI kk)
  · exact j_tableIn C0 (tgt := 774) dL_law_32 (by decide) (by decide) (off := 742) (by first | rfl | decide | decide +kernel) (by decide) (law_20 C0 hX hbl hL hi hI kk)
  · exact j_tableIn C0 (tgt := 787) dL_law_32 (by decide) (by decide) (off := 755) (by first | rfl | decide | decide +kernel) (by decide) (law_21 C0 hX hbl hL hi hI kk)
  · exact j_tableIn C0 (tgt := 800) dL_law_32 (by decide) (by decide) (off := 768) (by first | rfl | decide | decide +kernel) (by decide) (law_22 C0 hX hbl hL hi hI kk)
  · exact j_tableIn C0 (tgt := 813) dL_law_32 (by decide) (by decide) (off := 781) (by first | rfl | decide | decide +kernel) (by decide) (law_23 C0 hX hbl hL hi hI kk)
  · exact j_tableIn C0 (tgt := 836) dL_law_32 (by decide) (by decide) (off := 804) (by first | rfl | decide | decide +kernel) (by decide) (law_24 C0 hX hbl hL hi hI kk)
  · exact j_tableOut C0 (tgt := 859) dL_law_32 (Or.inr (by rw [nI_toInt (by omega)]; omega)) (by decide) (kk μ hI.dn)
theorem law_loop {p : Program} {l : Launch} {e : Env} {s : State} {m : MethodId} {below : List Frame} {meth : Method} {c : Code} {D : va_G} {Y : Nat → ClassId} {ad : Nat → Nat} {bs L : Nat} {xs : Nat → Int32} (C0 : CX D Y ad (AB s.heap.size) room_1 177 3871 p s #[Value.ref bs] m c code 4 RL wsL_law) (hX : va_X bs L xs s s.heap) (hbl : bs < s.heap.size) (hL : L ≤ 2048) (hr : meth.sig.returnType = ret) (hlk : meth.locks = false) : ∀ (k i : Nat) (μ : Mem), L ≤ i + 4 * k + 3 → i ≤ 4096 → Inv k μ → J p l e room_1 s m #[Value.ref bs] below meth c D Y ad (AB s.heap.size) 177 3871 4 (lw_Z below #[Value.ref bs] s) 18 [(3, .int (nI (i))), (2, .ref (ad 168)), (1, .ref (ad 0)), (0, .ref bs)] [] μ := by
  have hbA : ¬ AB s.heap.size bs := by unfold AB; omega
  have out : ∀ (i : Nat) (μ : Mem), J p l e room_1 s m #[Value.ref bs] below meth c D Y ad (AB s.heap.size) 177 3871 4 (lw_Z below #[Value.ref bs] s) 865 [(3, .int (nI (i))), (2, .ref (ad 168)), (1, .ref (ad 0)), (0, .ref bs)] [] μ := by
    intro i μ
    refine j_iconst C0 1 dL_law_865 (by decide) rfl ?_
    exact fun ls H locs hl hP hS => va_forget hS.2.2 (W.widen (by omega) (by omega) (lw_ret C0.1.1 C0.1.2.1 hr hlk dL_law_866))
  intro k
  induction k with
  | zero =>
    intro i μ hk hi hI
    refine j_iload_n C0 0 dL_law_18 rfl rfl rfl ?_
    refine j_aload_n C0 3 dL_law_19 rfl rfl rfl ?_
    refine j_slen C0 hX hbl hbA dL_law_20 rfl ?_
    refine j_iconst C0 4 dL_law_21 (by decide) rfl ?_
    refine j_isub C0 dL_law_22 rfl ?_
    refine j_icmp_gt C0 (tgt := 865) dL_law_23 (by decide) rfl (fun _ => out i μ) (fun z => absurd ?_ z)
    have h1 := pk_sub_toInt (a := L) (b := 4) (by omega) (by omega)
    have h2 := nI_toInt (n := i) (by omega)
    refine ii_lt.mpr ?_
    rw [h2]
    show (nI L - nI 4).toInt < _
    rw [h1]
    omega
  | succ k ih =>
    intro i μ hk hi hI
    refine j_iload_n C0 0 dL_law_18 rfl rfl rfl ?_
    refine j_aload_n C0 3 dL_law_19 rfl rfl rfl ?_
    refine j_slen C0 hX hbl hbA dL_law_20 rfl ?_
    refine j_iconst C0 4 dL_law_21 (by decide) rfl ?_
    refine j_isub C0 dL_law_22 rfl ?_
    refine j_icmp_gt C0 (tgt := 865) dL_law_23 (by decide) rfl (fun _ => out i μ) (fun z => ?_)
    have hi4 : i + 4 ≤ L := by
      rcases Nat.lt_or_ge L (i + 4) with w | w
      · refine absurd ?_ z
        have h1 := pk_sub_toInt (a := L) (b := 4) (by omega) (by omega)
        have h2 := nI_toInt (n := i) (by omega)
        refine ii_lt.mpr ?_
        rw [h2]
        show (nI L - nI 4).toInt < _
        rw [h1]
        omega
      · exact w
    refine j_aload_n C0 3 dL_law_26 rfl rfl rfl ?_
    refine j_iload_n C0 0 dL_law_27 rfl rfl rfl ?_
    refine j_sld C0 hX hbl hbA i rfl (by omega) hL dL_law_28 rfl ?_
    refine j_bipush C0 31 dL_law_29 (by decide) rfl ?_
    refine j_iand C0 dL_law_31 rfl ?_
    refine law_sw C0 hX hbl hL hi4 hI (fun μ2 hI2 => ?_) (and31 _)
    refine j_iinc C0 0 (nI (i + 4)) [(3, .int (nI (i + 4))), (2, .ref (ad 168)), (1, .ref (ad 0)), (0, .ref bs)] dL_law_859 rfl (nI_add i 4) (by decide) rfl rfl ?_
    refine j_goto C0 (tgt := 18) dL_law_862 (by decide) ?_
    exact ih (i + 4) μ2 (by omega) (by omega) hI2
