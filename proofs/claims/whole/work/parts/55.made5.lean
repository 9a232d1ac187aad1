/-! the reference is made -/
theorem g_toJ {p : Program} {l : Launch} {e : Env} {R : Room} {s : State} {m : MethodId} {args : Array Value} {below : List Frame} {meth : Method} {c : Code} {Q : State → Prop} {D : va_G} {Y : Nat → ClassId} {b : Nat} {kc ks nL : Nat} {pc : Nat} {lv : List (Nat × Value)} {st : List Value} {ad : Nat → Nat} {fw : Nat → va_E} {μ : Mem} (hk : ∀ q, q < 177 → Lk (fw q) (ce Y ad q (μ q))) (kk : adI ad → (∀ q, PA ad q → AB b q) → J p l e R s m args below meth c D Y ad (AB b) kc ks nL Q pc lv st μ) : G p l e R s m args below meth c D b kc ks nL Q pc lv st 177 ad fw := by
  intro ls H locs hl hP hD hS
  refine kk (fun i j hi hj hij => hD.1 i j _ _ (wgr_get hi) (wgr_get hj) hij) (fun q ⟨o, ho, hq⟩ => by rw [hq]; exact hD.2 o _ (wgr_get ho)) ls H locs hl (fun k q hk2 => ?_) hS
  obtain ⟨h1, rfl⟩ := ws1_inv hk2
  exact hk k h1 D vwCl (ad k) H (hP k _ (wgr_get h1))
theorem j_vretG {p : Program} {l : Launch} {e : Env} {R : Room} {s : State} {m : MethodId} {args : Array Value} {below : List Frame} {meth : Method} {c : Code} {D : va_G} {Y : Nat → ClassId} {b : Nat} {kc ks nL : Nat} {cc : ByteArray} {own : String} {Ts : List Cond} {pc : Nat} {lv : List (Nat × Value)} {ad : Nat → Nat} {μ : Mem} (C0 : CX D Y ad (AB b) R kc ks p s args m c cc nL own Ts) (hlocks : meth.locks = false) (hr : meth.sig.returnType = none) {Post : (Nat → Nat) → (Nat → va_E) → Prop} (hdg : decode cc pc = .ok (.return_, 1)) (hK : Post ad (fun q => ce Y ad q (μ q))) : J p l e R s m args below meth c D Y ad (AB b) kc ks nL (MQ below (QG D b 177 Post) args s kc ks (AB b)) pc lv [] μ := fun ls H locs hl hP hS => W.vret C0.1.1 C0.1.2.1 hr (fun t ht hW => ⟨⟨(ad, fun q => ce Y ad q (μ q)), rfl, hK, by show va_P _ _ _ _ ∧ _; rw [ht]; exact ⟨hP, ws1_D C0.2.2.2.1 C0.2.2.2.2.1⟩⟩, hS.F ht⟩) hS.2.2 hdg hlocks
def mstep (g : Nat → Int32) (i : Nat) : Nat → Int32 := upd (upd (upd g (6 + i) (nI i)) (22 + i) (if i < 8 then 2 * nI i else 30 - 2 * nI i)) (38 + i) (if i < 8 then 15 else 0)
def mtt : Nat → Nat → Int32
  | 0 => upd (upd (fun _ => 0) 0 400) 5 (-1)
  | i + 1 => mstep (mtt i) i
def mww : Nat → Nat → Int32
  | 0 => mtt 16
  | i + 1 => upd (upd (mww i) (70 + 16 * i + 1) 1024) (70 + 16 * i + 3) 8
def MR : Nat → Int32 := upd (mww 4) 74 1
abbrev rm_X6_init : Room := { frames := 1, cells := 8, slots := 1972, locals := 40 }
theorem fw_X6_init6 : ∀ w ∈ wsX60, w ∈ wsX6_init := by decide +kernel
theorem hw_X6_init_0 : Cond.fieldLink RX6 7 RX6 (TX6 0).2.1 (TX6 0).2.2.1 ∈ wsX6_init := by decide +kernel
def Post6 (Y : Nat → ClassId) (ad : Nat → Nat) (fw : Nat → va_E) : (Nat → Nat) → (Nat → va_E) → Prop := fun ad' fw' => ag 169 ad ad' ∧ fw' = fun q => ce Y ad' q (um MI 169 MR q)
theorem c_X6_init {l : Launch} {D : va_G} {Y : Nat → ClassId} {b : Nat} {ad : Nat → Nat} {fw : Nat → va_E} (hb : BK Y 168 0 168 ad fw) (hf : fw 168 = .inr (6, [.null, .null, .null, .null, .null, .null, .null, .null, .int 0, .int 0, .int 0, .int 0])) : ConG l yX6_init wsX6_init rm_X6_init [.ref (ad 168)] D Y b 169 ad fw 177 (Post6 Y ad fw) := by
  refine conG_of (cc := cX6_init) (maxL := 2) (own := RX6) [.ref (ad 168)] (by decide +kernel) rfl rfl (Nat.le_of_ble_eq_true rfl) (fun p e s m args below meth c C0 hlk hret hnm => ?_)
  obtain ⟨x, hx⟩ : ∃ x, x = ad 168 := ⟨_, rfl⟩
  show G p l e rm_X6_init s m args below meth c D b 0 0 2 _ 0 [(0, .ref (ad 168))] [] 169 ad fw
  rw [← hx]
  have l72 : ∀ (ad1 : Nat → Nat) (fw1 : Nat → va_E), ag 169 ad ad1 → (∀ q, q < 168 → fw1 q = fw q) → fw1 168 = .inr (6, [.ref (ad1 169), .ref (ad1 170), .ref (ad1 171), .ref (ad1 172), .ref (ad1 173), .ref (ad1 174), .ref (ad1 175), .ref (ad1 176), .int 0, .int 0, .int 0, .int 0]) → BK Y 177 169 177 ad1 fw1 → G p l e rm_X6_init s m args below meth c D b 8 1972 2 (MQ below (QG D b 177 (Post6 Y ad fw)) args s 8 1972 (AB b)) 72 [(0, .ref x)] [] 177 ad1 fw1 := by
    intro ad1 fw1 h1 h2 h3 h4
    have hx1 : x = ad1 168 := by rw [h1 168 (by omega), hx]
    refine g_toJ (Y := Y) (μ := MI) (fun q hq => ?_) (fun hAd hPA => ?_)
    · rcases Nat.lt_or_ge q 168 with w | w
      · rw [h2 q w]
        exact hb ad1 (fun r hr => h1 r (by omega)) q (by omega) w
      · rcases Nat.lt_or_ge 168 q with v | v
        · exact h4 ad1 (fun _ _ => rfl) q v hq
        · obtain rfl : q = 168 := by omega
          rw [h3, ce6 rfl]
          exact Lk.of rfl
    · rw [hx1]
      have CJ : CX D Y ad1 (AB b) rm_X6_init 8 1972 p s args m c cX6_init 2 RX6 wsX6_init := ⟨C0.1, C0.2.1, C0.2.2.1, hAd, hPA, Nat.le_refl _, Nat.le_refl _⟩
      have l200 : ∀ v : Int32, J p l e rm_X6_init s m args below meth c D Y ad1 (AB b) 8 1972 2 (MQ below (QG D b 177 (Post6 Y ad fw)) args s 8 1972 (AB b)) 200 [(1, .int v), (0, .ref (ad1 168))] [] (um MI 169 (mww 4)) := by
        intro v
        refine j_aload_n CJ 1 dX6_init_200 rfl rfl rfl ?_
        refine j_get6 CJ (v := .ref (ad1 169)) 0 (rfl : kd 168 = 6) fw_X6_init6 hw_X6_init_0 (fun _ h9 => h9) (by decide) rfl dX6_init_201 rfl ?_
        refine j_bipush CJ 74 dX6_init_204 (by decide) rfl ?_
        refine j_iconst CJ 1 dX6_init_206 (by decide) rfl ?_
        refine j_iast CJ (n := 166) (kd_lt (rfl : kd 169 = 18) (by decide)) (ce18 (rfl : kd 169 = 18)) (vp_lit (by decide)) dX6_init_207 rfl ?_
        refine j_nm (fun μ2 e2 => ?_)
        rw [um_um, um_s] at e2
        subst e2
        exact j_vretG CJ hlk hret dX6_init_208 ⟨h1, rfl⟩
      have l162 : ∀ (k i : Nat), i + k = 4 → J p l e rm_X6_init s m args below meth c D Y ad1 (AB b) 8 1972 2 (MQ below (QG D b 177 (Post6 Y ad fw)) args s 8 1972 (AB b)) 162 [(1, .int (nI i)), (0, .ref (ad1 168))] [] (um MI 169 (mww i)) := by
        intro k
        induction k with
        | zero =>
          intro i hi
          obtain rfl : i = 4 := by omega
          refine j_iload_n CJ 0 dX6_init_162 rfl rfl rfl ?_
          refine j_iconst CJ 4 dX6_init_163 (by decide) rfl ?_
          exact j_icmp_ge CJ (tgt := 200) dX6_init_164 (by decide) rfl (fun _ => l200 _) (fun z => absurd (by decide) z)
        | succ k ih =>
          intro i hi
          refine j_iload_n CJ 0 dX6_init_162 rfl rfl rfl ?_
          refine j_iconst CJ 4 dX6_init_163 (by decide) rfl ?_
          refine j_icmp_ge CJ (tgt := 200) dX6_init_164 (by decide) rfl (fun z => absurd z (nI_ge (a := i) (b := 4) (by omega) (by omega))) (fun _ => ?_)
          refine j_aload_n CJ 1 dX6_init_167 rfl rfl rfl ?_
          refine j_get6 CJ (v := .ref (ad1 169)) 0 (rfl : kd 168 = 6) fw_X6_init6 hw_X6_init_0 (fun _ h9 => h9) (by decide) rfl dX6_init_168 rfl ?_
          refine j_iload_n CJ 0 dX6_init_171 rfl rfl rfl ?_
          refine j_callSi CJ 1 [.int (nI i)] (c_X6_w (K := fun r μ' => r = nI (70 + 16 * i) ∧ μ' = um MI 169 (mww i)) (nI i) (q6_w ⟨rfl, rfl⟩)) dX6_init_172 gX6_init_X6_w rfl (by decide +kernel) ⟨⟨Nat.le_of_ble_eq_true rfl, Nat.le_of_ble_eq_true rfl⟩, rfl, rfl⟩ rfl rfl (Nat.le_of_ble_eq_true rfl) rfl (fun r2 μ1 hX => ?_)
          obtain ⟨rfl, rfl⟩ := hX
          refine j_iconst CJ 1 dX6_init_175 (by decide) rfl ?_
          refine j_iadd CJ dX6_init_176 rfl ?_
          refine j_sipush CJ 1024 dX6_init_177 (by decide) rfl ?_
          rw [nI_1]
          refine j_iast CJ (n := 166) (kd_lt (rfl : kd 169 = 18) (by decide)) (ce18 (rfl : kd 169 = 18)) (vp_in_nI (by omega) (by omega)) dX6_init_180 rfl ?_
          refine j_nm (fun μ2 e2 => ?_)
          rw [um_um, um_s, nI_clamp (by omega)] at e2
          subst e2
          refine j_aload_n CJ 1 dX6_init_181 rfl rfl rfl ?_
          refine j_get6 CJ (v := .ref (ad1 169)) 0 (rfl : kd 168 = 6) fw_X6_init6 hw_X6_init_0 (fun _ h9 => h9) (by decide) rfl dX6_init_182 rfl ?_
          refine j_iload_n CJ 0 dX6_init_185 rfl rfl rfl ?_
          refine j_callSi CJ 1 [.int (nI i)] (c_X6_w (K := fun r μ' => r = nI (70 + 16 * i) ∧ μ' = um MI 169 (upd (mww i) (70 + 16 * i + 1) 1024)) (nI i) (q6_w ⟨rfl, rfl⟩)) dX6_init_186 gX6_init_X6_w rfl (by decide +kernel) ⟨⟨Nat.le_of_ble_eq_true rfl, Nat.le_of_ble_eq_true rfl⟩, rfl, rfl⟩ rfl rfl (Nat.le_of_ble_eq_true rfl) rfl (fun r2 μ1 hX => ?_)
          obtain ⟨rfl, rfl⟩ := hX
          refine j_iconst CJ 3 dX6_init_189 (by decide) rfl ?_
          refine j_iadd CJ dX6_init_190 rfl ?_
          refine j_bipush CJ 8 dX6_init_191 (by decide) rfl ?_
          rw [show nI (70 + 16 * i) + 3 = nI (70 + 16 * i + 3) from nI_add _ 3]
          refine j_iast CJ (n := 166) (kd_lt (rfl : kd 169 = 18) (by decide)) (ce18 (rfl : kd 169 = 18)) (vp_in_nI (by omega) (by omega)) dX6_init_193 rfl ?_
          refine j_nm (fun μ2 e2 => ?_)
          rw [um_um, um_s, nI_clamp (by omega)] at e2
          subst e2
          refine j_iinc CJ 0 (nI (i + 1)) [(1, .int (nI (i + 1))), (0, .ref (ad1 168))] dX6_init_194 rfl (nI_succ i).symm (by decide) rfl rfl ?_
          refine j_goto CJ (tgt := 162) dX6_init_197 (by decide) ?_
          exact ih (i + 1) (by omega)
      have l90 : ∀ (k i : Nat), i + k = 16 → J p l e rm_X6_init s m args below meth c D Y ad1 (AB b) 8 1972 2 (MQ below (QG D b 177 (Post6 Y ad fw)) args s 8 1972 (AB b)) 90 [(1, .int (nI i)), (0, .ref (ad1 168))] [] (um MI 169 (mtt i)) := by
        intro k
        induction k with
        | zero =>
          intro i hi
          obtain rfl : i = 16 := by omega
          refine j_iload_n CJ 0 dX6_init_90 rfl rfl rfl ?_
          refine j_bipush CJ 16 dX6_init_91 (by decide) rfl ?_
          refine j_icmp_ge CJ (tgt := 160) dX6_init_93 (by decide) rfl (fun _ => ?_) (fun z => absurd (by decide) z)
          refine j_iconst CJ 0 dX6_init_160 (by decide) rfl ?_
          refine j_istore_n CJ [(1, .int 0), (0, .ref (ad1 168))] dX6_init_161 rfl (by decide) rfl rfl ?_
          exact l162 4 0 (by omega)
        | succ k ih =>
          intro i hi
          refine j_iload_n CJ 0 dX6_init_90 rfl rfl rfl ?_
          refine j_bipush CJ 16 dX6_init_91 (by decide) rfl ?_
          refine j_icmp_ge CJ (tgt := 160) dX6_init_93 (by decide) rfl (fun z => absurd z (nI_ge (a := i) (b := 16) (by omega) (by omega))) (fun _ => ?_)
          refine j_aload_n CJ 1 dX6_init_96 rfl rfl rfl ?_
          refine j_get6 CJ (v := .ref (ad1 169)) 0 (rfl : kd 168 = 6) fw_X6_init6 hw_X6_init_0 (fun _ h9 => h9) (by decide) rfl dX6_init_97 rfl ?_
          refine j_bipush CJ 6 dX6_init_100 (by decide) rfl ?_
          refine j_iload_n CJ 0 dX6_init_102 rfl rfl rfl ?_
          refine j_iadd CJ dX6_init_103 rfl ?_
          refine j_iload_n CJ 0 dX6_init_104 rfl rfl rfl ?_
          rw [show (6 : Int32) + nI i = nI (6 + i) from nI_add 6 i]
          refine j_iast CJ (n := 166) (kd_lt (rfl : kd 169 = 18) (by decide)) (ce18 (rfl : kd 169 = 18)) (vp_in_nI (by omega) (by omega)) dX6_init_105 rfl ?_
          refine j_nm (fun μ2 e2 => ?_)
          rw [um_um, um_s, nI_clamp (by omega)] at e2
          subst e2
          refine j_aload_n CJ 1 dX6_init_106 rfl rfl rfl ?_
          refine j_get6 CJ (v := .ref (ad1 169)) 0 (rfl : kd 168 = 6) fw_X6_init6 hw_X6_init_0 (fun _ h9 => h9) (by decide) rfl dX6_init_107 rfl ?_
          refine j_bipush CJ 22 dX6_init_110 (by decide) rfl ?_
          refine j_iload_n CJ 0 dX6_init_112 rfl rfl rfl ?_
          refine j_iadd CJ dX6_init_113 rfl ?_
          refine j_iload_n CJ 0 dX6_init_114 rfl rfl rfl ?_
          refine j_bipush CJ 8 dX6_init_115 (by decide) rfl ?_
          rw [show (22 : Int32) + nI i = nI (22 + i) from nI_add 22 i]
          have l132 : ∀ y : Int32, y = (if i < 8 then 2 * nI i else 30 - 2 * nI i) → J p l e rm_X6_init s m args below meth c D Y ad1 (AB b) 8 1972 2 (MQ below (QG D b 177 (Post6 Y ad fw)) args s 8 1972 (AB b)) 132 [(1, .int (nI i)), (0, .ref (ad1 168))] [.int y, .int (nI (22 + i)), .ref (ad1 169)] (um MI 169 (upd (mtt i) (6 + i) (nI i))) := by
            intro y hy
            refine j_iast CJ (n := 166) (kd_lt (rfl : kd 169 = 18) (by decide)) (ce18 (rfl : kd 169 = 18)) (vp_in_nI (by omega) (by omega)) dX6_init_132 rfl ?_
            refine j_nm (fun μ2 e2 => ?_)
            rw [um_um, um_s, nI_clamp (by omega)] at e2
            subst e2
            refine j_aload_n CJ 1 dX6_init_133 rfl rfl rfl ?_
            refine j_get6 CJ (v := .ref (ad1 169)) 0 (rfl : kd 168 = 6) fw_X6_init6 hw_X6_init_0 (fun _ h9 => h9) (by decide) rfl dX6_init_134 rfl ?_
            refine j_bipush CJ 38 dX6_init_137 (by decide) rfl ?_
            refine j_iload_n CJ 0 dX6_init_139 rfl rfl rfl ?_
            refine j_iadd CJ dX6_init_140 rfl ?_
            refine j_iload_n CJ 0 dX6_init_141 rfl rfl rfl ?_
            refine j_bipush CJ 8 dX6_init_142 (by decide) rfl ?_
            rw [show (38 : Int32) + nI i = nI (38 + i) from nI_add 38 i]
            have l153 : ∀ w : Int32, w = (if i < 8 then 15 else 0) → J p l e rm_X6_init s m args below meth c D Y ad1 (AB b) 8 1972 2 (MQ below (QG D b 177 (Post6 Y ad fw)) args s 8 1972 (AB b)) 153 [(1, .int (nI i)), (0, .ref (ad1 168))] [.int w, .int (nI (38 + i)), .ref (ad1 169)] (um MI 169 (upd (upd (mtt i) (6 + i) (nI i)) (22 + i) y)) := by
              intro w hw
              refine j_iast CJ (n := 166) (kd_lt (rfl : kd 169 = 18) (by decide)) (ce18 (rfl : kd 169 = 18)) (vp_in_nI (by omega) (by omega)) dX6_init_153 rfl ?_
              refine j_nm (fun μ2 e2 => ?_)
              rw [um_um, um_s, nI_clamp (by omega), hy, hw] at e2
              subst e2
              refine j_iinc CJ 0 (nI (i + 1)) [(1, .int (nI (i + 1))), (0, .ref (ad1 168))] dX6_init_154 rfl (nI_succ i).symm (by decide) rfl rfl ?_
              refine j_goto CJ (tgt := 90) dX6_init_157 (by decide) ?_
              exact ih (i + 1) (by omega)
            refine j_icmp_ge CJ (tgt := 152) dX6_init_144 (by decide) rfl (fun z => ?_) (fun z => ?_)
            · refine j_iconst CJ 0 dX6_init_152 (by decide) rfl ?_
              exact l153 0 (if_neg (fun h => absurd z (nI_ge (a := i) (b := 8) h (by omega)))).symm
            · refine j_bipush CJ 15 dX6_init_147 (by decide) rfl ?_
              refine j_goto CJ (tgt := 153) dX6_init_149 (by decide) ?_
              refine l153 15 (if_pos ?_).symm
              rcases Nat.lt_or_ge i 8 with w | w
              · exact w
              · exact absurd (nI_le (a := 8) (b := i) w (by omega)) z
          refine j_icmp_ge CJ (tgt := 126) dX6_init_117 (by decide) rfl (fun z => ?_) (fun z => ?_)
          · refine j_bipush CJ 30 dX6_init_126 (by decide) rfl ?_
            refine j_iconst CJ 2 dX6_init_128 (by decide) rfl ?_
            refine j_iload_n CJ 0 dX6_init_129 rfl rfl rfl ?_
            refine j_imul CJ dX6_init_130 rfl ?_
            refine j_isub CJ dX6_init_131 rfl ?_
            exact l132 _ (if_neg (fun h => absurd z (nI_ge (a := i) (b := 8) h (by omega)))).symm
          · refine j_iconst CJ 2 dX6_init_120 (by decide) rfl ?_
            refine j_iload_n CJ 0 dX6_init_121 rfl rfl rfl ?_
            refine j_imul CJ dX6_init_122 rfl ?_
            refine j_goto CJ (tgt := 132) dX6_init_123 (by decide) ?_
            refine l132 _ (if_pos ?_).symm
            rcases Nat.lt_or_ge i 8 with w | w
            · exact w
            · exact absurd (nI_le (a := 8) (b := i) w (by omega)) z
      refine j_aload_n CJ 0 dX6_init_72 rfl rfl rfl ?_
      refine j_get6 CJ (v := .ref (ad1 169)) 0 (rfl : kd 168 = 6) fw_X6_init6 hw_X6_init_0 (fun _ h9 => h9) (by decide) rfl dX6_init_73 rfl ?_
      refine j_iconst CJ 0 dX6_init_76 (by decide) rfl ?_
      refine j_sipush CJ 400 dX6_init_77 (by decide) rfl ?_
      refine j_iast CJ (n := 166) (kd_lt (rfl : kd 169 = 18) (by decide)) (ce18 (rfl : kd 169 = 18)) (vp_lit (by decide)) dX6_init_80 rfl ?_
      refine j_nm (fun μ2 e2 => ?_)
      have e2 : μ2 = um MI 169 (upd (fun _ => 0) 0 400) := e2
      subst e2
      refine j_aload_n CJ 0 dX6_init_81 rfl rfl rfl ?_
      refine j_get6 CJ (v := .ref (ad1 169)) 0 (rfl : kd 168 = 6) fw_X6_init6 hw_X6_init_0 (fun _ h9 => h9) (by decide) rfl dX6_init_82 rfl ?_
      refine j_iconst CJ 5 dX6_init_85 (by decide) rfl ?_
      refine j_iconst CJ (-1) dX6_init_86 (by decide) rfl ?_
      refine j_iast CJ (n := 166) (kd_lt (rfl : kd 169 = 18) (by decide)) (ce18 (rfl : kd 169 = 18)) (vp_lit (by decide)) dX6_init_87 rfl ?_
      refine j_nm (fun μ2 e2 => ?_)
      rw [um_um, um_s] at e2
      have e2 : μ2 = um MI 169 (mtt 0) := e2
      subst e2
      refine j_iconst CJ 0 dX6_init_88 (by decide) rfl ?_
      refine j_istore_n CJ [(1, .int 0), (0, .ref (ad1 168))] dX6_init_89 rfl (by decide) rfl rfl ?_
      exact l90 16 0 (by omega)
  have l64 : ∀ (ad1 : Nat → Nat) (fw1 : Nat → va_E), ag 169 ad ad1 → (∀ q, q < 168 → fw1 q = fw q) → fw1 168 = .inr (6, [.ref (ad1 169), .ref (ad1 170), .ref (ad1 171), .ref (ad1 172), .ref (ad1 173), .ref (ad1 174), .ref (ad1 175), .null, .int 0, .int 0, .int 0, .int 0]) → BK Y 176 169 176 ad1 fw1 → G p l e rm_X6_init s m args below meth c D b 7 1912 2 (MQ below (QG D b 177 (Post6 Y ad fw)) args s 8 1972 (AB b)) 64 [(0, .ref x)] [] 176 ad1 fw1 := by
    intro ad1 fw1 h1 h2 h3 h4
    have hxa : ad1 168 = x := by rw [h1 168 (by omega), hx]
    refine g_aload_n C0 0 dX6_init_64 rfl rfl rfl ?_
    refine g_bipush C0 60 dX6_init_65 (by decide) rfl ?_
    refine g_newa C0 (atype := .char) (ty := .char) 60 0 rfl (by decide +kernel) rfl (fun cA => rfl) (by decide) (by decide) (by decide) ⟨Nat.le_of_ble_eq_true rfl, Nat.le_of_ble_eq_true rfl⟩ dX6_init_67 rfl (fun q1 => ?_)
    refine g_put C0 (o := 168) (ci := 6) (C := RX6) (T := TX6) (N := 12) (Ft := tyX6) (ref := RX6) 7 (v := .ref q1) (ty := .array .char) (by omega) ((vu_n (by omega)).trans hxa) ((vu_n (by omega)).trans h3) rfl fw_X6_init6 tyX6_ok nmX6 (by decide) (by decide +kernel) (fun _ h9 => h9) (Or.inr ⟨rfl, hnm, rfl⟩) (by decide +kernel) rfl rfl (Nat.le_of_ble_eq_true rfl) dX6_init_69 rfl ?_
    refine l72 _ _ (fun r hr => (vu_n (by omega)).trans (h1 r hr)) (fun q hq => ?_) ?_ ?_
    · rw [vu_n (by omega), vu_n (by omega)]; exact h2 q hq
    · rw [vu_s, vu_n (by omega : 169 ≠ 176), vu_n (by omega : 170 ≠ 176), vu_n (by omega : 171 ≠ 176), vu_n (by omega : 172 ≠ 176), vu_n (by omega : 173 ≠ 176), vu_n (by omega : 174 ≠ 176), vu_n (by omega : 175 ≠ 176), vu_s]
      rfl
    · refine BK.ap (mi := 176) (h4.mv (by omega) (fun r hr => vu_n (by omega)) (fun q q1 q2 => ?_)) (fun adF hF q q1 q2 => ?_)
      · rw [vu_n (by omega), vu_n (by omega)]
      · obtain rfl : q = 176 := by omega
        rw [vu_n (by omega), vu_s, ce17 rfl]
        exact Lk.of rfl
  have l56 : ∀ (ad1 : Nat → Nat) (fw1 : Nat → va_E), ag 169 ad ad1 → (∀ q, q < 168 → fw1 q = fw q) → fw1 168 = .inr (6, [.ref (ad1 169), .ref (ad1 170), .ref (ad1 171), .ref (ad1 172), .ref (ad1 173), .ref (ad1 174), .null, .null, .int 0, .int 0, .int 0, .int 0]) → BK Y 175 169 175 ad1 fw1 → G p l e rm_X6_init s m args below meth c D b 6 1828 2 (MQ below (QG D b 177 (Post6 Y ad fw)) args s 8 1972 (AB b)) 56 [(0, .ref x)] [] 175 ad1 fw1 := by
    intro ad1 fw1 h1 h2 h3 h4
    have hxa : ad1 168 = x := by rw [h1 168 (by omega), hx]
    refine g_aload_n C0 0 dX6_init_56 rfl rfl rfl ?_
    refine g_bipush C0 84 dX6_init_57 (by decide) rfl ?_
    refine g_newa C0 (atype := .int) (ty := .int) 84 1 rfl (by decide +kernel) rfl (fun cA => rfl) (by decide) (by decide) (by decide) ⟨Nat.le_of_ble_eq_true rfl, Nat.le_of_ble_eq_true rfl⟩ dX6_init_59 rfl (fun q1 => ?_)
    refine g_put C0 (o := 168) (ci := 6) (C := RX6) (T := TX6) (N := 12) (Ft := tyX6) (ref := RX6) 6 (v := .ref q1) (ty := .array .int) (by omega) ((vu_n (by omega)).trans hxa) ((vu_n (by omega)).trans h3) rfl fw_X6_init6 tyX6_ok nmX6 (by decide) (by decide +kernel) (fun _ h9 => h9) (Or.inr ⟨rfl, hnm, rfl⟩) (by decide +kernel) rfl rfl (Nat.le_of_ble_eq_true rfl) dX6_init_61 rfl ?_
    refine l64 _ _ (fun r hr => (vu_n (by omega)).trans (h1 r hr)) (fun q hq => ?_) ?_ ?_
    · rw [vu_n (by omega), vu_n (by omega)]; exact h2 q hq
    · rw [vu_s, vu_n (by omega : 169 ≠ 175), vu_n (by omega : 170 ≠ 175), vu_n (by omega : 171 ≠ 175), vu_n (by omega : 172 ≠ 175), vu_n (by omega : 173 ≠ 175), vu_n (by omega : 174 ≠ 175), vu_s]
      rfl
    · refine BK.ap (mi := 175) (h4.mv (by omega) (fun r hr => vu_n (by omega)) (fun q q1 q2 => ?_)) (fun adF hF q q1 q2 => ?_)
      · rw [vu_n (by omega), vu_n (by omega)]
      · obtain rfl : q = 175 := by omega
        rw [vu_n (by omega), vu_s, ce21 rfl]
        exact Lk.of rfl
  have l49 : ∀ (ad1 : Nat → Nat) (fw1 : Nat → va_E), ag 169 ad ad1 → (∀ q, q < 168 → fw1 q = fw q) → fw1 168 = .inr (6, [.ref (ad1 169), .ref (ad1 170), .ref (ad1 171), .ref (ad1 172), .ref (ad1 173), .null, .null, .null, .int 0, .int 0, .int 0, .int 0]) → BK Y 174 169 174 ad1 fw1 → G p l e rm_X6_init s m args below meth c D b 5 1826 2 (MQ below (QG D b 177 (Post6 Y ad fw)) args s 8 1972 (AB b)) 49 [(0, .ref x)] [] 174 ad1 fw1 := by
    intro ad1 fw1 h1 h2 h3 h4
    have hxa : ad1 168 = x := by rw [h1 168 (by omega), hx]
    refine g_aload_n C0 0 dX6_init_49 rfl rfl rfl ?_
    refine g_iconst C0 2 dX6_init_50 (by decide) rfl ?_
    refine g_newa C0 (atype := .boolean) (ty := .boolean) 2 2 rfl (by decide +kernel) rfl (fun cA => rfl) (by decide) (by decide) (by decide) ⟨Nat.le_of_ble_eq_true rfl, Nat.le_of_ble_eq_true rfl⟩ dX6_init_51 rfl (fun q1 => ?_)
    refine g_put C0 (o := 168) (ci := 6) (C := RX6) (T := TX6) (N := 12) (Ft := tyX6) (ref := RX6) 5 (v := .ref q1) (ty := .array .boolean) (by omega) ((vu_n (by omega)).trans hxa) ((vu_n (by omega)).trans h3) rfl fw_X6_init6 tyX6_ok nmX6 (by decide) (by decide +kernel) (fun _ h9 => h9) (Or.inr ⟨rfl, hnm, rfl⟩) (by decide +kernel) rfl rfl (Nat.le_of_ble_eq_true rfl) dX6_init_53 rfl ?_
    refine l56 _ _ (fun r hr => (vu_n (by omega)).trans (h1 r hr)) (fun q hq => ?_) ?_ ?_
    · rw [vu_n (by omega), vu_n (by omega)]; exact h2 q hq
    · rw [vu_s, vu_n (by omega : 169 ≠ 174), vu_n (by omega : 170 ≠ 174), vu_n (by omega : 171 ≠ 174), vu_n (by omega : 172 ≠ 174), vu_n (by omega : 173 ≠ 174), vu_s]
      rfl
    · refine BK.ap (mi := 174) (h4.mv (by omega) (fun r hr => vu_n (by omega)) (fun q q1 q2 => ?_)) (fun adF hF q q1 q2 => ?_)
      · rw [vu_n (by omega), vu_n (by omega)]
      · obtain rfl : q = 174 := by omega
        rw [vu_n (by omega), vu_s, ce16 rfl]
        exact Lk.of rfl
  have l40 : ∀ (ad1 : Nat → Nat) (fw1 : Nat → va_E), ag 169 ad ad1 → (∀ q, q < 168 → fw1 q = fw q) → fw1 168 = .inr (6, [.ref (ad1 169), .ref (ad1 170), .ref (ad1 171), .ref (ad1 172), .null, .null, .null, .null, .int 0, .int 0, .int 0, .int 0]) → BK Y 173 169 173 ad1 fw1 → G p l e rm_X6_init s m args below meth c D b 4 1494 2 (MQ below (QG D b 177 (Post6 Y ad fw)) args s 8 1972 (AB b)) 40 [(0, .ref x)] [] 173 ad1 fw1 := by
    intro ad1 fw1 h1 h2 h3 h4
    have hxa : ad1 168 = x := by rw [h1 168 (by omega), hx]
    refine g_aload_n C0 0 dX6_init_40 rfl rfl rfl ?_
    refine g_sipush C0 332 dX6_init_41 (by decide) rfl ?_
    refine g_newa C0 (atype := .int) (ty := .int) 332 1 rfl (by decide +kernel) rfl (fun cA => rfl) (by decide) (by decide) (by decide) ⟨Nat.le_of_ble_eq_true rfl, Nat.le_of_ble_eq_true rfl⟩ dX6_init_44 rfl (fun q1 => ?_)
    refine g_put C0 (o := 168) (ci := 6) (C := RX6) (T := TX6) (N := 12) (Ft := tyX6) (ref := RX6) 4 (v := .ref q1) (ty := .array .int) (by omega) ((vu_n (by omega)).trans hxa) ((vu_n (by omega)).trans h3) rfl fw_X6_init6 tyX6_ok nmX6 (by decide) (by decide +kernel) (fun _ h9 => h9) (Or.inr ⟨rfl, hnm, rfl⟩) (by decide +kernel) rfl rfl (Nat.le_of_ble_eq_true rfl) dX6_init_46 rfl ?_
    refine l49 _ _ (fun r hr => (vu_n (by omega)).trans (h1 r hr)) (fun q hq => ?_) ?_ ?_
    · rw [vu_n (by omega), vu_n (by omega)]; exact h2 q hq
    · rw [vu_s, vu_n (by omega : 169 ≠ 173), vu_n (by omega : 170 ≠ 173), vu_n (by omega : 171 ≠ 173), vu_n (by omega : 172 ≠ 173), vu_s]
      rfl
    · refine BK.ap (mi := 173) (h4.mv (by omega) (fun r hr => vu_n (by omega)) (fun q q1 q2 => ?_)) (fun adF hF q q1 q2 => ?_)
      · rw [vu_n (by omega), vu_n (by omega)]
      · obtain rfl : q = 173 := by omega
        rw [vu_n (by omega), vu_s, ce20 rfl]
        exact Lk.of rfl
  have l31 : ∀ (ad1 : Nat → Nat) (fw1 : Nat → va_E), ag 169 ad ad1 → (∀ q, q < 168 → fw1 q = fw q) → fw1 168 = .inr (6, [.ref (ad1 169), .ref (ad1 170), .ref (ad1 171), .null, .null, .null, .null, .null, .int 0, .int 0, .int 0, .int 0]) → BK Y 172 169 172 ad1 fw1 → G p l e rm_X6_init s m args below meth c D b 3 498 2 (MQ below (QG D b 177 (Post6 Y ad fw)) args s 8 1972 (AB b)) 31 [(0, .ref x)] [] 172 ad1 fw1 := by
    intro ad1 fw1 h1 h2 h3 h4
    have hxa : ad1 168 = x := by rw [h1 168 (by omega), hx]
    refine g_aload_n C0 0 dX6_init_31 rfl rfl rfl ?_
    refine g_sipush C0 996 dX6_init_32 (by decide) rfl ?_
    refine g_newa C0 (atype := .int) (ty := .int) 996 1 rfl (by decide +kernel) rfl (fun cA => rfl) (by decide) (by decide) (by decide) ⟨Nat.le_of_ble_eq_true rfl, Nat.le_of_ble_eq_true rfl⟩ dX6_init_35 rfl (fun q1 => ?_)
    refine g_put C0 (o := 168) (ci := 6) (C := RX6) (T := TX6) (N := 12) (Ft := tyX6) (ref := RX6) 3 (v := .ref q1) (ty := .array .int) (by omega) ((vu_n (by omega)).trans hxa) ((vu_n (by omega)).trans h3) rfl fw_X6_init6 tyX6_ok nmX6 (by decide) (by decide +kernel) (fun _ h9 => h9) (Or.inr ⟨rfl, hnm, rfl⟩) (by decide +kernel) rfl rfl (Nat.le_of_ble_eq_true rfl) dX6_init_37 rfl ?_
    refine l40 _ _ (fun r hr => (vu_n (by omega)).trans (h1 r hr)) (fun q hq => ?_) ?_ ?_
    · rw [vu_n (by omega), vu_n (by omega)]; exact h2 q hq
    · rw [vu_s, vu_n (by omega : 169 ≠ 172), vu_n (by omega : 170 ≠ 172), vu_n (by omega : 171 ≠ 172), vu_s]
      rfl
    · refine BK.ap (mi := 172) (h4.mv (by omega) (fun r hr => vu_n (by omega)) (fun q q1 q2 => ?_)) (fun adF hF q q1 q2 => ?_)
      · rw [vu_n (by omega), vu_n (by omega)]
      · obtain rfl : q = 172 := by omega
        rw [vu_n (by omega), vu_s, ce19 rfl]
        exact Lk.of rfl
  have l22 : ∀ (ad1 : Nat → Nat) (fw1 : Nat → va_E), ag 169 ad ad1 → (∀ q, q < 168 → fw1 q = fw q) → fw1 168 = .inr (6, [.ref (ad1 169), .ref (ad1 170), .null, .null, .null, .null, .null, .null, .int 0, .int 0, .int 0, .int 0]) → BK Y 171 169 171 ad1 fw1 → G p l e rm_X6_init s m args below meth c D b 2 332 2 (MQ below (QG D b 177 (Post6 Y ad fw)) args s 8 1972 (AB b)) 22 [(0, .ref x)] [] 171 ad1 fw1 := by
    intro ad1 fw1 h1 h2 h3 h4
    have hxa : ad1 168 = x := by rw [h1 168 (by omega), hx]
    refine g_aload_n C0 0 dX6_init_22 rfl rfl rfl ?_
    refine g_sipush C0 166 dX6_init_23 (by decide) rfl ?_
    refine g_newa C0 (atype := .int) (ty := .int) 166 1 rfl (by decide +kernel) rfl (fun cA => rfl) (by decide) (by decide) (by decide) ⟨Nat.le_of_ble_eq_true rfl, Nat.le_of_ble_eq_true rfl⟩ dX6_init_26 rfl (fun q1 => ?_)
    refine g_put C0 (o := 168) (ci := 6) (C := RX6) (T := TX6) (N := 12) (Ft := tyX6) (ref := RX6) 2 (v := .ref q1) (ty := .array .int) (by omega) ((vu_n (by omega)).trans hxa) ((vu_n (by omega)).trans h3) rfl fw_X6_init6 tyX6_ok nmX6 (by decide) (by decide +kernel) (fun _ h9 => h9) (Or.inr ⟨rfl, hnm, rfl⟩) (by decide +kernel) rfl rfl (Nat.le_of_ble_eq_true rfl) dX6_init_28 rfl ?_
    refine l31 _ _ (fun r hr => (vu_n (by omega)).trans (h1 r hr)) (fun q hq => ?_) ?_ ?_
    · rw [vu_n (by omega), vu_n (by omega)]; exact h2 q hq
    · rw [vu_s, vu_n (by omega : 169 ≠ 171), vu_n (by omega : 170 ≠ 171), vu_s]
      rfl
    · refine BK.ap (mi := 171) (h4.mv (by omega) (fun r hr => vu_n (by omega)) (fun q q1 q2 => ?_)) (fun adF hF q q1 q2 => ?_)
      · rw [vu_n (by omega), vu_n (by omega)]
      · obtain rfl : q = 171 := by omega
        rw [vu_n (by omega), vu_s, ce18 rfl]
        exact Lk.of rfl
  have l13 : ∀ (ad1 : Nat → Nat) (fw1 : Nat → va_E), ag 169 ad ad1 → (∀ q, q < 168 → fw1 q = fw q) → fw1 168 = .inr (6, [.ref (ad1 169), .null, .null, .null, .null, .null, .null, .null, .int 0, .int 0, .int 0, .int 0]) → BK Y 170 169 170 ad1 fw1 → G p l e rm_X6_init s m args below meth c D b 1 166 2 (MQ below (QG D b 177 (Post6 Y ad fw)) args s 8 1972 (AB b)) 13 [(0, .ref x)] [] 170 ad1 fw1 := by
    intro ad1 fw1 h1 h2 h3 h4
    have hxa : ad1 168 = x := by rw [h1 168 (by omega), hx]
    refine g_aload_n C0 0 dX6_init_13 rfl rfl rfl ?_
    refine g_sipush C0 166 dX6_init_14 (by decide) rfl ?_
    refine g_newa C0 (atype := .int) (ty := .int) 166 1 rfl (by decide +kernel) rfl (fun cA => rfl) (by decide) (by decide) (by decide) ⟨Nat.le_of_ble_eq_true rfl, Nat.le_of_ble_eq_true rfl⟩ dX6_init_17 rfl (fun q1 => ?_)
    refine g_put C0 (o := 168) (ci := 6) (C := RX6) (T := TX6) (N := 12) (Ft := tyX6) (ref := RX6) 1 (v := .ref q1) (ty := .array .int) (by omega) ((vu_n (by omega)).trans hxa) ((vu_n (by omega)).trans h3) rfl fw_X6_init6 tyX6_ok nmX6 (by decide) (by decide +kernel) (fun _ h9 => h9) (Or.inr ⟨rfl, hnm, rfl⟩) (by decide +kernel) rfl rfl (Nat.le_of_ble_eq_true rfl) dX6_init_19 rfl ?_
    refine l22 _ _ (fun r hr => (vu_n (by omega)).trans (h1 r hr)) (fun q hq => ?_) ?_ ?_
    · rw [vu_n (by omega), vu_n (by omega)]; exact h2 q hq
    · rw [vu_s, vu_n (by omega : 169 ≠ 170), vu_s]
      rfl
    · refine BK.ap (mi := 170) (h4.mv (by omega) (fun r hr => vu_n (by omega)) (fun q q1 q2 => ?_)) (fun adF hF q q1 q2 => ?_)
      · rw [vu_n (by omega), vu_n (by omega)]
      · obtain rfl : q = 170 := by omega
        rw [vu_n (by omega), vu_s, ce18 rfl]
        exact Lk.of rfl
  refine g_aload_n C0 0 dX6_init_0 rfl rfl rfl ?_
  refine g_obj C0 (by decide +kernel) (by decide +kernel) (List.mem_of_getElem? (i := 3) rfl) dX6_init_1 ⟨Nat.le_of_ble_eq_true rfl, Nat.le_of_ble_eq_true rfl⟩ rfl ?_
  suffices main : ∀ (ad1 : Nat → Nat) (fw1 : Nat → va_E), ag 169 ad ad1 → (∀ q, q < 168 → fw1 q = fw q) → fw1 168 = .inr (6, [.null, .null, .null, .null, .null, .null, .null, .null, .int 0, .int 0, .int 0, .int 0]) → BK Y 169 169 169 ad1 fw1 → G p l e rm_X6_init s m args below meth c D b 0 0 2 (MQ below (QG D b 177 (Post6 Y ad fw)) args s 8 1972 (AB b)) 4 [(0, .ref x)] [] 169 ad1 fw1 from main ad fw (fun _ _ => rfl) (fun _ _ => rfl) hf (fun adF hF q q1 q2 => absurd q2 (by omega))
  intro ad1 fw1 h1 h2 h3 h4
  have hxa : ad1 168 = x := by rw [h1 168 (by omega), hx]
  refine g_aload_n C0 0 dX6_init_4 rfl rfl rfl ?_
  refine g_sipush C0 166 dX6_init_5 (by decide) rfl ?_
  refine g_newa C0 (atype := .int) (ty := .int) 166 1 rfl (by decide +kernel) rfl (fun cA => rfl) (by decide) (by decide) (by decide) ⟨Nat.le_of_ble_eq_true rfl, Nat.le_of_ble_eq_true rfl⟩ dX6_init_8 rfl (fun q1 => ?_)
  refine g_put C0 (o := 168) (ci := 6) (C := RX6) (T := TX6) (N := 12) (Ft := tyX6) (ref := RX6) 0 (v := .ref q1) (ty := .array .int) (by omega) ((vu_n (by omega)).trans hxa) ((vu_n (by omega)).trans h3) rfl fw_X6_init6 tyX6_ok nmX6 (by decide) (by decide +kernel) (fun _ h9 => h9) (Or.inr ⟨rfl, hnm, rfl⟩) (by decide +kernel) rfl rfl (Nat.le_of_ble_eq_true rfl) dX6_init_10 rfl ?_
  refine l13 _ _ (fun r hr => (vu_n (by omega)).trans (h1 r hr)) (fun q hq => ?_) ?_ ?_
  · rw [vu_n (by omega), vu_n (by omega)]; exact h2 q hq
  · rw [vu_s, vu_s]
    rfl
  · refine BK.ap (mi := 169) (h4.mv (by omega) (fun r hr => vu_n (by omega)) (fun q q1 q2 => ?_)) (fun adF hF q q1 q2 => ?_)
    · rw [vu_n (by omega), vu_n (by omega)]
    · obtain rfl : q = 169 := by omega
      rw [vu_n (by omega), vu_s, ce18 rfl]
      exact Lk.of rfl
