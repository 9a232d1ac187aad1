/-! the law's acts -/
theorem e_shr {x k : Nat} {n : Int32} (hx : x < 2 ^ 31) (hn : (n.toBitVec.smod 32).toNat = k) : nI x >>> n = nI (x / 2 ^ k) := by
  apply ii_eq.mpr
  have hd : x / 2 ^ k ≤ x := Nat.div_le_self _ _
  have e : (nI x >>> n).toInt = ((nI x).toBitVec.sshiftRight' (n.toBitVec.smod 32)).toInt := rfl
  rw [e, BitVec.toInt_sshiftRight', hn, Int.shiftRight_eq_div_pow, show (nI x).toBitVec.toInt = (nI x).toInt from rfl, nI_toInt hx, nI_toInt (by omega)]
  first
    | rfl
    | exact (Int.natCast_ediv _ _).symm
    | norm_cast
theorem wlp {σ ω : Nat → Int32} {w j : Nat} (hj : j < 16) : wl (putw σ w ω) w j = ω j := by rw [wl_putw hj, if_pos rfl]
theorem stT_addw {ω : Nat → Int32} {m : Nat} {e s : Int32} : ∀ j, j ≤ m → stT (addw ω m e s) j = stT ω j
  | 0, _ => rfl
  | j + 1, hj => by
    show stT (addw ω m e s) j + addw ω m e s (9 + 2 * j) = stT ω j + ω (9 + 2 * j)
    rw [stT_addw j (by omega)]
    unfold addw
    rw [if_neg (by omega), if_neg (by omega), if_neg (by omega), if_neg (by omega), if_neg (by omega)]
theorem addw_6 {ω : Nat → Int32} {m : Nat} {e s : Int32} (hf : WfW ω) (em : ω 5 = nI m) : addw ω m e s 6 = ω 6 := by
  unfold addw
  rw [if_neg (by omega), if_neg (by omega), if_neg (by omega)]
  by_cases h : m = 0
  · subst h
    rw [if_pos (by omega)]
    exact (hf.2.2.2.2.2.2.2.1 em).symm
  · rw [if_neg (by omega), if_neg (by omega)]
section AC
variable {ct : Nat} {μ : Mem} {S : Nat} {hl sl : Nat → Nat → Int32} {z : Nat → Int32} {σ : Nat → Int32} {K : Int32 → Mem → Prop}
theorem ac_241 {w : Nat} {a v : Int32} (h : CI (ct + 1) μ S hl σ z sl) (hw : w < 4) (ha : (a = 0 ∧ v = 1) ∨ (a = 1 ∧ v = 0)) (hon : wl σ w 4 = a) (hK : ∀ μ' ω, CI ct μ' (hS S) (hL S hl σ) (putw σ w ω) z sl → K 1 μ') : x_L_acts_L241 K (nI w) a v (nI w) μ := by
  unfold x_L_acts_L241
  have hzv : zb v := by
    rcases ha with ⟨-, rfl⟩ | ⟨-, rfl⟩
    · exact zb1
    · exact zb0
  have hne : ¬ wl σ w 4 = v := by
    rw [hon]
    rcases ha with ⟨rfl, rfl⟩ | ⟨rfl, rfl⟩ <;> decide
  refine k_turn h hw hzv hne (fun r μ' hr _ h' => ?_)
  refine ⟨fun q => absurd q hr, fun _ => ?_⟩
  refine k_w4 h' hw ?_
  rw [wlp (by omega), upd_s]
  rcases ha with ⟨rfl, rfl⟩ | ⟨rfl, rfl⟩
  · refine ⟨fun _ => ?_, fun q => absurd rfl q⟩
    unfold x_L_acts_L263
    exact ⟨fun _ => hK μ' _ h', fun q => absurd rfl q⟩
  · refine ⟨fun q => absurd q (by decide), fun _ => ?_⟩
    unfold x_L_acts_L263
    exact ⟨fun _ => hK μ' _ h', fun q => absurd rfl q⟩
theorem ac_307 {x w f : Nat} (h : CI (ct + 1) μ S hl σ z sl) (hx : x < 2 ^ 31) (hw : w < 4) (hf : f < 65536) (hK : ∀ μ' S' hl' σ', CI ct μ' S' hl' σ' z sl → σ' 1 = σ 1 → K 1 μ') : x_L_acts_L307 K (nI x) (nI w) (nI f) μ := by
  have hfw := k_whl hw h
  obtain ⟨m, hm, em⟩ := rg_nI (n := 4) hfw.2.2.2.2.2.1
  have e8 : nI x >>> ((8 : Int32) &&& 31) = nI (x / 256) := e_shr (k := 8) hx (by decide)
  have hd : x / 256 ≤ x := Nat.div_le_self _ _
  unfold x_L_acts_L307
  refine k_w5 h hw ?_
  refine k_w9 h hw em hm ?_
  intro v62 hv
  obtain ⟨s, hs⟩ : ∃ s, s = 1 + x / 256 % 60 := ⟨_, rfl⟩
  have hv : v62 = nI s := by
    rw [hv, e8, hs]
    show nI 1 + (nI (x / 256) - nI (x / 256) / nI 60 * nI 60) = _
    rw [pk_rem (a := x / 256) (d := 60) (by omega) (by omega) (by omega), nI_add]
  subst hv
  rw [em]
  rcases Nat.lt_or_ge m 4 with hm4 | hm4
  · refine k_sweep h hw em hm4 (nI_pos' (by omega)) (nI_le (a := f) (b := 65535) (by omega) (by omega)) (nI_le (a := 1) (b := s) (by omega) (by omega)) (nI_le (a := s) (b := 999) (by omega) (by omega)) (fun μ' h' => ?_)
    refine ⟨fun q => absurd ((nI_eq (a := m) (b := 4) (by omega) (by omega)).mp q) (by omega), fun _ => ?_⟩
    rw [nI_1]
    refine ⟨fun _ => ?_, fun q => absurd rfl q⟩
    have em' : wl (putw σ w (addw (wl σ w) m (nI f) (nI s))) w 5 = nI (m + 1) := by
      rw [wlp (by omega)]
      unfold addw
      rw [if_neg (by omega), if_neg (by omega), if_pos rfl]
    refine k_w9 h' hw em' (by omega) ?_
    have e9 : stT (wl (putw σ w (addw (wl σ w) m (nI f) (nI s))) w) (m + 1) = stT (wl σ w) m + nI s := by
      have ee : ∀ j, j ≤ m + 1 → stT (wl (putw σ w (addw (wl σ w) m (nI f) (nI s))) w) j = stT (addw (wl σ w) m (nI f) (nI s)) j := by
        intro j
        induction j with
        | zero => intro _; rfl
        | succ j ih =>
          intro hj
          show stT _ j + wl (putw σ w (addw (wl σ w) m (nI f) (nI s))) w (9 + 2 * j) = stT _ j + addw (wl σ w) m (nI f) (nI s) (9 + 2 * j)
          rw [ih (by omega), wlp (by omega)]
      rw [ee _ (Nat.le_refl _)]
      show stT (addw (wl σ w) m (nI f) (nI s)) m + addw (wl σ w) m (nI f) (nI s) (9 + 2 * m) = _
      rw [stT_addw m (Nat.le_refl _)]
      congr 1
      unfold addw
      rw [if_neg (by omega), if_pos rfl]
    have e6 : wl (putw σ w (addw (wl σ w) m (nI f) (nI s))) w 6 = wl σ w 6 := by
      rw [wlp (by omega), addw_6 hfw em]
    rw [e9, e6]
    refine ⟨fun _ => ?_, fun q => absurd ?_ q⟩
    · refine k_w10 h' hw em' (by omega) ?_
      rw [if_neg (by omega), Nat.add_sub_cancel, wlp (by omega)]
      refine ⟨fun _ => hK μ' _ _ _ h' (putw_lo (by omega)), fun q => absurd ?_ q⟩
      unfold addw
      rw [if_pos rfl]
    · rw [Int32.sub_eq_add_neg, Int32.sub_eq_add_neg, Int32.add_assoc, Int32.add_assoc, Int32.add_comm (nI s)]
  · obtain rfl : m = 4 := by omega
    refine k_sweepNo h hw em (nI_pos' (by omega)) (nI_le (a := f) (b := 65535) (by omega) (by omega)) (nI_le (a := 1) (b := s) (by omega) (by omega)) (nI_le (a := s) (b := 999) (by omega) (by omega)) ?_
    exact ⟨fun _ => ⟨fun _ => hK μ _ _ _ h.dn rfl, fun q => absurd rfl q⟩, fun q => absurd rfl q⟩
theorem a_acts {x m : Nat} (hx : x < 2 ^ 31) (h : CI (ct + 2) μ S hl σ z sl) (hm : σ 1 = nI m) (hmb : m + 200 ≤ 999999) (hK : ∀ μ' S' hl' σ' m', CI ct μ' S' hl' σ' z sl → σ' 1 = nI m' → m ≤ m' → m' ≤ m + 200 → K 1 μ') : x_L_acts (nI x) μ K := by
  have d4 : x / 16 ≤ x := Nat.div_le_self _ _
  have d6 : x / 64 ≤ x := Nat.div_le_self _ _
  have d10 : x / 1024 ≤ x := Nat.div_le_self _ _
  have d14 : x / 16384 ≤ x := Nat.div_le_self _ _
  have e4 : nI x >>> ((4 : Int32) &&& 31) = nI (x / 16) := e_shr (k := 4) hx (by decide)
  have e6 : nI x >>> ((6 : Int32) &&& 31) = nI (x / 64) := e_shr (k := 6) hx (by decide)
  have e10 : nI x >>> ((10 : Int32) &&& 31) = nI (x / 1024) := e_shr (k := 10) hx (by decide)
  have e14 : nI x >>> ((14 : Int32) &&& 31) = nI (x / 16384) := e_shr (k := 14) hx (by decide)
  have r4 : nI (x / 64) - nI (x / 64) / 4 * 4 = nI (x / 64 % 4) := pk_rem (a := x / 64) (d := 4) (by omega) (by omega) (by omega)
  have r17 : nI (x / 64) - nI (x / 64) / 17 * 17 = nI (x / 64 % 17) := pk_rem (a := x / 64) (d := 17) (by omega) (by omega) (by omega)
  have r16 : nI (x / 64) - nI (x / 64) / 16 * 16 = nI (x / 64 % 16) := pk_rem (a := x / 64) (d := 16) (by omega) (by omega) (by omega)
  have q16 : nI (x / 1024) - nI (x / 1024) / 16 * 16 = nI (x / 1024 % 16) := pk_rem (a := x / 1024) (d := 16) (by omega) (by omega) (by omega)
  have r960 : nI (x / 16384) - nI (x / 16384) / 960 * 960 = nI (x / 16384 % 960) := pk_rem (a := x / 16384) (d := 960) (by omega) (by omega) (by omega)
  have r200 : nI (x / 16) - nI (x / 16) / 200 * 200 = nI (x / 16 % 200) := pk_rem (a := x / 16) (d := 200) (by omega) (by omega) (by omega)
  have rw4 : nI (x / 16) - nI (x / 16) / 4 * 4 = nI (x / 16 % 4) := pk_rem (a := x / 16) (d := 4) (by omega) (by omega) (by omega)
  have rv : nI (x / 64) - nI (x / 64) / 65536 * 65536 = nI (x / 64 % 65536) := pk_rem (a := x / 64) (d := 65536) (by omega) (by omega) (by omega)
  unfold x_L_acts
  rw [e4, e6, e10, e14, r4, r17, r16, q16, r960, r200, rw4, rv]
  obtain ⟨w, hwe⟩ : ∃ w, w = x / 16 % 4 := ⟨_, rfl⟩
  obtain ⟨f, hfe⟩ : ∃ f, f = x / 64 % 65536 := ⟨_, rfl⟩
  have hw : w < 4 := by omega
  have hf : f < 65536 := by omega
  have hfw := k_whl hw h
  rw [← hwe, ← hfe]
  rintro _ rfl _ rfl
  have l307 : x_L_acts_L307 K (nI x) (nI w) (nI f) μ := ac_307 h.dn hx hw hf (fun μ' S' hl' σ' h' e => hK μ' S' hl' σ' m h' (e.trans hm) (Nat.le_refl _) (by omega))
  refine ⟨fun _ => ?_, fun _ => ⟨fun _ => ?_, fun _ => ⟨fun _ => ?_, fun _ => ⟨fun _ => ?_, fun _ => ⟨fun _ => ?_, fun _ => ⟨fun _ => l307, fun _ => ⟨fun _ => l307, fun _ => ⟨fun _ => ?_, fun _ => ?_⟩⟩⟩⟩⟩⟩⟩⟩
  · refine k_w1 h hw ?_
    refine k_step h hw (nI_pos' (by omega)) (nI_le (a := f) (b := 65535) (by omega) (by omega)) (fun μ' h' => ?_)
    refine ⟨fun _ => ?_, fun q => absurd rfl q⟩
    refine k_w1 h' hw ?_
    rw [wlp (by omega)]
    have s1 : stw (wl σ w) (nI f) 1 = nI f := by
      unfold stw
      rw [upd_n (by omega), upd_n (by omega), upd_s]
    have s5 : stw (wl σ w) (nI f) 5 = 0 := by
      unfold stw
      rw [upd_n (by omega), upd_s]
    rw [s1]
    refine ⟨fun _ => ?_, fun q => absurd rfl q⟩
    refine k_w5 h' hw ?_
    rw [wlp (by omega), s5]
    exact ⟨fun _ => hK μ' _ _ _ m h'.dn ((putw_lo (by omega)).trans hm) (Nat.le_refl _) (by omega), fun q => absurd rfl q⟩
  · refine k_w2 h hw ?_
    refine k_table h hw (by omega) (fun μ' h' => ?_)
    refine ⟨fun _ => ?_, fun q => absurd rfl q⟩
    refine k_w2 h' hw ?_
    rw [wlp (by omega), upd_s]
    exact ⟨fun _ => hK μ' _ _ _ m h'.dn ((putw_lo (by omega)).trans hm) (Nat.le_refl _) (by omega), fun q => absurd rfl q⟩
  · refine k_w3 h hw ?_
    refine k_volume h hw (nI_pos' (by omega)) (nI_le (a := x / 64 % 17) (b := 16) (by omega) (by omega)) (fun μ' h' => ?_)
    refine ⟨fun _ => ?_, fun q => absurd rfl q⟩
    refine k_w3 h' hw ?_
    rw [wlp (by omega), upd_s]
    exact ⟨fun _ => hK μ' _ _ _ m h'.dn ((putw_lo (by omega)).trans hm) (Nat.le_refl _) (by omega), fun q => absurd rfl q⟩
  · refine k_w4 h hw ?_
    refine ⟨fun hon => ?_, fun hoff => ?_⟩
    · unfold x_L_acts_L215
      refine k_turnNo h hw hon ?_
      refine ⟨fun _ => ?_, fun q => absurd rfl q⟩
      refine ⟨fun q => absurd q (by decide), fun _ => ?_⟩
      exact ac_241 h hw (Or.inr ⟨rfl, rfl⟩) hon (fun μ' ω h' => hK μ' _ _ _ m h'.dn ((putw_lo (by omega)).trans hm) (Nat.le_refl _) (by omega))
    · have h0 : wl σ w 4 = 0 := hfw.2.2.2.2.1.resolve_right hoff
      unfold x_L_acts_L215
      refine k_turnNo h hw h0 ?_
      refine ⟨fun _ => ?_, fun q => absurd rfl q⟩
      refine ⟨fun _ => ?_, fun q => absurd rfl q⟩
      exact ac_241 h hw (Or.inl ⟨rfl, rfl⟩) h0 (fun μ' ω h' => hK μ' _ _ _ m h'.dn ((putw_lo (by omega)).trans hm) (Nat.le_refl _) (by omega))
  · refine k_w0 h hw ?_
    refine k_phase h hw (nI_pos' (by omega)) (nI_le (a := f) (b := 65535) (by omega) (by omega)) (fun μ' h' => ?_)
    refine ⟨fun _ => ?_, fun q => absurd rfl q⟩
    refine k_w0 h' hw ?_
    rw [wlp (by omega), upd_s]
    exact ⟨fun _ => hK μ' _ _ _ m h'.dn ((putw_lo (by omega)).trans hm) (Nat.le_refl _) (by omega), fun q => absurd rfl q⟩
  · refine k_valueOf h hw (by omega) ?_
    refine k_c0 h ?_
    refine k_fill h hw (by omega) (nI_pos' (by omega)) (nI_le (a := x / 1024 % 16) (b := 15) (by omega) (by omega)) (fun μ' h' => ?_)
    refine ⟨fun _ => ?_, fun q => absurd rfl q⟩
    refine k_valueOf h' hw (by omega) ?_
    rw [upd_s]
    refine ⟨fun _ => ?_, fun q => absurd rfl q⟩
    have ec : (1 : Int32) + nI (x / 16384 % 960) = nI (1 + x / 16384 % 960) := nI_add 1 _
    rw [ec]
    refine k_clip h' (nI_le (a := 1) (b := 1 + x / 16384 % 960) (by omega) (by omega)) (nI_le (a := 1 + x / 16384 % 960) (b := 960) (by omega) (by omega)) (fun μ2 h2 => ?_)
    rw [upd_n (by omega)]
    refine ⟨fun _ => ?_, fun q => absurd rfl q⟩
    refine k_c0 h2 ?_
    rw [upd_s]
    exact ⟨fun _ => hK μ2 _ _ _ m h2 (by rw [upd_n (by omega), upd_n (by omega)]; exact hm) (Nat.le_refl _) (by omega), fun q => absurd rfl q⟩
  · refine k_c1 h ?_
    have ec : (1 : Int32) + nI (x / 16 % 200) = nI (1 + x / 16 % 200) := nI_add 1 _
    rw [ec]
    obtain ⟨c, hc⟩ : ∃ c, c = 1 + x / 16 % 200 := ⟨_, rfl⟩
    rw [← hc]
    rintro _ rfl
    refine k_ifMade h hm (by omega) (by omega) (by omega) (by decide) (by decide) (fun r μ1 hr h1 => ?_)
    obtain rfl := ((hr.2 (by decide)).2 (by decide)).2 (by decide)
    refine k_make h1 hm (by omega) (by omega) (by omega) (fun μ' h' => ?_)
    refine ⟨fun _ => ?_, fun q => absurd rfl q⟩
    refine k_c1 h' ?_
    have e1 := mkN_1 hm c
    rw [e1, hm, nI_add]
    refine ⟨fun _ => ?_, fun q => absurd rfl q⟩
    have hl := lst_last h.2.1 hm (c := c) (by omega) (by omega)
    refine k_sample (g := 0) h' (by omega) e1 (by omega) (by omega) ?_
    rw [hl.1]
    exact ⟨fun _ => hK μ' _ _ _ (m + c) h'.dn e1 (by omega) (by omega), fun q => absurd rfl q⟩
end AC
