/-! the law's isRound -/
theorem gw_off {ω ω' : Nat → Int32} (h : ∀ j, j < 16 → j ≠ 4 → ω' j = ω j) : ∀ j, j < 16 → j ≠ 4 → gw ω' j = gw ω j := by
  intro j hj hj4
  unfold gw gph gsp
  rw [h 0 (by omega) (by omega), h 1 (by omega) (by omega), h 5 (by omega) (by omega), h 6 (by omega) (by omega), h 7 (by omega) (by omega), h 8 (by omega) (by omega), h 9 (by omega) (by omega), h j hj hj4]
  by_cases hj8 : 8 ≤ j ∧ j < 14
  · rw [h (j + 2) (by omega) (by omega)]
  · rw [if_neg hj8, if_neg hj8]
theorem gw_4 {ω : Nat → Int32} : gw ω 4 = ω 4 := by
  unfold gw
  by_cases h5 : ω 5 = 0
  · rw [if_pos h5, if_neg (by omega)]
  · rw [if_neg h5]
    by_cases h6 : ω 6 + 1 = ω 9
    · rw [if_pos h6, if_neg (by omega), if_neg (by omega), if_neg (by omega), if_neg (by omega), if_neg (by omega), if_neg (by omega)]
    · rw [if_neg h6, if_neg (by omega), if_neg (by omega), if_neg (by omega)]
/-- a wheel that is on goes on with each sample -/
theorem goT_same {σ : Nat → Int32} {w j : Nat} (hj : j < 16) : ∀ i, i ≤ w → wl (goT σ i) w j = wl σ w j
  | 0, _ => rfl
  | i + 1, hi => by
    unfold goT
    by_cases hc : wl (goT σ i) i 4 = 1
    · rw [if_pos hc, wl_putw hj, if_neg (by omega)]
      exact goT_same hj i (by omega)
    · rw [if_neg hc]
      exact goT_same hj i (by omega)
theorem goT_on {σ : Nat → Int32} {w : Nat} (hon : wl σ w 4 = 1) : ∀ i, w < i → ∀ j, j < 16 → j ≠ 4 → wl (goT σ i) w j = gw (wl σ w) j
  | 0, hi => absurd hi (by omega)
  | i + 1, hi => by
    intro j hj hj4
    unfold goT
    rcases Nat.lt_or_ge w i with hlt | hge
    · by_cases hc : wl (goT σ i) i 4 = 1
      · rw [if_pos hc, wl_putw hj, if_neg (by omega)]
        exact goT_on hon i hlt j hj hj4
      · rw [if_neg hc]
        exact goT_on hon i hlt j hj hj4
    · obtain rfl : i = w := by omega
      have e4 : wl (goT σ i) i 4 = 1 := (goT_same (by omega) i (Nat.le_refl _)).trans hon
      rw [if_pos e4, wl_putw hj, if_pos rfl]
      exact gw_off (fun k hk _ => goT_same hk i (Nat.le_refl _)) j hj hj4
theorem goT_4 {σ : Nat → Int32} {w : Nat} : ∀ i, wl (goT σ i) w 4 = wl σ w 4
  | 0 => rfl
  | i + 1 => by
    unfold goT
    by_cases hc : wl (goT σ i) i 4 = 1
    · rw [if_pos hc, wl_putw (by omega)]
      by_cases hw : w = i
      · subst hw
        rw [if_pos rfl, gw_4]
        exact goT_4 w
      · rw [if_neg hw]
        exact goT_4 i
    · rw [if_neg hc]
      exact goT_4 i
theorem mks_on {σ : Nat → Int32} {w : Nat} (hw : w < 4) (hon : wl σ w 4 = 1) : (∀ j, j < 16 → j ≠ 4 → wl (mks σ) w j = gw (wl σ w) j) ∧ wl (mks σ) w 4 = 1 := by
  have h4 : wl (mk1 σ) w 4 = 1 := (mk1_wl hw (by omega)).trans hon
  refine ⟨fun j hj hj4 => ?_, (goT_4 4).trans h4⟩
  have h1 := goT_on h4 4 hw j hj hj4
  exact h1.trans (gw_off (fun k hk _ => mk1_wl hw hk) j hj hj4)
theorem mkN_on {σ ω : Nat → Int32} {w : Nat} (hw : w < 4) (hon : wl σ w 4 = 1) (hω : ∀ j, j < 16 → j ≠ 4 → wl σ w j = ω j) : ∀ k, (∀ j, j < 16 → j ≠ 4 → wl (mkN σ k) w j = gwN ω k j) ∧ wl (mkN σ k) w 4 = 1
  | 0 => ⟨hω, hon⟩
  | k + 1 => by
    obtain ⟨i1, i2⟩ := mkN_on hw hon hω k
    obtain ⟨s1, s2⟩ := mks_on hw i2
    refine ⟨fun j hj hj4 => ?_, s2⟩
    exact (s1 j hj hj4).trans (gw_off i1 j hj hj4)
section IR
variable {ct : Nat} {μ : Mem} {S : Nat} {hl sl : Nat → Nat → Int32} {z : Nat → Int32} {σ : Nat → Int32} {K : Int32 → Mem → Prop}
theorem ir_loop {m w : Nat} {U : Int32} {ω : Nat → Int32} (hf : Wf 999999 σ) (hm : σ 1 = nI m) (hmb : m + 100 ≤ 999999) (hw : w < 4) (hon : wl σ w 4 = 1) (hω : ∀ j, j < 16 → j ≠ 4 → wl σ w j = ω j) (hU : FS (LtP ω) 70000 U)
    (hK : ∀ μ' S' hl' k, k ≤ 40 → CI ct μ' S' hl' (mkN σ k) z sl → K 1 μ') :
    ∀ (n k : Nat) (μ : Mem) (S : Nat) (hl : Nat → Nat → Int32), k + n = 40 → CI (ct + n) μ S hl (mkN σ k) z sl → (∀ t, U = nI t → t ≤ 70000 → k ≤ t) →
      x_L_isRound_L68 K (n + 1) (nI w) U 1 (gwN ω k 0) (nI (k + 1)) μ := by
  have ht := hf.tight hm (by omega)
  have hmk := mkN_on hw hon hω
  intro n
  induction n with
  | zero =>
    intro k μ S hl hk h ht2
    obtain rfl : k = 40 := by omega
    show xb_L_isRound_L68 _ _ _ _ _ _ _ _
    unfold xb_L_isRound_L68
    exact ⟨fun _ => ⟨zb1, hK μ S hl 40 (by omega) h⟩, fun q => absurd (nI_lt (a := 40) (b := 41) (by omega) (by omega)) q⟩
  | succ n ih =>
    intro k μ S hl hk h ht2
    have hout : K 1 μ := hK μ S hl k (by omega) (CI.dns (n + 1) h)
    have l90 : (∀ t, U = nI t → t ≤ 70000 → k + 1 ≤ t) → x_L_isRound_L90 K (x_L_isRound_L68 K (n + 1)) (nI w) U (gwN ω k 0) (nI (k + 1)) μ := by
      intro ht3
      unfold x_L_isRound_L90
      have hkm := mkN_1 hm k
      refine k_make (c := 1) (m := m + k) h hkm (by omega) (by omega) (by omega) (fun μ1 h1 => ?_)
      have h1 : CI (ct + n) μ1 (hS S) (hL S hl (mkN σ k)) (mkN σ (k + 1)) z sl := h1
      have hmr : rg (lstm (mkN σ k) 1) 0 960 := mkm_rg (mkN_wf ht k (by omega))
      refine ⟨fun q => absurd q (rg_nn hmr (by omega)), fun _ => ?_⟩
      refine k_w0 h1 hw ?_
      rw [(hmk (k + 1)).1 0 (by omega) (by omega)]
      have l133 : x_L_isRound_L133 K (x_L_isRound_L68 K (n + 1)) (nI w) U (nI (k + 1)) 1 μ1 := by
        unfold x_L_isRound_L133
        refine k_w0 h1 hw ?_
        rintro _ rfl
        rw [nI_1, (hmk (k + 1)).1 0 (by omega) (by omega)]
        exact ih (k + 1) μ1 _ _ (by omega) h1 ht3
      have hlt : LtP ω (k + 1) ↔ gwN ω (k + 1) 0 < gwN ω k 0 := Iff.rfl
      -- the answer of untilRound and what is seen are the same
      have hsame : LtP ω (k + 1) ↔ nI (k + 1) = U := by
        rcases hU with ⟨t, t1, t2, t3, t4, rfl⟩ | ⟨t1, rfl⟩
        · have hkt := ht3 t rfl t2
          refine ⟨fun q => ?_, fun q => ?_⟩
          · rcases Nat.lt_or_ge (k + 1) t with u | u
            · exact absurd q (t4 (k + 1) (by omega) u)
            · rw [show k + 1 = t by omega]
          · rw [(nI_eq (by omega) (by omega)).mp q]
            exact t3
        · refine ⟨fun q => absurd q (t1 (k + 1) (by omega) (by omega)), fun q => ?_⟩
          exfalso
          have := nI_pos (n := k + 1) (by omega)
          rw [q] at this
          exact this (by decide)
      refine ⟨fun q => ?_, fun q => ?_⟩
      · have hn : ¬ nI (k + 1) = U := fun u => absurd (hlt.mp (hsame.mpr u)) (Int32.not_lt.mpr q)
        unfold x_L_isRound_L114
        refine ⟨fun u => absurd u hn, fun _ => ?_⟩
        unfold x_L_isRound_L125
        exact ⟨fun _ => l133, fun u => absurd rfl u⟩
      · have hy : nI (k + 1) = U := hsame.mp (hlt.mpr (Int32.not_le.mp q))
        unfold x_L_isRound_L114
        refine ⟨fun _ => ?_, fun u => absurd hy u⟩
        unfold x_L_isRound_L125
        exact ⟨fun _ => l133, fun u => absurd rfl u⟩
    show xb_L_isRound_L68 _ _ _ _ _ _ _ _
    unfold xb_L_isRound_L68
    refine ⟨fun _ => ⟨zb1, hout⟩, fun _ => ⟨fun q => absurd q (by decide), fun _ => ⟨fun q => ?_, fun q => ⟨fun _ => ⟨zb1, hout⟩, fun q2 => ?_⟩⟩⟩⟩
    · refine l90 (fun t e t2 => ?_)
      exfalso
      rw [e] at q
      exact nI_pos (by omega) q
    · refine l90 (fun t e t2 => ?_)
      rcases Nat.lt_or_ge t (k + 1) with u | u
      · exfalso
        apply q2
        rw [e]
        exact nI_lt u (by omega)
      · exact u
theorem a_round {m w : Nat} (h : CI (ct + 41) μ S hl σ z sl) (hm : σ 1 = nI m) (hmb : m + 100 ≤ 999999) (hw : w < 4) (hK : ∀ μ' S' hl' σ' m', CI ct μ' S' hl' σ' z sl → σ' 1 = nI m' → m ≤ m' → m' ≤ m + 40 → K 1 μ') : x_L_isRound (nI w) μ K := by
  unfold x_L_isRound
  refine k_untilRound h hw (fun U μ1 hU h1 => ?_)
  have go : ∀ (μ2 : Mem) (S2 : Nat) (hl2 : Nat → Nat → Int32) (σ2 : Nat → Int32), CI (ct + 40) μ2 S2 hl2 σ2 z sl → σ2 1 = nI m → wl σ2 w 4 = 1 → (∀ j, j < 16 → j ≠ 4 → wl σ2 w j = wl σ w j) → x_L_isRound_L25 K (nI w) U μ2 := by
    intro μ2 S2 hl2 σ2 h2 hm2 hon hω
    unfold x_L_isRound_L25 x_L_isRound_L30
    have l50 : x_L_isRound_L50 K (nI w) U μ2 := by
      unfold x_L_isRound_L50 x_L_isRound_L55
      refine k_w0 h2 hw ?_
      rw [hω 0 (by omega) (by omega)]
      refine ⟨41, ir_loop h2.2.1 hm2 hmb hw hon hω hU (fun μ' S' hl' k hk h' => hK μ' S' hl' _ (m + k) h' (mkN_1 hm2 k) (by omega) (by omega)) 40 0 μ2 S2 hl2 (by omega) h2 (fun t _ _ => Nat.zero_le _)⟩
    refine ⟨fun q => absurd q (by decide), fun _ => ⟨fun _ => l50, fun q => ?_⟩⟩
    rcases hU with ⟨t, t1, t2, -, -, rfl⟩ | ⟨-, rfl⟩
    · exact ⟨fun u => absurd u (nI_nlt (a := t) (b := 1) t1 (by omega)), fun _ => ⟨fun u => absurd u (nI_nlt (a := 70000) (b := t) t2 (by omega)), fun _ => l50⟩⟩
    · exact absurd (by decide) q
  refine k_w4 h1 hw ?_
  refine ⟨fun hon => ?_, fun hoff => ?_⟩
  · exact go μ1 S hl σ (CI.dn h1) hm hon (fun _ _ _ => rfl)
  · refine k_turn h1 hw zb1 hoff (fun r μ2 _ hr h2 => ?_)
    refine ⟨fun q => absurd q (hr rfl), fun _ => ?_⟩
    refine go μ2 _ _ _ h2 ((putw_lo (by omega)).trans hm) (by rw [wlp (by omega), upd_s]) (fun j hj hj4 => by rw [wlp hj, upd_n hj4])
end IR
