/-! the law's areSamples -/
/-- the first clipped one of the first i samples; 0: none -/
def FP (P : Nat → Prop) (i : Nat) (x : Int32) : Prop := (x = 0 ∧ ∀ j, 1 ≤ j → j ≤ i → ¬ P j) ∨ (∃ t, 1 ≤ t ∧ t ≤ i ∧ P t ∧ (∀ j, 1 ≤ j → j < t → ¬ P j) ∧ x = nI t)
theorem mks_0 {σ : Nat → Int32} : mks σ 0 = σ 0 := (goT_lo (by omega) 4).trans mk1_0
theorem mks_3 {σ : Nat → Int32} : mks σ 3 = (σ 3 + mkm σ) - (σ 3 + mkm σ) / 1000003 * 1000003 := (goT_lo (by omega) 4).trans mk1_3
theorem mks_4 {σ : Nat → Int32} : mks σ 4 = σ 4 + (if σ 5 < 0 then 0 else if mkm σ ≤ σ 5 then 0 else 1) := (goT_lo (by omega) 4).trans mk1_4
theorem mkm_le {σ : Nat → Int32} : ¬ σ 0 < mkm σ := by
  unfold mkm
  by_cases h : mix σ ≤ σ 0
  · rw [if_pos h]; exact Int32.not_lt.mpr h
  · rw [if_neg h]; exact Int32.not_lt.mpr (Int32.le_refl _)
/-- the sample before the latest -/
theorem mks_old {σ : Nat → Int32} {m : Nat} (hm : σ 1 = nI m) (hm2 : m < 2 ^ 30) (h0 : 1 ≤ m) : mks σ (134 + (m + 1 - 1 - 1) % 32) = σ (134 + (m - 1) % 32) := by
  have hk : (m - 1) % 32 < 32 := Nat.mod_lt _ (by omega)
  rw [show (m + 1 - 1 - 1) % 32 = (m - 1) % 32 by congr 1]
  have e : mks σ (134 + (m - 1) % 32) = mk1 σ (134 + (m - 1) % 32) := goT_hi (by omega) 4 (by omega)
  rw [e, mk1_ring hm hm2 hk, if_neg (by omega)]
section AS
variable {ct : Nat} {μ : Mem} {S : Nat} {hl sl : Nat → Nat → Int32} {z : Nat → Int32} {σ : Nat → Int32} {K : Int32 → Mem → Prop}
theorem as_401 {m c : Nat} {a : Nat → Int32} (h : CI (ct + 2) μ S hl a (upd z 0 1) (upS sl 0 σ)) (hf : Wf 999999 σ) (hm : σ 1 = nI m) (hc1 : 1 ≤ c) (hc : c ≤ 31) (hmb : m + 100 ≤ 999999) (hK : ∀ μ' S' hl', CI ct μ' S' hl' (mkN σ c) (upd z 0 1) (upS sl 0 σ) → K 1 μ') : x_L_areSamples_L401 K (nI c) (lstm σ c) (nI m) (mkN σ c 3) (mkN σ c 4) 1 μ := by
  unfold x_L_areSamples_L401
  refine ⟨fun q => absurd q (by decide), fun _ => ?_⟩
  refine k_restore (s := 0) h (by omega) upd_s (fun μ1 h1 => ?_)
  rw [upS_s] at h1 ⊢
  refine ⟨fun _ => ?_, fun q => absurd hm q⟩
  refine k_make h1 hm (by omega) (by omega) (by omega) (fun μ2 h2 => ?_)
  refine ⟨fun _ => ?_, fun q => absurd rfl q⟩
  refine k_c5 h2 ?_
  refine ⟨fun _ => ?_, fun q => absurd rfl q⟩
  refine k_c6 h2 ?_
  exact ⟨fun _ => hK μ2 _ _ h2, fun q => absurd rfl q⟩
theorem as_loop {m c : Nat} {U x9 : Int32} (hf : Wf 999999 σ) (hm : σ 1 = nI m) (hmb : m + 100 ≤ 999999) (hc1 : 1 ≤ c) (hc : c ≤ 31) (hU : FS (fun i => ¬ mkN σ i 2 ≤ σ 2) 2000 U) (e9 : x9 = σ 2) (hK : ∀ μ' S' hl', CI ct μ' S' hl' (mkN σ c) (upd z 0 1) (upS sl 0 σ) → K 1 μ') :
    ∀ (k i : Nat) (μ : Mem) (S : Nat) (hl : Nat → Nat → Int32) (F : Int32), i + k = c → CI (ct + 2 + k) μ S hl (mkN σ i) (upd z 0 1) (upS sl 0 σ) → FP (fun i => ¬ mkN σ i 2 ≤ σ 2) i F →
      x_L_areSamples_L120 K (k + 1) (nI c) (ggT σ c) (leT 1000 σ c) (mkN σ c 2 - σ 2) (lstm σ c) U (nI m) x9 (mkN σ i 3) (mkN σ i 4) (mkN σ i 5) (ggT σ i) (leT 1000 σ i) F 1 (nI i) μ := by
  have ht := hf.tight hm (by omega)
  intro k
  induction k with
  | zero =>
    intro i μ S hl F hi h hF
    obtain rfl : i = c := by omega
    show xb_L_areSamples_L120 _ _ _ _ _ _ _ _ _ _ _ _ _ _ _ _ _ _ _
    unfold xb_L_areSamples_L120
    refine ⟨fun _ => ?_, fun q => absurd (Int32.le_refl _) q⟩
    have e5 : mkN σ i 5 = lstm σ i := by
      obtain ⟨j, rfl⟩ : ∃ j, i = j + 1 := ⟨i - 1, by omega⟩
      exact mks_5
    have l396 : x_L_areSamples_L396 K (nI i) (lstm σ i) (nI m) (mkN σ i 3) (mkN σ i 4) μ := as_401 h hf hm hc1 hc hmb hK
    unfold x_L_areSamples_L320
    refine ⟨fun q => absurd q (by decide), fun _ => ?_⟩
    refine ⟨fun _ => ?_, fun q => absurd rfl q⟩
    refine ⟨fun _ => ?_, fun q => absurd rfl q⟩
    refine ⟨fun _ => ?_, fun q => absurd e5 q⟩
    refine k_c2 h ?_
    rw [e9]
    refine ⟨fun _ => ?_, fun q => absurd rfl q⟩
    refine k_c1 h ?_
    rw [mkN_1 hm i, nI_add]
    refine ⟨fun _ => ?_, fun q => absurd rfl q⟩
    rcases hF with ⟨rfl, hno⟩ | ⟨t, t1, t2, t3, t4, rfl⟩
    · refine ⟨fun _ => ⟨fun _ => l396, fun hge => ⟨fun hle => ?_, fun _ => l396⟩⟩, fun q => absurd rfl q⟩
      exfalso
      rcases hU with ⟨t, t1, t2, t3, t4, rfl⟩ | ⟨-, rfl⟩
      · exact hno t t1 ((nI_leI (by omega) (by omega)).mp hle) t3
      · exact hge (by decide)
    · refine ⟨fun q => absurd q (nI_ne0 t1 (by omega)), fun _ => ?_⟩
      have eU : U = nI t := FS.one hU (Or.inl ⟨t, t1, by omega, t3, t4, rfl⟩)
      exact ⟨fun _ => l396, fun q => absurd eU q⟩
  | succ k ih =>
    intro i μ S hl F hi h hF
    obtain ⟨τ, hτ⟩ : ∃ τ, τ = mkN σ i := ⟨_, rfl⟩
    have eτ1 : mkN σ (i + 1) = mks τ := by rw [hτ]; rfl
    have hτm : τ 1 = nI (m + i) := by rw [hτ]; exact mkN_1 hm i
    have hτf : Wf (m + i) τ := by rw [hτ]; exact mkN_wf ht i (by omega)
    have eg : ggT σ (i + 1) = if ggT σ i < mkm τ then mkm τ else ggT σ i := by rw [hτ]; rfl
    have el : leT 1000 σ (i + 1) = if mkm τ < leT 1000 σ i then mkm τ else leT 1000 σ i := by rw [hτ]; rfl
    have hmr := mkm_rg hτf
    have hnx := ih (i + 1)
    rw [eτ1, mks_3, mks_4, mks_5] at hnx
    rw [← hτ] at h ⊢
    show xb_L_areSamples_L120 _ _ _ _ _ _ _ _ _ _ _ _ _ _ _ _ _ _ _
    unfold xb_L_areSamples_L120
    refine ⟨fun q => absurd q (nI_ge (a := i) (b := c) (by omega) (by omega)), fun _ => ⟨fun q => absurd q (by decide), fun _ => ?_⟩⟩
    refine k_c4 h ?_
    refine k_c2 h ?_
    refine k_make (c := 1) (m := m + i) h hτm (by omega) (by omega) (by omega) (fun μ1 h1 => ?_)
    have h1 : CI (ct + 2 + k) μ1 (hS S) (hL S hl τ) (mks τ) (upd z 0 1) (upS sl 0 σ) := h1
    have e58 : lstm τ 1 = mkm τ := rfl
    rw [e58]
    -- from the sum on
    have l208 : ∀ F' : Int32, FP (fun i => ¬ mkN σ i 2 ≤ σ 2) (i + 1) F' → x_L_areSamples_L208 K (x_L_areSamples_L120 K (k + 1)) (nI c) (ggT σ c) (leT 1000 σ c) (mkN σ c 2 - σ 2) (lstm σ c) U (nI m) x9 (τ 3) (τ 4) (τ 5) (ggT σ (i + 1)) (leT 1000 σ (i + 1)) (nI i) (mkm τ) (mkm τ) F' μ1 := by
      intro F' hF'
      have hgo := hnx μ1 (hS S) (hL S hl τ) F' (by omega) h1 hF'
      have l312 : ∀ r : Int32, x_L_areSamples_L120 K (k + 1) (nI c) (ggT σ c) (leT 1000 σ c) (mkN σ c 2 - σ 2) (lstm σ c) U (nI m) x9 ((τ 3 + mkm τ) - (τ 3 + mkm τ) / 1000003 * 1000003) r (mkm τ) (ggT σ (i + 1)) (leT 1000 σ (i + 1)) F' 1 (nI (i + 1)) μ1 → x_L_areSamples_L312 K (x_L_areSamples_L120 K (k + 1)) (nI c) (ggT σ c) (leT 1000 σ c) (mkN σ c 2 - σ 2) (lstm σ c) U (nI m) x9 ((τ 3 + mkm τ) - (τ 3 + mkm τ) / 1000003 * 1000003) r (mkm τ) (ggT σ (i + 1)) (leT 1000 σ (i + 1)) F' (nI i) 1 μ1 := by
        intro r hr
        unfold x_L_areSamples_L312
        rintro _ rfl
        rw [nI_1]
        exact hr
      have l239 : ∀ d : Int32, τ 4 + d = τ 4 + (if τ 5 < 0 then 0 else if mkm τ ≤ τ 5 then 0 else 1) → x_L_areSamples_L239 K (x_L_areSamples_L120 K (k + 1)) (nI c) (ggT σ c) (leT 1000 σ c) (mkN σ c 2 - σ 2) (lstm σ c) U (nI m) x9 ((τ 3 + mkm τ) - (τ 3 + mkm τ) / 1000003 * 1000003) (ggT σ (i + 1)) (leT 1000 σ (i + 1)) F' (nI i) (mkm τ) (mkm τ) d (τ 4) μ1 := by
        intro d hd
        unfold x_L_areSamples_L239
        rintro _ rfl
        rw [hd]
        refine ⟨fun _ => ?_, fun q => absurd rfl q⟩
        have l286 : x_L_areSamples_L286 K (x_L_areSamples_L120 K (k + 1)) (nI c) (ggT σ c) (leT 1000 σ c) (mkN σ c 2 - σ 2) (lstm σ c) U (nI m) x9 ((τ 3 + mkm τ) - (τ 3 + mkm τ) / 1000003 * 1000003) (τ 4 + (if τ 5 < 0 then 0 else if mkm τ ≤ τ 5 then 0 else 1)) (mkm τ) (ggT σ (i + 1)) (leT 1000 σ (i + 1)) F' (nI i) μ1 := by
          unfold x_L_areSamples_L286
          refine k_c5 h1 ?_
          refine ⟨fun _ => ?_, fun q => absurd mks_3 q⟩
          refine k_c6 h1 ?_
          exact ⟨fun _ => l312 _ hgo, fun q => absurd mks_4 q⟩
        have hl := lst_last (c := 1) hτf hτm (by omega) (by omega)
        have hs1 : mks τ 1 = nI (m + i + 1) := mkN_1 (σ := τ) hτm 1
        refine k_sample (g := 0) h1 (by omega) hs1 (by omega) (by omega) ?_
        rw [show mks τ (134 + (m + i + 1 - 1 - 0) % 32) = mkm τ from hl.1]
        refine ⟨fun _ => ?_, fun q => absurd rfl q⟩
        refine k_c0 h1 ?_
        rw [mks_0]
        refine ⟨fun q => absurd q mkm_le, fun _ => ⟨fun _ => l286, fun hi0 => ?_⟩⟩
        have hi1 : 1 ≤ i := by
          rcases Nat.eq_zero_or_pos i with q | q
          · subst q; exact absurd rfl hi0
          · exact q
        refine k_sample (g := 1) h1 (by omega) hs1 (by omega) (by omega) ?_
        rw [mks_old hτm (by omega) (by omega)]
        have hne : ¬ τ 1 = 0 := by rw [hτm]; exact nI_ne0 (by omega) (by omega)
        have h6 := hτf.2.2.2.2.2.2 hne
        rw [hτm, nI_clamp (by omega)] at h6
        rw [← h6.2]
        exact ⟨fun q => absurd q (rg_nn h6.1 (by omega)), fun _ => l286⟩
      unfold x_L_areSamples_L208
      rintro _ rfl
      refine ⟨fun q => ?_, fun q => ⟨fun q2 => ?_, fun q2 => ?_⟩⟩
      · unfold x_L_areSamples_L238
        exact l239 0 (by rw [if_pos q])
      · unfold x_L_areSamples_L238
        exact l239 0 (by rw [if_neg q, if_pos q2])
      · exact l239 1 (by rw [if_neg q, if_neg q2])
    have l206 : ∀ F' : Int32, FP (fun i => ¬ mkN σ i 2 ≤ σ 2) (i + 1) F' → x_L_areSamples_L206 K (x_L_areSamples_L120 K (k + 1)) (nI c) (ggT σ c) (leT 1000 σ c) (mkN σ c 2 - σ 2) (lstm σ c) U (nI m) x9 (τ 3) (τ 4) (τ 5) (ggT σ (i + 1)) (leT 1000 σ (i + 1)) F' (nI i) (mkm τ) (mkm τ) μ1 := l208
    have l182 : x_L_areSamples_L182 K (x_L_areSamples_L120 K (k + 1)) (nI c) (ggT σ c) (leT 1000 σ c) (mkN σ c 2 - σ 2) (lstm σ c) U (nI m) x9 (τ 3) (τ 4) (τ 5) (ggT σ (i + 1)) F (nI i) (mkm τ) (τ 2) (mkm τ) (leT 1000 σ (i + 1)) μ1 := by
      unfold x_L_areSamples_L182
      rcases hF with ⟨rfl, hno⟩ | ⟨t, t1, t2, t3, t4, rfl⟩
      · refine ⟨fun _ => ?_, fun q => absurd rfl q⟩
        have e2 : τ 2 = σ 2 := by
          have hmono := clp_mono ht i (by omega)
          rw [← hτ] at hmono
          rcases Nat.eq_zero_or_pos i with q | q
          · subst q
            rw [hτ]
            rfl
          · have this : ¬ ¬ mkN σ i 2 ≤ σ 2 := hno i q (Nat.le_refl _)
            rw [← hτ] at this
            have hle : τ 2 ≤ σ 2 := Classical.not_not.mp this
            have := ii_le.mp hle
            exact ii_eq.mpr (by omega)
        refine k_c2 h1 ?_
        rw [e2]
        refine ⟨fun q => ?_, fun q => ?_⟩
        · refine l206 0 (Or.inl ⟨rfl, fun j j1 j2 => ?_⟩)
          rcases Nat.lt_or_ge i j with u | u
          · obtain rfl : j = i + 1 := by omega
            intro hp
            apply hp
            rw [eτ1]
            exact q
          · exact hno j j1 u
        · rw [nI_1]
          refine l208 _ (Or.inr ⟨i + 1, by omega, by omega, ?_, fun j j1 j2 => hno j j1 (by omega), rfl⟩)
          intro hp
          apply q
          rw [← eτ1]
          exact hp
      · refine ⟨fun q => absurd q (nI_ne0 t1 (by omega)), fun _ => ?_⟩
        exact l206 _ (Or.inr ⟨t, t1, by omega, t3, t4, rfl⟩)
    have l166 : x_L_areSamples_L166 K (x_L_areSamples_L120 K (k + 1)) (nI c) (ggT σ c) (leT 1000 σ c) (mkN σ c 2 - σ 2) (lstm σ c) U (nI m) x9 (τ 3) (τ 4) (τ 5) (leT 1000 σ i) F (nI i) (mkm τ) (τ 2) (mkm τ) (ggT σ (i + 1)) μ1 := by
      unfold x_L_areSamples_L166
      refine ⟨fun q => ?_, fun q => ?_⟩
      · rw [if_neg (Int32.not_lt.mpr q)] at el
        rw [← el]
        exact l182
      · rw [if_pos (Int32.not_le.mp q)] at el
        rw [el] at l182
        exact l182
    refine ⟨fun q => ?_, fun q => ?_⟩
    · rw [if_neg (Int32.not_lt.mpr q)] at eg
      rw [eg] at l166
      exact l166
    · rw [if_pos (Int32.not_le.mp q)] at eg
      rw [eg] at l166
      exact l166
theorem a_samples {x m : Nat} (hx : x < 2 ^ 31) (h : CI (ct + 33) μ S hl σ z sl) (hm : σ 1 = nI m) (hmb : m + 100 ≤ 999999) (hK : ∀ μ' S' hl' c, 1 ≤ c → c ≤ 31 → CI ct μ' S' hl' (mkN σ c) (upd z 0 1) (upS sl 0 σ) → K 1 μ') : x_L_areSamples (nI x) μ K := by
  unfold x_L_areSamples
  intro v1 hv
  obtain ⟨c, hc⟩ : ∃ c, c = 1 + x % 31 := ⟨_, rfl⟩
  have hv : v1 = nI c := by
    rw [hv, hc]
    show nI 1 + (nI x - nI x / nI 31 * nI 31) = _
    rw [pk_rem hx (by omega) (by omega), nI_add]
  subst hv
  refine k_ifMade h hm (by omega) (by omega) (by omega) (by decide) (by decide) (fun r μ1 hr h => ?_)
  obtain rfl := hr.1 rfl
  refine k_ifMade h hm (by omega) (by omega) (by omega) (by decide) (by decide) (fun r μ1 hr h => ?_)
  obtain rfl := (hr.2 (by decide)).1 rfl
  refine k_ifMade h hm (by omega) (by omega) (by omega) (by decide) (by decide) (fun r μ1 hr h => ?_)
  obtain rfl := ((hr.2 (by decide)).2 (by decide)).1 rfl
  refine k_ifMade h hm (by omega) (by omega) (by omega) (by decide) (by decide) (fun r μ1 hr h => ?_)
  obtain rfl := ((hr.2 (by decide)).2 (by decide)).2 (by decide)
  refine k_untilClip h (fun U μ1 hU h => ?_)
  refine k_c1 h ?_
  refine k_c2 h ?_
  refine k_c5 h ?_
  refine k_c6 h ?_
  rw [hm]
  have l87 : x_L_areSamples_L87 K (nI c) (ggT σ c) (leT 1000 σ c) (mkN σ c 2 - σ 2) (lstm σ c) U (nI m) (σ 2) (σ 3) (σ 4) (σ 5) μ1 := by
    unfold x_L_areSamples_L87
    refine k_save (s := 0) h (by omega) (fun μ2 h2 => ?_)
    refine ⟨fun _ => ?_, fun q => absurd hm q⟩
    unfold x_L_areSamples_L115
    have h3 : CI (ct + 2 + c) μ2 S hl σ (upd z 0 1) (upS sl 0 σ) := CI.dns (31 - c) (by rw [show ct + 2 + c + (31 - c) = ct + 33 by omega]; exact h2)
    exact ⟨c + 1, as_loop h.2.1 hm hmb (by omega) (by omega) hU rfl (fun μ' S' hl' h' => hK μ' S' hl' c (by omega) (by omega) h') c 0 μ2 S hl 0 (by omega) h3 (Or.inl ⟨rfl, fun j j1 j2 => absurd j2 (by omega)⟩)⟩
  refine ⟨fun q => ?_, fun q => ?_⟩
  · have hm0 : m = 0 := by
      rcases Nat.eq_zero_or_pos m with u | u
      · exact u
      · exact absurd q (nI_nle u (by omega))
    have e5 : σ 5 = -1 := h.2.1.2.2.2.2.2.1 (by rw [hm, hm0]; rfl)
    rw [e5] at l87
    exact l87
  · have hm0 : 0 < m := by
      rcases Nat.eq_zero_or_pos m with u | u
      · subst u; exact absurd (Int32.le_refl _) q
      · exact u
    refine k_sample (g := 0) h (by omega) hm (by omega) hm0 ?_
    have h6 := h.2.1.2.2.2.2.2.2 (by rw [hm]; exact nI_ne0 hm0 (by omega))
    rw [hm, nI_clamp (by omega)] at h6
    rw [Nat.sub_zero, ← h6.2]
    exact l87
end AS
