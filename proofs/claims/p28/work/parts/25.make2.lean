/-! a sample is made: the class's -/
theorem q3_agoX {o m g : Nat} {μ : Mem} {σ : Nat → Int32} {K : Int32 → Mem → Prop} (h1 : μ o 3 = nI m) (h7 : ∀ k, k < 32 → μ (o + 3) k = σ (134 + k)) (hm2 : m < 2 ^ 30) (hg : g < m) (hK : K (σ (134 + (m - 1 - g) % 32)) μ) : x_X3_mixtureAgo o (nI g) μ K := by
  unfold x_X3_mixtureAgo
  rw [h1, n_1, pk_sub (by omega), pk_sub (by omega)]
  apply qJ_fm (by omega)
  have : (m - 1 - g) % 32 < 32 := Nat.mod_lt _ (by omega)
  refine ⟨vp_in_nI this (by omega), ?_⟩
  rw [nI_clamp (by omega), h7 _ this]
  exact hK
theorem mk1_ring {σ : Nat → Int32} {m k : Nat} (hm : σ 1 = nI m) (hm2 : m < 2 ^ 30) (hk : k < 32) : mk1 σ (134 + k) = if k = m % 32 then mkm σ else σ (134 + k) := by
  have hror : ror σ = 134 + m % 32 := by unfold ror; rw [hm, nI_clamp (by omega)]
  unfold mk1
  rw [hror]
  by_cases h : k = m % 32
  · rw [if_pos (by omega), if_pos h]
  · rw [if_neg (by omega), if_neg h, if_neg (by omega), if_neg (by omega), if_neg (by omega), if_neg (by omega), if_neg (by omega)]
theorem q3_makeOne {o : Nat} {n : Int} {μ : Mem} {σ : Nat → Int32} {K : Mem → Prop} (hs : Snd μ o σ) (hf : Wf n σ) (hn : n < 1073741824) (hK : ∀ μ', Snd μ' o (mks σ) → Fr o (o + 16) μ μ' → K μ') : x_X3_makeOne o μ K := by
  have hw1 := mk1_wf hf hn
  have hmr := mkm_rg hf
  have loop : ∀ (k i : Nat) (μ1 : Mem), i + k = 4 → Snd μ1 o (goT (mk1 σ) i) → Fr o (o + 16) μ μ1 → x_X3_makeOne_L37 K (k + 1) o (nI i) μ1 := by
    intro k
    induction k with
    | zero =>
      intro i μ1 hi h1 h2
      obtain rfl : i = 4 := by omega
      show xb_X3_makeOne_L37 _ _ _ _ _
      unfold xb_X3_makeOne_L37
      exact ⟨fun _ => hK μ1 h1 h2, fun h => absurd (nI_le (a := 4) (b := 4) (by omega) (by omega)) h⟩
    | succ k ih =>
      intro i μ1 hi h1 h2
      have hi4 : i < 4 := by omega
      have hwi := goT_wf hw1 i (by omega)
      have hz := (hwi.2.2.2.2.1 i hi4).2.2.2.2.1
      have hcw := h1.2.2.2.2.2.2.2 i hi4
      have hc := hcw.2.2.2.2.1
      show xb_X3_makeOne_L37 _ _ _ _ _
      unfold xb_X3_makeOne_L37
      refine ⟨fun h => absurd h (nI_ge (a := i) (b := 4) (by omega) (by omega)), fun _ => ?_⟩
      simp (disch := omega) only [nI_clamp, vp_nI, true_and, hc]
      refine ⟨fun h => ?_, fun h => ?_⟩
      · unfold x_X3_makeOne_L63
        rintro _ rfl
        rw [show nI i + 1 = nI (i + 1) from (nI_succ i).symm]
        refine ih (i + 1) μ1 (by omega) ?_ h2
        unfold goT
        rw [if_neg (by rw [h]; decide)]
        exact h1
      · refine q4_goOn hcw (hwi.2.2.2.2.1 i hi4) (fun μ2 hc2 hfr => ?_)
        unfold x_X3_makeOne_L63
        rintro _ rfl
        rw [show nI i + 1 = nI (i + 1) from (nI_succ i).symm]
        refine ih (i + 1) μ2 (by omega) ?_ (h2.trans (hfr.mono (by omega) (by omega)))
        unfold goT
        rw [if_pos (hz.resolve_left h)]
        exact h1.putw hwi hi4 (gw_wf (hwi.2.2.2.2.1 i hi4)).2.2.2.2.2.1 hc2 hfr
  obtain ⟨g0, g1, g2, g3, g4, g5, g6⟩ := id hf
  obtain ⟨m, hm, hmb⟩ : ∃ m : Nat, σ 1 = nI m ∧ m < 2 ^ 30 := by
    refine ⟨(σ 1).toNatClampNeg, (nI_tn g1.1).symm, ?_⟩
    have := g1.2
    show (σ 1).toInt.toNat < 2 ^ 30
    omega
  obtain ⟨s0, s1, s2, s3, s4, s5, s6, s7⟩ := id hs
  have hlt : m % 32 < 32 := Nat.mod_lt _ (by omega)
  have l26 : ∀ ρ : Nat → Int32, ρ 0 = σ 0 → ρ 3 = σ 1 → ρ 5 = σ 3 → ρ 4 = mk1 σ 2 → ρ 6 = mk1 σ 4 → x_X3_keepMixture_L26 (fun μ5 => ∃ n : Nat, x_X3_makeOne_L37 K n o 0 μ5) o (mkm σ) (um μ o ρ) := by
    intro ρ r0 r3 r5 r4 r6
    unfold x_X3_keepMixture_L26
    rintro _ rfl
    simp only [um_s, um_um, r5]
    rw [upd_n (by omega), r3, hm]
    apply qJ_fm (by omega)
    refine ⟨vp_in_nI hlt (by omega), ?_⟩
    rw [nI_clamp (by omega)]
    rintro _ rfl _ rfl
    refine ⟨5, loop 4 0 _ (by omega) ?_ (((Fr.rfl.um (by omega) (by omega)).um (by omega) (by omega)).um (by omega) (by omega))⟩
    simp only [um_n (by omega : o + 3 ≠ o), um_n (by omega : o ≠ o + 3), um_s]
    show Snd _ o (mk1 σ)
    have e3 : upd ρ 5 (σ 3 + mkm σ - (σ 3 + mkm σ) / 1000003 * 1000003) 3 = nI m := by rw [upd_n (by omega), r3, hm]
    rw [e3]
    unfold Snd
    simp only [um_n (by omega : o + 3 ≠ o), um_n (by omega : o ≠ o + 3), um_n (by omega : o + 1 ≠ o), um_n (by omega : o + 1 ≠ o + 3), um_s]
    refine ⟨?_, ?_, ?_, ?_, ?_, fun k hk => ?_, fun k hk => ?_, fun w hw => ?_⟩
    · rw [upd_n (by omega), upd_n (by omega), r0, mk1_0]
    · rw [upd_s, mk1_1, hm]
    · rw [upd_n (by omega), upd_n (by omega), r4]
    · rw [upd_n (by omega), upd_s, mk1_3]
    · rw [upd_n (by omega), upd_n (by omega), r6]
    · rw [mk1_lo (by omega) (by omega)]
      exact s5 k hk
    · rw [mk1_ring hm hmb hk]
      by_cases hk2 : k = m % 32
      · subst hk2
        rw [upd_s, if_pos rfl]
      · rw [upd_n hk2, if_neg hk2]
        exact s6 k hk
    · refine ((s7 w hw).congr (g4 w hw).2.2.2.2.2.1 (ω' := wl (mk1 σ) w) (fun j hj => mk1_wl hw hj)).fr ?_ ?_ ?_
      · rw [um_n (by omega), um_n (by omega), um_n (by omega)]
      · rw [um_n (by omega), um_n (by omega), um_n (by omega)]
      · rw [um_n (by omega), um_n (by omega), um_n (by omega)]
  have l23 : ∀ ρ : Nat → Int32, ρ 0 = σ 0 → ρ 3 = σ 1 → ρ 5 = σ 3 → ρ 4 = mk1 σ 2 → ρ 6 = σ 4 → x_X3_makeOne_L23 K o (mix σ) (um μ o ρ) := by
    intro ρ r0 r3 r5 r4 r6
    unfold x_X3_makeOne_L23
    rintro _ rfl
    rw [um_s, r0]
    have e : (if σ 0 < mix σ then σ 0 else mix σ) = mkm σ := by
      unfold mkm
      by_cases h : mix σ ≤ σ 0
      · rw [if_pos h, if_neg (Int32.not_lt.mpr h)]
      · rw [if_neg h, if_pos (Int32.not_le.mp h)]
    rw [e]
    unfold x_X3_keepMixture
    rw [um_s, r3, hm]
    refine ⟨fun h => ?_, fun h => ?_⟩
    · have hm0 : m = 0 := by
        rcases Nat.eq_zero_or_pos m with z | z
        · exact z
        · exact absurd h (nI_nle z (by omega))
      have h5 : σ 5 = -1 := g5 (by rw [hm, hm0]; rfl)
      refine l26 ρ r0 r3 r5 r4 ?_
      rw [r6, mk1_4, if_pos (by rw [h5]; decide), Int32.add_zero]
    · have hm0 : 0 < m := by
        rcases Nat.eq_zero_or_pos m with z | z
        · exact absurd (by rw [z]; exact Int32.le_refl _) h
        · exact z
      have h1 : ¬ σ 1 = 0 := by rw [hm]; exact nI_ne0 hm0 (by omega)
      obtain ⟨a1, a2⟩ := g6 h1
      rw [hm, nI_clamp (by omega)] at a2
      have hneg : ¬ σ 5 < 0 := fun z => by
        have := ii_lt.mp z
        have := a1.1
        simp at *
        omega
      refine q3_agoX (o := o) (m := m) (g := 0) (σ := σ) (by rw [um_s, r3, hm]) (fun k hk => by rw [um_n (by omega)]; exact s6 k hk) hmb hm0 ?_
      rw [Nat.sub_zero, ← a2]
      refine ⟨fun h => ?_, fun h => ?_⟩
      · refine l26 ρ r0 r3 r5 r4 ?_
        rw [r6, mk1_4, if_neg hneg, if_pos h, Int32.add_zero]
      · rintro _ rfl
        rw [um_um, um_s]
        refine l26 _ ?_ ?_ ?_ ?_ ?_
        · rw [upd_n (by omega), r0]
        · rw [upd_n (by omega), r3]
        · rw [upd_n (by omega), r5]
        · rw [upd_n (by omega), r4]
        · rw [upd_s, r6, mk1_4, if_neg hneg, if_neg h]
  unfold x_X3_makeOne
  apply q3_sum hs hf
  rw [s0]
  refine ⟨fun h => ?_, fun h => ?_⟩
  · have e : um μ o (μ o) = μ := by
      funext q
      by_cases hq : q = o
      · subst hq; rw [um_s]
      · rw [um_n hq]
    have := l23 (μ o) s0 s1 s3 (by rw [s2, mk1_2, if_pos h, Int32.add_zero]) s4
    rw [e] at this
    exact this
  · rintro _ rfl
    refine l23 _ ?_ ?_ ?_ ?_ ?_
    · rw [upd_n (by omega), s0]
    · rw [upd_n (by omega), s1]
    · rw [upd_n (by omega), s3]
    · rw [upd_s, s2, mk1_2, if_neg h]
    · rw [upd_n (by omega), s4]
