/-! what if: the first of some -/
theorem s5_uc {K : Int32 → Mem → Prop} {n : Nat} {a : Int32} {μ : Mem} (h : xb_X5_untilClip_L13 K (x_X5_untilClip_L13 K n) a μ) : x_X5_untilClip_L13 K (n + 1) a μ := h
theorem s6_im {K : Int32 → Mem → Prop} {n : Nat} {a b c d e f : Int32} {μ : Mem} (h : xb_X6_ifMade_L40 K (x_X6_ifMade_L40 K n) a b c d e f μ) : x_X6_ifMade_L40 K (n + 1) a b c d e f μ := h
theorem s5_im {K : Int32 → Mem → Prop} {n : Nat} {a b c d e : Int32} {μ : Mem} (h : xb_X5_ifMade_L44 K (x_X5_ifMade_L44 K n) a b c d e μ) : x_X5_ifMade_L44 K (n + 1) a b c d e μ := h
def FS (P : Nat → Prop) (N : Nat) (R : Int32) : Prop := (∃ t, 1 ≤ t ∧ t ≤ N ∧ P t ∧ (∀ i, 1 ≤ i → i < t → ¬ P i) ∧ R = nI t) ∨ ((∀ i, 1 ≤ i → i ≤ N → ¬ P i) ∧ R = -6)
theorem FS.one {P : Nat → Prop} {N : Nat} {R R' : Int32} (h : FS P N R) (h' : FS P N R') : R = R' := by
  rcases h with ⟨t, t1, t2, t3, t4, rfl⟩ | ⟨t1, rfl⟩ <;> rcases h' with ⟨u, u1, u2, u3, u4, rfl⟩ | ⟨u1, rfl⟩
  · have : t = u := by
      rcases Nat.lt_trichotomy t u with z | z | z
      · exact absurd t3 (u4 t t1 z)
      · exact z
      · exact absurd u3 (t4 u u1 z)
    rw [this]
  · exact absurd t3 (u1 t t1 t2)
  · exact absurd u3 (t1 u u1 u2)
  · rfl
theorem inv_what {ct : Nat} {μ μ1 : Mem} {r1 r2 : Nat → Int32} (h : Inv ct μ) (hF : Fr 17 33 μ μ1) (hr : ∀ k, k < 166 → r2 k = μ 169 k) : Inv ct (um (um μ1 171 r1) 169 r2) := by
  obtain ⟨S, hl, sl, a1, a2, a3, a4, a5, a6, a7, a8⟩ := h
  have e : ∀ q, (q < 17 ∨ 33 ≤ q) → q ≠ 171 → q ≠ 169 → um (um μ1 171 r1) 169 r2 q = μ q := fun q q1 q2 q3 => by rw [um_n q3, um_n q2, hF q q1]
  refine ⟨S, hl, sl, ?_, ?_, a3, a4.fr (fun q q1 q2 => e q (by omega) (by omega) (by omega)), ?_, a6, a7.fr (fun q _ q2 => e q (by omega) (by omega) (by omega)) (e _ (by omega) (by omega) (by omega)) (e _ (by omega) (by omega) (by omega)), a8.fr (by rw [e _ (by omega) (by omega) (by omega)]) (e _ (by omega) (by omega) (by omega)) (by rw [e _ (by omega) (by omega) (by omega)]) (e _ (by omega) (by omega) (by omega))⟩
  · rw [um_s]
    exact (a1.congr a2 hr).fr (fun q q1 q2 => e q (by omega) (by omega) (by omega))
  · rw [um_s]
    exact a2.congr hr
  · rw [e _ (by omega) (by omega) (by omega), e _ (by omega) (by omega) (by omega)]
    exact a5
/-! untilClip -/
theorem mks_2 {σ : Nat → Int32} : mks σ 2 = σ 2 + (if mix σ ≤ σ 0 then 0 else 1) := (goT_lo (by omega) 4).trans mk1_2
theorem clp_mono {n : Int} {σ : Nat → Int32} (hf : Wf n σ) : ∀ k : Nat, n + k < 1073741824 → (σ 2).toInt ≤ (mkN σ k 2).toInt
  | 0, _ => Int.le_refl _
  | k + 1, hk => by
    have ih := clp_mono hf k (by omega)
    have hw := mkN_wf hf k (by omega)
    have h1 := hw.2.1
    have h2 := hw.2.2.1
    show _ ≤ (mks (mkN σ k) 2).toInt
    rw [mks_2]
    by_cases h : mix (mkN σ k) ≤ mkN σ k 0
    · rw [if_pos h, Int32.add_zero]; exact ih
    · rw [if_neg h]
      have h12 := h1.2
      have : (mkN σ k 2 + 1).toInt = (mkN σ k 2).toInt + 1 := by rw [ii_add] <;> simp <;> omega
      omega
theorem op_untilClip {ct : Nat} {μ : Mem} (h : Inv ct μ) : x_X5_untilClip μ (fun r μ1 => x_X6_untilClip μ1 (fun r' μ2 => r = r' ∧ Inv ct μ2)) := by
  obtain ⟨S, hl, sl, hx⟩ := id h
  obtain ⟨a1, a2, a3, a4, a5, a6, a7, a8⟩ := id hx
  obtain ⟨σ, hσ⟩ : ∃ σ, σ = μ 169 := ⟨_, rfl⟩
  rw [← hσ] at a1 a2
  let P : Nat → Prop := fun i => ¬ mkN σ i 2 ≤ σ 2
  -- the reference
  have hM : ∀ μ1 : Mem, Fr 17 33 μ μ1 → ∀ r, FS P 2000 r → x_X6_untilClip μ1 (fun r' μ2 => r = r' ∧ Inv ct μ2) := by
    intro μ1 hF r hr
    unfold x_X6_untilClip
    apply q6_keepTrial
    intro r1 hr1
    have e169 : μ1 169 = σ := by rw [hF _ (by omega), hσ]
    have base : um (um μ1 171 r1) 169 (mkN σ 0) = um μ1 171 r1 := by
      have : mkN σ 0 = um μ1 171 r1 169 := by rw [um_n (by omega), e169]; rfl
      rw [this, um_self]
    have t2 : r1 2 = σ 2 := by rw [hr1 2 (by omega), e169]
    have l61 : ∀ (i : Nat) (b : Int32), (if b = 0 then -6 else nI i) = r → x_X6_untilClip_L61 (fun r' μ2 => r = r' ∧ Inv ct μ2) (nI i) b (um (um μ1 171 r1) 169 (mkN σ i)) := by
      intro i b hb
      unfold x_X6_untilClip_L61
      apply q6_putBack
      intro r2 hr2
      rw [um_um]
      have hinv : Inv ct (um (um μ1 171 r1) 169 r2) := inv_what h hF (fun k hk => by rw [hr2 k hk, um_n (by omega), um_s, hr1 k hk, e169, hσ])
      refine ⟨fun z => ⟨?_, hinv⟩, fun z => ⟨?_, hinv⟩⟩
      · rw [if_pos z] at hb; exact hb.symm
      · rw [if_neg z] at hb; exact hb.symm
    have l41 : ∀ i : Nat, (P i → r = nI i) → (¬ P i → r = -6) → x_X6_untilClip_L41 (fun r' μ2 => r = r' ∧ Inv ct μ2) (nI i) (um (um μ1 171 r1) 169 (mkN σ i)) := by
      intro i h1 h2
      unfold x_X6_untilClip_L41
      rw [um_s, um_n (by omega), um_s, t2]
      refine ⟨fun z => l61 i 0 ?_, fun z => l61 i 1 ?_⟩
      · rw [if_pos rfl]; exact (h2 (fun w => w z)).symm
      · rw [if_neg (by decide)]; exact (h1 z).symm
    have loop : ∀ (k i : Nat), i + k = 2000 → (∀ j, 1 ≤ j → j < i → ¬ P j) → x_X6_untilClip_L8 (fun r' μ2 => r = r' ∧ Inv ct μ2) (k + 1) (nI i) (um (um μ1 171 r1) 169 (mkN σ i)) := by
      intro k
      induction k with
      | zero =>
        intro i hi hj
        obtain rfl : i = 2000 := by omega
        show xb_X6_untilClip_L8 _ _ _ _
        unfold xb_X6_untilClip_L8
        refine ⟨fun _ => l41 2000 (fun hp => ?_) (fun hp => ?_), fun z => absurd (nI_le (a := 2000) (b := 2000) (by omega) (by omega)) z⟩
        · exact FS.one hr (Or.inl ⟨2000, by omega, by omega, hp, hj, rfl⟩)
        · refine FS.one hr (Or.inr ⟨fun j j1 j2 => ?_, rfl⟩)
          rcases Nat.lt_or_ge j 2000 with z | z
          · exact hj j j1 z
          · obtain rfl : j = 2000 := by omega
            exact hp
      | succ k ih =>
        intro i hi hj
        have hmono := clp_mono a2 i (by omega)
        show xb_X6_untilClip_L8 _ _ _ _
        unfold xb_X6_untilClip_L8
        refine ⟨fun z => absurd z (nI_ge (a := i) (b := 2000) (by omega) (by omega)), fun _ => ?_⟩
        rw [um_s, um_n (by omega : 171 ≠ 169), um_s, t2]
        refine ⟨fun z => ?_, fun z => ?_⟩
        · refine q6_makes (n := 999999 + i) (by rw [um_s]; exact mkN_wf a2 i (by omega)) (by omega) ?_
          rintro _ rfl
          rw [um_s, um_um, nI_1]
          refine ih (i + 1) (by omega) (fun j j1 j2 => ?_)
          rcases Nat.lt_or_ge j i with w | w
          · exact hj j j1 w
          · obtain rfl : j = i := by omega
            intro hp
            exact hp (by rw [z]; exact Int32.le_refl _)
        · have hp : P i := fun w => z (ii_eq.mpr (by have := ii_le.mp w; omega))
          have hi1 : 1 ≤ i := by
            rcases Nat.eq_zero_or_pos i with w | w
            · subst w; exact absurd rfl z
            · exact w
          exact l41 i (fun _ => FS.one hr (Or.inl ⟨i, hi1, by omega, hp, hj, rfl⟩)) (fun w => absurd hp w)
    have := loop 2000 0 (by omega) (fun j j1 j2 => absurd j2 (by omega))
    rw [base] at this
    exact ⟨2001, this⟩
  unfold x_X5_untilClip
  refine q3_take (by omega) a1 a2 (fun μ0 hs0 hF0 => ?_)
  have loop : ∀ (k i : Nat) (μ1 : Mem), i + k = 2001 → 1 ≤ i → Snd μ1 17 (mkN σ (i - 1)) → Fr 17 33 μ μ1 → (∀ j, 1 ≤ j → j < i → ¬ P j) → x_X5_untilClip_L13 (fun r μ1 => x_X6_untilClip μ1 (fun r' μ2 => r = r' ∧ Inv ct μ2)) (k + 1) (nI i) μ1 := by
    intro k
    induction k with
    | zero =>
      intro i μ1 hi hi1 hs hF hj
      obtain rfl : i = 2001 := by omega
      refine s5_uc ?_
      unfold xb_X5_untilClip_L13
      refine ⟨fun _ => hM μ1 hF _ (Or.inr ⟨fun j j1 j2 => hj j j1 (by omega), rfl⟩), fun z => absurd (nI_lt (a := 2000) (b := 2001) (by omega) (by omega)) z⟩
    | succ k ih =>
      intro i μ1 hi hi1 hs hF hj
      refine s5_uc ?_
      unfold xb_X5_untilClip_L13
      refine ⟨fun z => absurd z (nI_nlt (a := 2000) (b := i) (by omega) (by omega)), fun _ => ?_⟩
      refine q3_makeOne hs (mkN_wf a2 (i - 1) (by omega)) (by omega) (fun μ2 hs2 hF2 => ?_)
      have hs2 : Snd μ2 17 (mkN σ i) := by
        obtain ⟨j, rfl⟩ : ∃ j, i = j + 1 := ⟨i - 1, by omega⟩
        exact hs2
      have hF3 := hF.trans hF2
      rw [hs2.2.2.1, hF3 1 (by omega), a1.2.2.1]
      refine ⟨fun z => ?_, fun z => ?_⟩
      · rintro _ rfl
        rw [nI_1]
        refine ih (i + 1) μ2 (by omega) (by omega) hs2 hF3 (fun j j1 j2 => ?_)
        rcases Nat.lt_or_ge j i with w | w
        · exact hj j j1 w
        · obtain rfl : j = i := by omega
          exact fun hp => hp z
      · exact hM μ2 hF3 _ (Or.inl ⟨i, hi1, by omega, z, hj, rfl⟩)
  exact ⟨2001, loop 2000 1 μ0 (by omega) (by omega) hs0 hF0 (fun j j1 j2 => absurd j2 (by omega))⟩
/-! ifMade -/
def ggT (σ : Nat → Int32) : Nat → Int32
  | 0 => 0
  | i + 1 => if ggT σ i < mkm (mkN σ i) then mkm (mkN σ i) else ggT σ i
def leT (c0 : Int32) (σ : Nat → Int32) : Nat → Int32
  | 0 => c0
  | i + 1 => if mkm (mkN σ i) < leT c0 σ i then mkm (mkN σ i) else leT c0 σ i
theorem leT_same {σ : Nat → Int32} (h : rg (mkm σ) 0 960) : ∀ i, 1 ≤ i → leT 960 σ i = leT 1000 σ i
  | 0, hi => absurd hi (by omega)
  | 1, _ => by
    have h2 := h.2
    show (if mkm σ < 960 then mkm σ else 960) = (if mkm σ < 1000 then mkm σ else 1000)
    have e2 : mkm σ < 1000 := ii_lt.mpr (by simp; omega)
    rw [if_pos e2]
    by_cases e1 : mkm σ < 960
    · rw [if_pos e1]
    · rw [if_neg e1]
      apply ii_eq.mpr
      have : ¬ (mkm σ).toInt < 960 := fun z => e1 (ii_lt.mpr (by simpa using z))
      simp
      omega
  | i + 2, _ => by
    have := leT_same h (i + 1) (by omega)
    unfold leT
    rw [this]
theorem op_ifMade {ct : Nat} {μ : Mem} {a v : Int32} (h : Inv ct μ) : x_X5_ifMade a v μ (fun r μ1 => x_X6_ifMade a v μ1 (fun r' μ2 => r = r' ∧ Inv ct μ2)) := by
  obtain ⟨S, hl, sl, hx⟩ := id h
  obtain ⟨a1, a2, a3, a4, a5, a6, a7, a8⟩ := id hx
  obtain ⟨m, hm, hm2⟩ := a2.made (by omega)
  obtain ⟨σ, hσ⟩ : ∃ σ, σ = μ 169 := ⟨_, rfl⟩
  rw [← hσ] at a1 a2 hm
  unfold x_X5_ifMade
  apply q5_out
  · intro l1 l2
    apply if0
    apply q5_out
    · intro k1 k2
      apply if0
      obtain ⟨c, hc, rfl⟩ := rg_nI (n := 2000) (show rg a 0 2000 from ⟨Int.le_trans (by decide) (rg_le (a := 1) (b := 2000) rfl rfl l1 l2).1, (rg_le (a := 1) (b := 2000) rfl rfl l1 l2).2⟩)
      have hc1 : 1 ≤ c := by
        rcases Nat.eq_zero_or_pos c with z | z
        · subst z; exact absurd l1 (by decide)
        · exact z
      have ht := a2.tight hm (by omega)
      -- the reference
      have hM : ∀ μ1 : Mem, Fr 17 33 μ μ1 → ∀ r, ((v = 0 → r = ggT σ c) ∧ (¬ v = 0 → (v = 1 → r = leT 1000 σ c) ∧ (¬ v = 1 → (v = 2 → r = mkN σ c 2 - σ 2) ∧ (¬ v = 2 → r = lstm σ c)))) → x_X6_ifMade (nI c) v μ1 (fun r' μ2 => r = r' ∧ Inv ct μ2) := by
        intro μ1 hF r hr
        unfold x_X6_ifMade
        apply i6_in l1 l2
        apply if1
        apply i6_in k1 k2
        apply if1
        apply q6_keepTrial
        intro r1 hr1
        have e169 : μ1 169 = σ := by rw [hF _ (by omega), hσ]
        have base : um (um μ1 171 r1) 169 (mkN σ 0) = um μ1 171 r1 := by
          have : mkN σ 0 = um μ1 171 r1 169 := by rw [um_n (by omega), e169]; rfl
          rw [this, um_self]
        have t2 : r1 2 = σ 2 := by rw [hr1 2 (by omega), e169]
        have loop : ∀ (k i : Nat), i + k = c → x_X6_ifMade_L40 (fun r' μ2 => r = r' ∧ Inv ct μ2) (k + 1) (nI c) v (ggT σ i) (leT 1000 σ i) (lstm σ i) (nI i) (um (um μ1 171 r1) 169 (mkN σ i)) := by
          intro k
          induction k with
          | zero =>
            intro i hi
            obtain rfl : i = c := by omega
            refine s6_im ?_
            unfold xb_X6_ifMade_L40
            refine ⟨fun _ => ?_, fun z => absurd (Int32.le_refl _) z⟩
            rw [um_s, um_n (by omega : 171 ≠ 169), um_s, t2]
            rintro _ rfl
            apply q6_putBack
            intro r2 hr2
            rw [um_um]
            have hinv : Inv ct (um (um μ1 171 r1) 169 r2) := inv_what h hF (fun k hk => by rw [hr2 k hk, um_n (by omega), um_s, hr1 k hk, e169, hσ])
            exact ⟨fun z => ⟨hr.1 z, hinv⟩, fun z => ⟨fun z2 => ⟨(hr.2 z).1 z2, hinv⟩, fun z2 => ⟨fun z3 => ⟨((hr.2 z).2 z2).1 z3, hinv⟩, fun z3 => ⟨((hr.2 z).2 z2).2 z3, hinv⟩⟩⟩⟩
          | succ k ih =>
            intro i hi
            have hnx := ih (i + 1) (by omega)
            unfold ggT leT at hnx
            refine s6_im ?_
            unfold xb_X6_ifMade_L40
            refine ⟨fun z => absurd z (nI_ge (a := i) (b := c) (by omega) (by omega)), fun _ => ?_⟩
            refine q6_makes (n := m + i) (by rw [um_s]; exact mkN_wf ht i (by omega)) (by omega) ?_
            rw [um_s, um_um]
            have l64 : ∀ g : Int32, g = (if ggT σ i < mkm (mkN σ i) then mkm (mkN σ i) else ggT σ i) → x_X6_ifMade_L64 (fun r' μ2 => r = r' ∧ Inv ct μ2) (x_X6_ifMade_L40 (fun r' μ2 => r = r' ∧ Inv ct μ2) (k + 1)) (nI c) v (leT 1000 σ i) (mkm (mkN σ i)) (nI i) g (um (um μ1 171 r1) 169 (mks (mkN σ i))) := by
              intro g hg
              rw [← hg] at hnx
              unfold x_X6_ifMade_L64
              refine ⟨fun z => ?_, fun z => ?_⟩
              · unfold x_X6_ifMade_L79
                rintro _ rfl
                rw [nI_1]
                rw [if_neg (Int32.not_lt.mpr z)] at hnx
                exact hnx
              · unfold x_X6_ifMade_L79
                rintro _ rfl
                rw [nI_1]
                rw [if_pos (Int32.not_le.mp z)] at hnx
                exact hnx
            exact ⟨fun z => l64 _ (if_neg (Int32.not_lt.mpr z)).symm, fun z => l64 _ (if_pos (Int32.not_le.mp z)).symm⟩
        have := loop c 0 (by omega)
        rw [base] at this
        exact ⟨c + 1, this⟩
      refine q3_take (by omega) a1 a2 (fun μ0 hs0 hF0 => ?_)
      have loop : ∀ (k i : Nat) (μ1 : Mem), i + k = c → Snd μ1 17 (mkN σ i) → Fr 17 33 μ μ1 → x_X5_ifMade_L44 (fun r μ1 => x_X6_ifMade (nI c) v μ1 (fun r' μ2 => r = r' ∧ Inv ct μ2)) (k + 1) (nI c) v (ggT σ i) (leT 960 σ i) (nI i) μ1 := by
        intro k
        induction k with
        | zero =>
          intro i μ1 hi hs hF
          obtain rfl : i = c := by omega
          refine s5_im ?_
          unfold xb_X5_ifMade_L44
          refine ⟨fun _ => ?_, fun z => absurd (Int32.le_refl _) z⟩
          rw [hs.2.2.1, hF 1 (by omega), a1.2.2.1]
          refine ⟨fun z0 => hM μ1 hF _ ⟨fun _ => rfl, fun z => absurd z0 z⟩, fun z0 => ⟨fun z1 => hM μ1 hF _ ⟨fun z => absurd z z0, fun _ => ⟨fun _ => leT_same (mkm_rg a2) i hc1, fun z => absurd z1 z⟩⟩, fun z1 => ⟨fun z2 => hM μ1 hF _ ⟨fun z => absurd z z0, fun _ => ⟨fun z => absurd z z1, fun _ => ⟨fun _ => rfl, fun z => absurd z2 z⟩⟩⟩, fun z2 => ?_⟩⟩⟩
          have hl := lst_last a2 hm (c := i) (by omega) hc1
          refine q3_ago (m := m + i) (g := 0) hs (mkN_1 hm i) (by omega) (by omega) ?_
          rw [hl.1]
          exact hM μ1 hF _ ⟨fun z => absurd z z0, fun _ => ⟨fun z => absurd z z1, fun _ => ⟨fun z => absurd z z2, fun _ => rfl⟩⟩⟩
        | succ k ih =>
          intro i μ1 hi hs hF
          refine s5_im ?_
          unfold xb_X5_ifMade_L44
          refine ⟨fun z => absurd z (nI_ge (a := i) (b := c) (by omega) (by omega)), fun _ => ?_⟩
          refine q3_makeOne hs (mkN_wf ht i (by omega)) (by omega) (fun μ2 hs2 hF2 => ?_)
          have hl := lst_last a2 hm (c := i + 1) (by omega) (by omega)
          refine q3_ago (m := m + (i + 1)) (g := 0) hs2 (mkN_1 hm (i + 1)) (by omega) (by omega) ?_
          rw [show mks (mkN σ i) (134 + (m + (i + 1) - 1 - 0) % 32) = mkm (mkN σ i) from hl.1]
          rintro _ rfl
          refine q3_ago (m := m + (i + 1)) (g := 0) hs2 (mkN_1 hm (i + 1)) (by omega) (by omega) ?_
          rw [show mks (mkN σ i) (134 + (m + (i + 1) - 1 - 0) % 32) = mkm (mkN σ i) from hl.1]
          rintro _ rfl _ rfl
          rw [nI_1]
          exact ih (i + 1) μ2 (by omega) hs2 (hF.trans hF2)
      exact ⟨c + 1, loop c 0 μ0 (by omega) hs0 hF0⟩
    · intro k
      apply if1
      unfold x_X6_ifMade
      apply i6_in l1 l2
      apply if1
      apply i6_out k
      exact if0 ⟨rfl, h⟩
  · intro l
    apply if1
    unfold x_X6_ifMade
    apply i6_out l
    exact if0 ⟨rfl, h⟩
