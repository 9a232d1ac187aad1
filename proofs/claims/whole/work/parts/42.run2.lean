/-! one order, done on both sides -/
theorem do1 {σ : Nat → Int32} {e : Nat → Nat} (hf : Wf 999999 σ) (hg : ORG e) : ∃ (b : Int32) (σ' : Nat → Int32), Wf 999999 σ' ∧ (b = 0 ∨ b = 1) ∧ (∀ (μ : Mem) (K : Int32 → Mem → Prop), Snd μ 1 σ → ORC (μ 166) e → (∀ μ', Snd μ' 1 σ' → Fr 1 17 μ μ' → K b μ') → x_X5_doOrder μ K) ∧ (∀ (M : Mem) (K : Int32 → Mem → Prop) (i : Nat), M 169 = σ → ORM (M 175) i e → i ≤ 20 → (∀ r, (r < 0 → b = 0) → (¬ r < 0 → b = 1) → K r (um M 169 σ')) → x_X6_does (nI i) M K) := by
  have pre : ∀ (M : Mem) (K : Int32 → Mem → Prop) (i : Nat), ORM (M 175) i e → i ≤ 20 → ((nI (e 1) = 62 → x_X6_sweeps (M 175 (4 * i + 1)) (M 175 (4 * i + 2)) (M 175 (4 * i + 3)) M (fun r9 μ8 => K r9 μ8)) ∧ (¬ (nI (e 1) = 62) → (nI (e 1) = 111 → x_X6_w (M 175 (4 * i + 1)) M (fun r12 μ11 => vp_in (r12 + 4) 166 ∧ x_X6_turns (M 175 (4 * i + 1)) ((1 : Int32) - (μ11 169 (r12 + 4).toNatClampNeg)) μ11 (fun r15 μ14 => K r15 μ14))) ∧ (¬ (nI (e 1) = 111) → (nI (e 1) = 115 → x_X6_steps (M 175 (4 * i + 1)) (M 175 (4 * i + 2)) M (fun r19 μ18 => K r19 μ18)) ∧ (¬ (nI (e 1) = 115) → (nI (e 1) = 116 → x_X6_tables (M 175 (4 * i + 1)) (M 175 (4 * i + 2)) M (fun r23 μ22 => K r23 μ22)) ∧ (¬ (nI (e 1) = 116) → (nI (e 1) = 118 → x_X6_volumes (M 175 (4 * i + 1)) (M 175 (4 * i + 2)) M (fun r27 μ26 => K r27 μ26)) ∧ (¬ (nI (e 1) = 118) → x_X6_makesAll (M 175 (4 * i + 2)) M (fun r30 μ29 => K r30 μ29))))))) → x_X6_does (nI i) M K := by
    intro M K i ho hi h
    unfold x_X6_does
    rintro _ rfl
    rw [show (4 : Int32) = nI 4 from rfl, pk_mul, nI_1, n_2, nI_add, n_3, nI_add, nI_clamp (by omega), nI_clamp (by omega), nI_clamp (by omega), nI_clamp (by omega), ho.1]
    refine ⟨vp_in_nI (by omega) (by omega), ?_⟩
    rintro _ rfl
    refine ⟨vp_in_nI (by omega) (by omega), fun z => ⟨vp_in_nI (by omega) (by omega), vp_in_nI (by omega) (by omega), h.1 z⟩, fun z => ⟨fun z2 => (h.2 z).1 z2, fun z2 => ⟨fun z3 => ⟨vp_in_nI (by omega) (by omega), ((h.2 z).2 z2).1 z3⟩, fun z3 => ⟨fun z4 => ⟨vp_in_nI (by omega) (by omega), (((h.2 z).2 z2).2 z3).1 z4⟩, fun z4 => ⟨fun z5 => ⟨vp_in_nI (by omega) (by omega), ((((h.2 z).2 z2).2 z3).2 z4).1 z5⟩, fun z5 => ⟨vp_in_nI (by omega) (by omega), ((((h.2 z).2 z2).2 z3).2 z4).2 z5⟩⟩⟩⟩⟩⟩
  rcases hg with ⟨h1, h3, h3b⟩ | ⟨hw, hg⟩
  · obtain ⟨m, hm, hm2⟩ := hf.made (by omega)
    rcases Nat.lt_or_ge 999999 (m + e 3) with hb | hb
    · refine ⟨0, σ, hf, Or.inl rfl, fun μ K hs ho hK => ?_, fun M K i hM ho hi hK => pre M K i ho hi ?_⟩
      · unfold x_X5_doOrder
        rw [ho.1, ho.2.1 h1, h1]
        refine ⟨fun _ => ?_, fun z => absurd rfl z⟩
        exact q3_makeSomeNo hs hm (by omega) (by omega) hb ⟨Or.inl rfl, hK μ hs Fr.rfl⟩
      · rw [h1, ho.2.1 h1]
        refine ⟨fun z => absurd z (by decide), fun _ => ⟨fun z => absurd z (by decide), fun _ => ⟨fun z => absurd z (by decide), fun _ => ⟨fun z => absurd z (by decide), fun _ => ⟨fun z => absurd z (by decide), fun _ => ?_⟩⟩⟩⟩⟩
        refine q6_makesAllNo (m := m) (by rw [hM]; exact hm) (by omega) h3 h3b hb ?_
        have := hK (-4) (fun _ => rfl) (fun z => absurd (by decide) z)
        rw [← hM, um_self] at this
        exact this
    · refine ⟨1, mkN σ (e 3), (mkN_wf (hf.tight hm (by omega)) (e 3) (by omega)).mono (by omega), Or.inr rfl, fun μ K hs ho hK => ?_, fun M K i hM ho hi hK => pre M K i ho hi ?_⟩
      · unfold x_X5_doOrder
        rw [ho.1, ho.2.1 h1, h1]
        refine ⟨fun _ => ?_, fun z => absurd rfl z⟩
        exact q3_makeSome hs hf hm hb (fun μ' hs' hfr => ⟨Or.inr rfl, hK μ' hs' hfr⟩)
      · rw [h1, ho.2.1 h1]
        refine ⟨fun z => absurd z (by decide), fun _ => ⟨fun z => absurd z (by decide), fun _ => ⟨fun z => absurd z (by decide), fun _ => ⟨fun z => absurd z (by decide), fun _ => ⟨fun z => absurd z (by decide), fun _ => ?_⟩⟩⟩⟩⟩
        refine q6_makesAll (n := 999999) (m := m) (by rw [hM]; exact hf) (by rw [hM]; exact hm) h3 h3b hb ?_
        rw [hM]
        have := lst_last hf hm (c := e 3) (by omega) h3
        exact hK _ (fun z => absurd z (rg_nn this.2 (by omega))) (fun _ => rfl)
  · have n46 : e 1 ≠ 46 := by omega
    have cls : ∀ (μ : Mem) (K : Int32 → Mem → Prop), ORC (μ 166) e → ((nI (e 1) = 62 → x_X4_addSweep (5 + 3 * e 2) (μ 166 5) (μ 166 6) μ (fun r10 μ9 => zb r10 ∧ K r10 μ9)) ∧ (¬ (nI (e 1) = 62) → (nI (e 1) = 111 → ((μ (5 + 3 * e 2) 4) = 0 → ∀ μ13 : Mem, μ13 = um μ (5 + 3 * e 2) (upd (μ (5 + 3 * e 2)) 4 1) → K 1 μ13) ∧ (¬ ((μ (5 + 3 * e 2) 4) = 0) → ∀ μ14 : Mem, μ14 = um μ (5 + 3 * e 2) (upd (μ (5 + 3 * e 2)) 4 0) → K 1 μ14)) ∧ (¬ (nI (e 1) = 111) → (nI (e 1) = 115 → x_X4_changeStep (5 + 3 * e 2) (μ 166 5) μ (fun μ16 => K 1 μ16)) ∧ (¬ (nI (e 1) = 115) → (nI (e 1) = 116 → ∀ μ18 : Mem, μ18 = um μ (5 + 3 * e 2) (upd (μ (5 + 3 * e 2)) 2 (μ 166 5)) → K 1 μ18) ∧ (¬ (nI (e 1) = 116) → (nI (e 1) = 118 → ∀ μ20 : Mem, μ20 = um μ (5 + 3 * e 2) (upd (μ (5 + 3 * e 2)) 3 (μ 166 5)) → K 1 μ20) ∧ (¬ (nI (e 1) = 118) → K 0 μ)))))) → x_X5_doOrder μ K := by
      intro μ K ho h
      unfold x_X5_doOrder
      rw [ho.1, ho.2.2.1 n46]
      refine ⟨fun z => absurd ((nI_eq (by omega) (by omega)).mp (show nI (e 1) = nI 46 from z)) n46, fun _ => ?_⟩
      apply q5_wheel
      · intro w hw2 hew
        apply if0
        rw [ho.1, ho.2.2.1 n46, nI_clamp (by omega)]
        exact ⟨vp_in_nI hw (by omega), h⟩
      · intro z
        exact absurd rfl (z (e 2) hw)
    rcases hg with ⟨h1, h3, h4, h5⟩ | h1 | ⟨h1, h3⟩ | ⟨h1, h3⟩ | ⟨h1, h3⟩
    · obtain ⟨m, hm, em⟩ := rg_nI (n := 4) (hf.2.2.2.2.1 _ hw).2.2.2.2.2.1
      have n111 : e 1 ≠ 111 := by omega
      rcases Nat.lt_or_ge m 4 with hm4 | hm4
      · have hω := addw_wf (e := nI (e 3)) (s := nI (e 4)) (hf.2.2.2.2.1 _ hw) em hm4 (rg_of (by omega) (by omega) (by omega)) (rg_of (by omega) (by omega) (by omega))
        refine ⟨1, putw σ (e 2) (addw (wl σ (e 2)) m (nI (e 3)) (nI (e 4))), hf.putw hw hω, Or.inr rfl, fun μ K hs ho hK => cls μ K ho ?_, fun M K i hM ho hi hK => pre M K i ho hi ?_⟩
        · rw [ho.2.2.2.1 n46 n111, ho.2.2.2.2 h1, h1]
          refine ⟨fun _ => ?_, fun z => absurd rfl z⟩
          refine q4_addSweep (hs.2.2.2.2.2.2.2 _ hw) em hm4 (fun μ' hc hfr => ⟨Or.inr rfl, hK μ' (Snd.putw (o := 1) hs hf hw hω.2.2.2.2.2.1 hc hfr) (hfr.mono (by omega) (by omega))⟩)
        · rw [ho.2.2.2.1 n46 n111, ho.2.2.2.2 h1, ho.2.2.1 n46, h1]
          refine ⟨fun _ => ?_, fun z => absurd rfl z⟩
          refine q6_sweeps (m := m) hw (by rw [hM]; exact em) hm4 (nI_le (a := 0) (b := e 3) (by omega) (by omega)) (nI_le (a := e 3) (b := 65535) (by omega) (by omega)) (nI_le (a := 1) (b := e 4) (by omega) (by omega)) (nI_le (a := e 4) (b := 999) (by omega) (by omega)) ?_
          rw [hM]
          exact hK _ (fun z => absurd z (nI_nlt (a := m + 1) (b := 0) (by omega) (by omega))) (fun _ => rfl)
      · obtain rfl : m = 4 := by omega
        refine ⟨0, σ, hf, Or.inl rfl, fun μ K hs ho hK => cls μ K ho ?_, fun M K i hM ho hi hK => pre M K i ho hi ?_⟩
        · rw [h1]
          refine ⟨fun _ => ?_, fun z => absurd rfl z⟩
          unfold x_X4_addSweep
          have e5 : μ (5 + 3 * e 2) 5 = nI 4 := (hs.2.2.2.2.2.2.2 _ hw).2.2.2.2.2.1.trans em
          rw [e5]
          exact ⟨fun z => absurd z (by decide), fun _ => ⟨fun z => absurd z (by decide), fun _ => ⟨Or.inl rfl, hK μ hs Fr.rfl⟩⟩⟩
        · rw [ho.2.2.2.1 n46 n111, ho.2.2.2.2 h1, ho.2.2.1 n46, h1]
          refine ⟨fun _ => ?_, fun z => absurd rfl z⟩
          refine q6_sweeps4 hw (by rw [hM]; exact em) (nI_le (a := 0) (b := e 3) (by omega) (by omega)) (nI_le (a := e 3) (b := 65535) (by omega) (by omega)) (nI_le (a := 1) (b := e 4) (by omega) (by omega)) (nI_le (a := e 4) (b := 999) (by omega) (by omega)) ?_
          have := hK (-4) (fun _ => rfl) (fun z => absurd (by decide) z)
          rw [← hM, um_self] at this
          exact this
    · have hzb : zb (wl σ (e 2) 4) := (hf.2.2.2.2.1 _ hw).2.2.2.2.1
      obtain ⟨v, hv, hne, hv1⟩ : ∃ v : Int32, zb v ∧ ¬ wl σ (e 2) 4 = v ∧ v = 1 - wl σ (e 2) 4 := by
        rcases hzb with z | z
        · exact ⟨1, Or.inr rfl, by rw [z]; decide, by rw [z]; rfl⟩
        · exact ⟨0, Or.inl rfl, by rw [z]; decide, by rw [z]; rfl⟩
      have hω := (hf.2.2.2.2.1 _ hw).put (j := 4) (v := v) (Or.inr (Or.inr (Or.inr ⟨rfl, hv⟩)))
      refine ⟨1, putw σ (e 2) (upd (wl σ (e 2)) 4 v), hf.putw hw hω, Or.inr rfl, fun μ K hs ho hK => cls μ K ho ?_, fun M K i hM ho hi hK => pre M K i ho hi ?_⟩
      · rw [h1]
        refine ⟨fun z => absurd z (by decide), fun _ => ⟨fun _ => ?_, fun z => absurd rfl z⟩⟩
        have hcw : Whl μ (5 + 3 * e 2) (wl σ (e 2)) := hs.2.2.2.2.2.2.2 _ hw
        have fin : K 1 (um μ (5 + 3 * e 2) (upd (μ (5 + 3 * e 2)) 4 v)) := hK _ (Snd.putw (o := 1) hs hf hw hω.2.2.2.2.2.1 (hcw.put (j := 4) (v := v) (by omega)) (Fr.rfl.um (by omega) (by omega))) (Fr.rfl.um (by omega) (by omega))
        rw [show μ (5 + 3 * e 2) 4 = wl σ (e 2) 4 from hcw.2.2.2.2.1]
        rcases hzb with z | z
        · rw [z] at hv1 ⊢
          rw [hv1] at fin
          refine ⟨fun _ => ?_, fun z => absurd rfl z⟩
          rintro _ rfl
          exact fin
        · rw [z] at hv1 ⊢
          rw [hv1] at fin
          refine ⟨fun z => absurd z (by decide), fun _ => ?_⟩
          rintro _ rfl
          exact fin
      · rw [ho.2.2.1 n46, h1]
        refine ⟨fun z => absurd z (by decide), fun _ => ⟨fun _ => ?_, fun z => absurd rfl z⟩⟩
        apply q6_w
        simp (disch := omega) only [n_4, nI_add, nI_clamp, vp_nI, true_and]
        rw [hM, show (1 : Int32) - σ (70 + 16 * e 2 + 4) = v from hv1.symm]
        refine q6_turns (n := 999999) hw (by rw [hM]; exact hf) hv (by rw [hM]; exact hne) (fun res _ hres => ?_)
        rw [hM]
        exact hK res (fun z => absurd z hres) (fun _ => rfl)
    · have n111 : e 1 ≠ 111 := by omega
      have hω := stw_wf (v := nI (e 3)) (hf.2.2.2.2.1 _ hw) (rg_of (by omega) (by omega) (by omega))
      refine ⟨1, putw σ (e 2) (stw (wl σ (e 2)) (nI (e 3))), hf.putw hw hω, Or.inr rfl, fun μ K hs ho hK => cls μ K ho ?_, fun M K i hM ho hi hK => pre M K i ho hi ?_⟩
      · rw [ho.2.2.2.1 n46 n111, h1]
        refine ⟨fun z => absurd z (by decide), fun _ => ⟨fun z => absurd z (by decide), fun _ => ⟨fun _ => ?_, fun z => absurd rfl z⟩⟩⟩
        exact q4_changeStep (ω := wl σ (e 2)) (hs.2.2.2.2.2.2.2 _ hw) (fun μ' hc hfr => hK μ' (Snd.putw (o := 1) hs hf hw hω.2.2.2.2.2.1 hc hfr) (hfr.mono (by omega) (by omega)))
      · rw [ho.2.2.2.1 n46 n111, ho.2.2.1 n46, h1]
        refine ⟨fun z => absurd z (by decide), fun _ => ⟨fun z => absurd z (by decide), fun _ => ⟨fun _ => ?_, fun z => absurd rfl z⟩⟩⟩
        refine q6_steps hw (nI_le (a := 0) (b := e 3) (by omega) (by omega)) (nI_le (a := e 3) (b := 65535) (by omega) (by omega)) ?_
        rw [hM]
        exact hK _ (fun z => absurd z (rg_nn (hf.2.2.2.2.1 _ hw).2.1 (by omega))) (fun _ => rfl)
    · have n111 : e 1 ≠ 111 := by omega
      have hω := (hf.2.2.2.2.1 _ hw).put (j := 2) (v := nI (e 3)) (Or.inr (Or.inl ⟨rfl, rg_of (by omega) (by omega) (by omega)⟩))
      refine ⟨1, putw σ (e 2) (upd (wl σ (e 2)) 2 (nI (e 3))), hf.putw hw hω, Or.inr rfl, fun μ K hs ho hK => cls μ K ho ?_, fun M K i hM ho hi hK => pre M K i ho hi ?_⟩
      · rw [ho.2.2.2.1 n46 n111, h1]
        refine ⟨fun z => absurd z (by decide), fun _ => ⟨fun z => absurd z (by decide), fun _ => ⟨fun z => absurd z (by decide), fun _ => ⟨fun _ => ?_, fun z => absurd rfl z⟩⟩⟩⟩
        rintro _ rfl
        have hcw : Whl μ (5 + 3 * e 2) (wl σ (e 2)) := hs.2.2.2.2.2.2.2 _ hw
        exact hK _ (Snd.putw (o := 1) hs hf hw hω.2.2.2.2.2.1 (hcw.put (j := 2) (by omega)) (Fr.rfl.um (by omega) (by omega))) (Fr.rfl.um (by omega) (by omega))
      · rw [ho.2.2.2.1 n46 n111, ho.2.2.1 n46, h1]
        refine ⟨fun z => absurd z (by decide), fun _ => ⟨fun z => absurd z (by decide), fun _ => ⟨fun z => absurd z (by decide), fun _ => ⟨fun _ => ?_, fun z => absurd rfl z⟩⟩⟩⟩
        refine q6_tables hw (by omega) ?_
        rw [hM]
        exact hK _ (fun z => absurd z (rg_nn (hf.2.2.2.2.1 _ hw).2.2.1 (by omega))) (fun _ => rfl)
    · have n111 : e 1 ≠ 111 := by omega
      have hω := (hf.2.2.2.2.1 _ hw).put (j := 3) (v := nI (e 3)) (Or.inr (Or.inr (Or.inl ⟨rfl, rg_of (by omega) (by omega) (by omega)⟩)))
      refine ⟨1, putw σ (e 2) (upd (wl σ (e 2)) 3 (nI (e 3))), hf.putw hw hω, Or.inr rfl, fun μ K hs ho hK => cls μ K ho ?_, fun M K i hM ho hi hK => pre M K i ho hi ?_⟩
      · rw [ho.2.2.2.1 n46 n111, h1]
        refine ⟨fun z => absurd z (by decide), fun _ => ⟨fun z => absurd z (by decide), fun _ => ⟨fun z => absurd z (by decide), fun _ => ⟨fun z => absurd z (by decide), fun _ => ⟨fun _ => ?_, fun z => absurd rfl z⟩⟩⟩⟩⟩
        rintro _ rfl
        have hcw : Whl μ (5 + 3 * e 2) (wl σ (e 2)) := hs.2.2.2.2.2.2.2 _ hw
        exact hK _ (Snd.putw (o := 1) hs hf hw hω.2.2.2.2.2.1 (hcw.put (j := 3) (by omega)) (Fr.rfl.um (by omega) (by omega))) (Fr.rfl.um (by omega) (by omega))
      · rw [ho.2.2.2.1 n46 n111, ho.2.2.1 n46, h1]
        refine ⟨fun z => absurd z (by decide), fun _ => ⟨fun z => absurd z (by decide), fun _ => ⟨fun z => absurd z (by decide), fun _ => ⟨fun z => absurd z (by decide), fun _ => ⟨fun _ => ?_, fun z => absurd rfl z⟩⟩⟩⟩⟩
        refine q6_volumes hw (nI_le (a := 0) (b := e 3) (by omega) (by omega)) (nI_le (a := e 3) (b := 16) (by omega) (by omega)) ?_
        rw [hM]
        exact hK _ (fun z => absurd z (rg_nn (hf.2.2.2.2.1 _ hw).2.2.2.1 (by omega))) (fun _ => rfl)
