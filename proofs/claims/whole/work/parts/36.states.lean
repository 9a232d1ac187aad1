/-! undo, save, restore -/
theorem upd_row {f : Nat → Int32} {i : Nat} {g : Nat → Int32} (h : ∀ j, j < i → f j = g j) : ∀ j, j < i + 1 → upd f i (g i) j = g j := by
  intro j hj
  by_cases hji : j = i
  · subst hji; rw [upd_s]
  · rw [upd_n hji]; exact h j (by omega)
theorem q0_back {ct : Nat} {μ : Mem} {S : Nat} {hl : Nat → Nat → Int32} {K : Mem → Prop} (hc : HC ct μ (S + 1) hl) (hS6 : S + 1 ≤ 6) (hf : Wf 999999 (hl S)) (hK : ∀ μ', HC ct μ' S hl → Snd μ' 1 (hl S) → (∀ q, (q < 1 ∨ 17 ≤ q) → q ≠ 33 → μ' q = μ q) → K μ') : x_X0_bringBack 1 μ K := by
  obtain ⟨nx, hnx, hSn, e1, e2, h4⟩ := hc
  obtain ⟨m, rfl⟩ : ∃ m, nx = m + 1 := ⟨nx - 1, by omega⟩
  unfold x_X0_bringBack
  rintro _ rfl _ rfl _ rfl
  rw [um_um, um_s, um_s, upd_n (by omega : 2 ≠ 1), e1, e2, show nI (m + 1) - 1 = nI m from nI_pred m, show nI (S + 1) - 1 = nI S from nI_pred S, upd_n (by omega : 1 ≠ 2), upd_s]
  have e0 : (if nI S < (0 : Int32) then (0 : Int32) else nI S) = nI S := if_neg (nI_nlt (a := S) (b := 0) (by omega) (by omega))
  rw [e0]
  apply qJ_fm6 (by omega)
  have hm6 : m % 6 < 6 := Nat.mod_lt _ (by omega)
  refine ⟨vp_in_nI hm6 (by omega), ?_⟩
  rw [nI_clamp (by omega)]
  refine q3_take (σ := hl S) (by omega) ?_ hf (fun μ1 hs1 hfr => ?_)
  · have := h4 S (by omega)
    rw [show (m + 1 + 6 - (S + 1) + S) % 6 = m % 6 by omega] at this
    exact this.fr (fun q q1 q2 => um_n (by omega))
  · have f33 : μ1 33 = upd (upd (μ 33) 1 (nI m)) 2 (nI S) := by rw [hfr 33 (by omega), um_s]
    refine hK μ1 ⟨m, by omega, by omega, ?_, ?_, fun j hj => ?_⟩ hs1 (fun q q1 q2 => ?_)
    · rw [f33, upd_n (by omega), upd_s]
    · rw [f33, upd_s]
    · have := h4 j (by omega)
      rw [show (m + 6 - S + j) % 6 = (m + 1 + 6 - (S + 1) + j) % 6 by omega]
      have hlt : (m + 1 + 6 - (S + 1) + j) % 6 < 6 := Nat.mod_lt _ (by omega)
      refine this.fr (fun q q1 q2 => ?_)
      rw [hfr q (by omega), um_n (by omega)]
    · rw [hfr q (by omega), um_n q2]
/-- the sound is another one -/
theorem inv_put {ct : Nat} {c2 : Nat} {μ μ1 : Mem} {S S' : Nat} {hl hl' sl : Nat → Nat → Int32} {σ r : Nat → Int32} {b : Nat → Int32} {m : Nat → Int32} (h : InvX c2 μ S hl sl) (hC : Snd μ1 1 σ) (hW : Wf 999999 σ) (hH : HC ct μ1 S' hl') (hS : S' ≤ 6) (hw : ∀ j, j < S' → Wf 999999 (hl' j)) (hF : Fr 1 131 μ μ1) (hr : ∀ k, k < 166 → r k = σ k) (hm9 : m 9 = nI S') (hm8 : m 8 = μ 168 8) (hb : HMb b S' hl') {M : Mem} (hM0 : ∀ q, q < 168 → M q = μ1 q) (hM8 : M 168 = m) (hM9 : M 169 = r) (hM2 : M 172 = b) (hM3 : M 173 = μ1 173) (hM4 : M 174 = μ1 174) (hM6 : M 176 = μ1 176) : Inv ct M := by
  obtain ⟨a1, a2, a3, a4, a5, a6, a7, a8⟩ := h
  refine ⟨S', hl', sl, ?_, ?_, hS, hH.fr (fun q _ q2 => hM0 q (by omega)), ⟨by rw [hM8]; exact hm9, by rw [hM2]; exact hb⟩, hw, a7.fr (fun q q1 q2 => ?_) ?_ ?_, a8.fr ?_ ?_ ?_ ?_⟩
  · rw [hM9]
    exact (hC.congr hW hr).fr (fun q q1 q2 => hM0 q (by omega))
  · rw [hM9]
    exact hW.congr hr
  · rw [hM0 q (by omega), hF q (by omega)]
  · rw [hM3, hF _ (by omega)]
  · rw [hM4, hF _ (by omega)]
  · rw [hM0 _ (by omega), hF _ (by omega)]
  · rw [hM0 _ (by omega), hF _ (by omega)]
  · rw [hM8]; exact hm8
  · rw [hM6, hF _ (by omega)]
theorem s6_undo {K : Int32 → Mem → Prop} {n : Nat} {a1 : Int32} {μ : Mem} (h : xb_X6_undo_L22 K (x_X6_undo_L22 K n) a1 μ) : x_X6_undo_L22 K (n + 1) a1 μ := h
theorem op_undo {ct : Nat} {μ : Mem} (h : Inv ct μ) : x_X5_undo μ (fun r μ1 => x_X6_undo μ1 (fun r' μ2 => r = r' ∧ Inv ct μ2)) := by
  obtain ⟨S, hl, sl, hx⟩ := id h
  obtain ⟨a1, a2, a3, a4, ⟨a5, a5b⟩, a6, a7, a8⟩ := id hx
  have e2 : μ 33 2 = nI S := by
    obtain ⟨nx, -, -, -, e2, -⟩ := a4
    exact e2
  unfold x_X5_undo
  rw [e2]
  rcases Nat.eq_zero_or_pos S with w | w
  · subst w
    refine ⟨fun _ => ?_, fun z => absurd rfl z⟩
    show x_X6_undo μ _
    unfold x_X6_undo
    rw [a5]
    exact ⟨fun _ => ⟨rfl, h⟩, fun z => absurd rfl z⟩
  · obtain ⟨T, rfl⟩ : ∃ T, S = T + 1 := ⟨S - 1, by omega⟩
    refine ⟨fun z => absurd z (nI_ne0 w (by omega)), fun _ => ?_⟩
    refine q0_back a4 a3 (a6 T (by omega)) (fun μ1 hH hs hq => ?_)
    have e168 : μ1 168 = μ 168 := hq _ (by omega) (by omega)
    have e172 : μ1 172 = μ 172 := hq _ (by omega) (by omega)
    show x_X6_undo μ1 _
    unfold x_X6_undo
    rw [e168, a5]
    refine ⟨fun z => absurd z (nI_ne0 w (by omega)), fun _ => ?_⟩
    rintro _ rfl
    rw [show nI (T + 1) - 1 = nI T from nI_pred T]
    have c33 : μ1 33 2 = nI T := by
      obtain ⟨nx, -, -, -, e2, -⟩ := hH
      exact e2
    have loop : ∀ (k i : Nat) (r : Nat → Int32), i + k = 166 → (∀ j, j < i → r j = hl T j) → x_X6_undo_L22 (fun r' μ2 => μ1 33 2 = r' ∧ Inv ct μ2) (k + 1) (nI i) (um (um μ1 168 (upd (μ 168) 9 (nI T))) 169 r) := by
      intro k
      induction k with
      | zero =>
        intro i r hi hr
        refine s6_undo ?_
        unfold xb_X6_undo_L22
        refine ⟨fun _ => ?_, fun z => absurd (nI_le (a := 166) (b := i) (by omega) (by omega)) z⟩
        rw [um_n (by omega : 168 ≠ 169), um_s, upd_s]
        refine ⟨c33, inv_put (μ1 := μ1) (S' := T) (hl' := hl) hx hs (a6 T (by omega)) hH (by omega) (fun j hj => a6 j (by omega)) (fun q q1 => hq q (by omega) (by omega)) (r := r) (fun k hk => hr k (by omega)) (m := upd (μ 168) 9 (nI T)) (by rw [upd_s]) (by rw [upd_n (by omega)]) (b := μ 172) (fun j hj k hk => a5b j (by omega) k hk) (fun q q1 => by rw [um_n (by omega), um_n (by omega)]) (by rw [um_n (by omega), um_s]) (by rw [um_s]) (by rw [um_n (by omega), um_n (by omega), e172]) (by rw [um_n (by omega), um_n (by omega)]) (by rw [um_n (by omega), um_n (by omega)]) (by rw [um_n (by omega), um_n (by omega)])⟩
      | succ k ih =>
        intro i r hi hr
        refine s6_undo ?_
        unfold xb_X6_undo_L22
        refine ⟨fun z => absurd z (nI_ge (a := i) (b := 166) (by omega) (by omega)), fun _ => ?_⟩
        rw [um_n (by omega : 168 ≠ 169), um_s, upd_s, n_166, pk_mul, nI_add, um_s, um_um]
        simp (disch := omega) only [nI_clamp, vp_nI, true_and]
        rintro _ rfl _ rfl
        rw [show nI i + 1 = nI (i + 1) from (nI_succ i).symm, um_n (by omega : 172 ≠ 169), um_n (by omega : 172 ≠ 168), e172, a5b T (by omega) i (by omega)]
        exact ih (i + 1) _ (by omega) (upd_row hr)
    refine ⟨167, ?_⟩
    have := loop 166 0 (μ1 169) (by omega) (fun j hj => absurd hj (by omega))
    rw [show um (um μ1 168 (upd (μ 168) 9 (nI T))) 169 (μ1 169) = um μ1 168 (upd (μ 168) 9 (nI T)) by
      funext q
      by_cases hq : q = 169
      · subst hq; rw [um_s, um_n (by omega)]
      · rw [um_n hq]] at this
    exact this
theorem s6_save {K : Int32 → Mem → Prop} {n : Nat} {a1 a2 : Int32} {μ : Mem} (h : xb_X6_save_L14 K (x_X6_save_L14 K n) a1 a2 μ) : x_X6_save_L14 K (n + 1) a1 a2 μ := h
theorem nar_b1 : vp_nar .boolean 1 = 1 := by decide
theorem op_save {ct : Nat} {μ : Mem} {a : Int32} (h : Inv ct μ) : x_X5_save a μ (fun r μ1 => x_X6_save a μ1 (fun r' μ2 => r = r' ∧ Inv ct μ2)) := by
  obtain ⟨S, hl, sl, hx⟩ := id h
  obtain ⟨a1, a2, a3, a4, a5, a6, a7, a8⟩ := id hx
  unfold x_X5_save
  apply q5_out
  · intro l1 l2
    obtain ⟨s, hs2, rfl⟩ := rg_nI (n := 1) (rg_le rfl rfl l1 l2)
    refine ⟨fun _ => ?_, fun z => absurd rfl z⟩
    simp (disch := omega) only [nI_clamp, vp_nI, true_and]
    refine q3_take (σ := μ 169) (by omega) a1 a2 (fun μ4 hs4 hF => ?_)
    rintro _ rfl
    rw [nar_b1]
    unfold x_X6_save
    apply i6_in l1 l2
    refine ⟨fun z => absurd z (by decide), fun _ => ?_⟩
    obtain ⟨ν, hν⟩ : ∃ ν, ν = um μ4 133 (upd (μ4 133) s 1) := ⟨_, rfl⟩
    rw [← hν]
    have e : ∀ q, (q < 134 + 16 * s ∨ 134 + 16 * s + 16 ≤ q) → q ≠ 133 → ν q = μ q := fun q q1 q2 => by rw [hν, um_n q2]; exact hF q q1
    have e1 : ν 1 3 = μ 169 1 := by rw [e _ (by omega) (by omega)]; exact a1.2.1
    have e133 : ν 133 = upd (μ 133) s 1 := by rw [hν, um_s, hF _ (by omega)]
    have e169 : ν 169 = μ 169 := e _ (by omega) (by omega)
    have e173 : ν 173 = μ 173 := e _ (by omega) (by omega)
    have e174 : ν 174 = μ 174 := e _ (by omega) (by omega)
    have hsν : Snd ν (134 + 16 * s) (μ 169) := hs4.fr (fun q q1 q2 => by rw [hν, um_n (by omega)])
    have loop : ∀ (k i : Nat) (b : Nat → Int32), i + k = 166 → (∀ p, (p < 166 * s ∨ 166 * s + 166 ≤ p) → b p = μ 173 p) → (∀ k, k < i → b (166 * s + k) = μ 169 k) → x_X6_save_L14 (fun r' μ2 => ν 1 3 = r' ∧ Inv ct μ2) (k + 1) (nI s) (nI i) (um ν 173 b) := by
      intro k
      induction k with
      | zero =>
        intro i b hi h1 h2
        refine s6_save ?_
        unfold xb_X6_save_L14
        refine ⟨fun _ => ⟨vp_in_nI (by omega) (by omega), ?_⟩, fun z => absurd (nI_le (a := 166) (b := i) (by omega) (by omega)) z⟩
        rintro _ rfl
        rw [nar_b1, nI_clamp (by omega), um_n (by omega : 174 ≠ 173), e174, um_n (by omega : 169 ≠ 174), um_n (by omega : 169 ≠ 173), e169]
        refine ⟨e1, ?_⟩
        have g : ∀ q, (q < 134 + 16 * s ∨ 134 + 16 * s + 16 ≤ q) → q ≠ 133 → q ≠ 173 → q ≠ 174 → um (um ν 173 b) 174 (upd (μ 174) s 1) q = μ q := fun q q1 q2 q3 q4 => by rw [um_n q4, um_n q3]; exact e q q1 q2
        obtain ⟨sl', es, en⟩ : ∃ sl' : Nat → Nat → Int32, sl' s = μ 169 ∧ ∀ j, j ≠ s → sl' j = sl j := ⟨fun j => if j = s then μ 169 else sl j, if_pos rfl, fun j hj => if_neg hj⟩
        refine ⟨S, hl, sl', ?_, ?_, a3, a4.fr (fun q q1 q2 => g q (by omega) (by omega) (by omega) (by omega)), ?_, a6, fun j hj => ?_, a8.fr ?_ ?_ ?_ ?_⟩
        · rw [g 169 (by omega) (by omega) (by omega) (by omega)]
          exact a1.fr (fun q q1 q2 => g q (by omega) (by omega) (by omega) (by omega))
        · rw [g 169 (by omega) (by omega) (by omega) (by omega)]
          exact a2
        · rw [g 168 (by omega) (by omega) (by omega) (by omega), g 172 (by omega) (by omega) (by omega) (by omega)]
          exact a5
        · rw [um_n (by omega : 133 ≠ 174), um_n (by omega : 133 ≠ 173), e133, um_s, um_n (by omega : 173 ≠ 174), um_s]
          by_cases hjs : j = s
          · subst hjs
            rw [upd_s, upd_s]
            refine ⟨Or.inr rfl, rfl, fun _ => ⟨?_, fun k hk => ?_, ?_⟩⟩
            · rw [es]
              exact hsν.fr (fun q q1 q2 => by rw [um_n (by omega), um_n (by omega)])
            · rw [es]
              exact h2 k (by omega)
            · rw [es]
              exact a2
          · rw [upd_n hjs, upd_n hjs]
            obtain ⟨z1, z2, z3⟩ := a7 j hj
            refine ⟨z1, z2, fun u => ?_⟩
            obtain ⟨u1, u2, u3⟩ := z3 u
            rw [en j hjs]
            exact ⟨u1.fr (fun q q1 q2 => g q (by omega) (by omega) (by omega) (by omega)), fun k hk => by rw [h1 _ (by omega)]; exact u2 k hk, u3⟩
        · rw [g 166 (by omega) (by omega) (by omega) (by omega)]
        · rw [g 167 (by omega) (by omega) (by omega) (by omega)]
        · rw [g 168 (by omega) (by omega) (by omega) (by omega)]
        · rw [g 176 (by omega) (by omega) (by omega) (by omega)]
      | succ k ih =>
        intro i b hi h1 h2
        refine s6_save ?_
        unfold xb_X6_save_L14
        refine ⟨fun z => absurd z (nI_ge (a := i) (b := 166) (by omega) (by omega)), fun _ => ?_⟩
        rw [n_166, pk_mul, nI_add, um_s, um_um]
        simp (disch := omega) only [nI_clamp, vp_nI, true_and]
        rintro _ rfl _ rfl
        rw [show nI i + 1 = nI (i + 1) from (nI_succ i).symm, um_n (by omega : 169 ≠ 173), e169]
        refine ih (i + 1) _ (by omega) (fun p hp => ?_) (fun k hk => ?_)
        · rw [upd_n (by omega)]; exact h1 p hp
        · by_cases hki : k = i
          · subst hki; rw [upd_s]
          · rw [upd_n (by omega)]; exact h2 k (by omega)
    refine ⟨167, ?_⟩
    have := loop 166 0 (ν 173) (by omega) (fun p _ => by rw [e173]) (fun j hj => absurd hj (by omega))
    rw [um_self] at this
    exact this
  · intro l
    refine ⟨fun z => absurd z (by decide), fun _ => ?_⟩
    unfold x_X6_save
    apply i6_out l
    exact ⟨fun _ => ⟨rfl, h⟩, fun z => absurd rfl z⟩
theorem s6_rest {K : Int32 → Mem → Prop} {n : Nat} {a1 a2 : Int32} {μ : Mem} (h : xb_X6_restore_L30 K (x_X6_restore_L30 K n) a1 a2 μ) : x_X6_restore_L30 K (n + 1) a1 a2 μ := h
theorem op_restore {ct : Nat} {μ : Mem} {a : Int32} (h : Inv (ct + 1) μ) : x_X5_restore a μ (fun r μ1 => x_X6_restore a μ1 (fun r' μ2 => r = r' ∧ Inv ct μ2)) := by
  obtain ⟨S, hl, sl, hx⟩ := id h
  obtain ⟨a1, a2, a3, a4, a5, a6, a7, a8⟩ := id hx
  unfold x_X5_restore
  apply q5_out
  · intro l1 l2
    obtain ⟨s, hs2, rfl⟩ := rg_nI (n := 1) (rg_le rfl rfl l1 l2)
    refine ⟨fun _ => ?_, fun z => absurd rfl z⟩
    simp (disch := omega) only [nI_clamp, vp_nI, true_and]
    obtain ⟨z1, z2, z3⟩ := a7 s (by omega)
    refine ⟨fun z => ?_, fun z => ?_⟩
    · unfold x_X6_restore
      apply i6_in l1 l2
      refine ⟨fun z => absurd z (by decide), fun _ => ?_⟩
      simp (disch := omega) only [nI_clamp, vp_nI, true_and]
      rw [z2, z]
      exact ⟨fun _ => h.dn, fun z => absurd rfl z⟩
    · have hone : μ 133 s = 1 := by
        rcases z1 with u | u
        · exact absurd u z
        · exact u
      obtain ⟨u1, u2, u3⟩ := z3 hone
      refine q0_keep a4 a3 a1 a2 (fun μ4 hH hs hF => ?_)
      refine q3_take (σ := sl s) (by omega) (u1.off hF (by omega)) u3 (fun μ5 hs5 hF5 => ?_)
      have hF' : Fr 1 131 μ μ5 := (hF.mono (by omega) (by omega)).trans (hF5.mono (by omega) (by omega))
      unfold x_X6_restore
      apply i6_in l1 l2
      refine ⟨fun z => absurd z (by decide), fun _ => ?_⟩
      simp (disch := omega) only [nI_clamp, vp_nI, true_and]
      rw [hF' 174 (by omega), z2, hone]
      refine ⟨fun z => absurd z (by decide), fun _ => ?_⟩
      apply q6_hold
      intro r hr
      have e1 : μ5 1 3 = sl s 1 := hs5.2.1
      have loop : ∀ (k i : Nat) (ρ : Nat → Int32), i + k = 166 → (∀ j, j < i → ρ j = sl s j) → x_X6_restore_L30 (fun r' μ2 => μ5 1 3 = r' ∧ Inv ct μ2) (k + 1) (nI s) (nI i) (um (um μ5 170 r) 169 ρ) := by
        intro k
        induction k with
        | zero =>
          intro i ρ hi hr2
          refine s6_rest ?_
          unfold xb_X6_restore_L30
          refine ⟨fun _ => ?_, fun z => absurd (nI_le (a := 166) (b := i) (by omega) (by omega)) z⟩
          rw [um_s, hr2 1 (by omega), e1]
          refine rec_fin hx (hs5.congr u3 (fun k hk => hr2 k (by omega))) (u3.congr (fun k hk => hr2 k (by omega))) (hH.fr (fun q q1 q2 => hF5 q (by omega))) hF' hr (rg_nn u3.2.1 (by omega))
        | succ k ih =>
          intro i ρ hi hr2
          refine s6_rest ?_
          unfold xb_X6_restore_L30
          refine ⟨fun z => absurd z (nI_ge (a := i) (b := 166) (by omega) (by omega)), fun _ => ?_⟩
          rw [n_166, pk_mul, nI_add, um_s, um_um]
          simp (disch := omega) only [nI_clamp, vp_nI, true_and]
          rintro _ rfl _ rfl
          rw [show nI i + 1 = nI (i + 1) from (nI_succ i).symm, um_n (by omega : 173 ≠ 169), um_n (by omega : 173 ≠ 170), hF' 173 (by omega), u2 i (by omega)]
          exact ih (i + 1) _ (by omega) (upd_row hr2)
      refine ⟨167, ?_⟩
      have := loop 166 0 (um μ5 170 r 169) (by omega) (fun j hj => absurd hj (by omega))
      rw [um_self] at this
      exact this
  · intro l
    refine ⟨fun z => absurd z (by decide), fun _ => ?_⟩
    unfold x_X6_restore
    apply i6_out l
    exact ⟨fun _ => ⟨rfl, h.dn⟩, fun z => absurd rfl z⟩
