/-! changes: clip, fill, step, table, volume, phase -/
theorem rec_fin {ct : Nat} {μ μ1 : Mem} {S : Nat} {hl sl : Nat → Nat → Int32} {σ' r : Nat → Int32} {res : Int32} (h : InvX (ct + 1) μ S hl sl) (hC : Snd μ1 1 σ') (hW : Wf 999999 σ') (hH : HC ct μ1 (hS S) (hL S hl (μ 169))) (hF : Fr 1 131 μ μ1) (hr : ∀ k, k < 166 → r k = μ1 169 k) (hres : ¬ res < 0) : x_X6_recorded res (um (um μ1 170 r) 169 σ') (fun r' μ2 => res = r' ∧ Inv ct μ2) := by
  have h' := h
  obtain ⟨-, -, a3, -, ⟨a5, a5b⟩, -⟩ := h
  have f168 : um (um μ1 170 r) 169 σ' 168 = μ 168 := by rw [um_n (by omega), um_n (by omega), hF _ (by omega)]
  have f172 : um (um μ1 170 r) 169 σ' 172 = μ 172 := by rw [um_n (by omega), um_n (by omega), hF _ (by omega)]
  refine q6_recorded (S := S) (hl := hl) (σ := μ 169) (by rw [f168]; exact a5) (by rw [f172]; exact a5b) a3 (fun k hk => by rw [um_n (by omega), um_s, hr k hk, hF _ (by omega)]) hres (fun b' hb => ⟨rfl, ?_⟩)
  rw [f168]
  refine inv_chg (μ1 := μ1) h' ?_ ?_ hH hF ⟨fun q hq => ?_, ?_, ?_, ?_, ?_⟩ ?_ ?_
  · rw [um_n (by omega), um_n (by omega), um_s]; exact hC
  · rw [um_n (by omega), um_n (by omega), um_s]; exact hW
  · rw [um_n (by omega), um_n (by omega), um_n (by omega), um_n (by omega)]
  · rw [um_n (by omega), um_n (by omega), um_n (by omega), um_n (by omega)]
  · rw [um_n (by omega), um_n (by omega), um_n (by omega), um_n (by omega)]
  · rw [um_n (by omega), um_n (by omega), um_n (by omega), um_n (by omega)]
  · rw [um_s, upd_n (by omega), hF _ (by omega)]
  · rw [um_s, upd_s]
  · rw [um_n (by omega), um_s]; exact hb
theorem rg_nn {x : Int32} {a b : Int} (h : rg x a b) (ha : 0 ≤ a) : ¬ x < 0 := fun z => by
  have := ii_lt.mp z
  have := h.1
  simp at *
  omega
theorem rg_le {v lo hi : Int32} {a b : Int} (ha : lo.toInt = a) (hb : hi.toInt = b) (h1 : lo ≤ v) (h2 : v ≤ hi) : rg v a b := ⟨by rw [← ha]; exact ii_le.mp h1, by rw [← hb]; exact ii_le.mp h2⟩
theorem op_clip {ct : Nat} {μ : Mem} {a : Int32} (h : Inv (ct + 1) μ) : x_X5_clip a μ (fun r μ1 => x_X6_clip a μ1 (fun r' μ2 => r = r' ∧ Inv ct μ2)) := by
  obtain ⟨S, hl, sl, hx⟩ := id h
  obtain ⟨a1, a2, a3, a4, a5, a6, a7, a8⟩ := id hx
  unfold x_X5_clip
  apply q5_out
  · intro l1 l2
    refine ⟨fun _ => ?_, fun z => absurd rfl z⟩
    refine q0_keep a4 a3 a1 a2 (fun μ4 hH hs hF => ?_)
    rintro _ rfl _ rfl
    unfold x_X6_clip
    apply q6_in
    · intro _ _
      refine ⟨fun z => absurd z (by decide), fun _ => ?_⟩
      apply q6_hold
      intro r hr
      rintro _ rfl _ rfl
      have e169 : um (um μ4 1 (upd (μ4 1) 0 a)) 170 r 169 = μ 169 := by rw [um_n (by omega), um_n (by omega), hF _ (by omega)]
      rw [e169, show μ4 1 0 = μ 169 0 from hs.1]
      obtain ⟨s0, s1, s2, s3, s4, s5, s6, s7⟩ := id hs
      obtain ⟨w0, w1, w2, w3, w4, w5, w6⟩ := id a2
      refine rec_fin hx ?_ ?_ (hH.fr (fun q q1 q2 => um_n (by omega))) ((hF.mono (by omega) (by omega)).um (by omega) (by omega)) hr (rg_nn w0 (by omega))
      · refine ⟨?_, ?_, ?_, ?_, ?_, fun k hk => ?_, fun k hk => ?_, fun w hw => ?_⟩
        · rw [um_s, upd_s, upd_s]
        · rw [um_s, upd_n (by omega), upd_n (by omega)]; exact s1
        · rw [um_s, upd_n (by omega), upd_n (by omega)]; exact s2
        · rw [um_s, upd_n (by omega), upd_n (by omega)]; exact s3
        · rw [um_s, upd_n (by omega), upd_n (by omega)]; exact s4
        · rw [um_n (by omega), upd_n (by omega)]; exact s5 k hk
        · rw [um_n (by omega), upd_n (by omega)]; exact s6 k hk
        · refine ((s7 w hw).congr (w4 w hw).2.2.2.2.2.1 (ω' := wl (upd (μ 169) 0 a) w) (fun j hj => upd_n (by omega))).fr (um_n (by omega)) (um_n (by omega)) (um_n (by omega))
      · refine ⟨by rw [upd_s]; exact rg_le rfl rfl l1 l2, by rw [upd_n (by omega)]; exact w1, by rw [upd_n (by omega), upd_n (by omega)]; exact w2, fun k hk => by rw [upd_n (by omega)]; exact w3 k hk, fun w hw => (w4 w hw).congr (fun j hj => upd_n (by omega)), by rw [upd_n (by omega), upd_n (by omega)]; exact w5, ?_⟩
        rw [upd_n (by omega), upd_n (by omega), upd_n (by omega)]
        exact w6
    · intro z
      exact absurd ⟨l1, l2⟩ z
  · intro l
    refine ⟨fun z => absurd z (by decide), fun _ => ?_⟩
    unfold x_X6_clip
    apply q6_in
    · intro b1 b2
      exact absurd ⟨b1, b2⟩ l
    · intro _
      exact ⟨fun _ => ⟨rfl, h.dn⟩, fun z => absurd rfl z⟩
theorem op_fill {ct : Nat} {μ : Mem} {a b v : Int32} (h : Inv (ct + 1) μ) : x_X5_fill a b v μ (fun r μ1 => x_X6_fill a b v μ1 (fun r' μ2 => r = r' ∧ Inv ct μ2)) := by
  obtain ⟨S, hl, sl, hx⟩ := id h
  obtain ⟨a1, a2, a3, a4, a5, a6, a7, a8⟩ := id hx
  unfold x_X5_fill
  apply q5_table
  · intro t ht et
    refine ⟨fun _ => ?_, fun z => absurd rfl z⟩
    apply q5_place
    · intro p hp ep
      refine ⟨fun _ => ?_, fun z => absurd rfl z⟩
      subst et ep
      have i1 : ∀ K : Int32 → Mem → Prop, ∀ μ, K 1 μ → x_X6_isOne (nI t) μ K := fun K μ hk => q6_isOne (fun _ _ _ => hk) (fun z => absurd rfl (z t ht))
      have i2 : ∀ K : Int32 → Mem → Prop, ∀ μ, K 1 μ → x_X6_in (nI p) 0 15 μ K := fun K μ hk => q6_in (fun _ _ => hk) (fun z => absurd ⟨nI_pos' (by omega), nI_le (a := p) (b := 15) (by omega) (by omega)⟩ z)
      apply q5_out
      · intro l1 l2
        refine ⟨fun _ => ?_, fun z => absurd rfl z⟩
        refine q0_keep a4 a3 a1 a2 (fun μ4 hH hs hF => ?_)
        rw [n_16, pk_mul, nI_add]
        rintro _ rfl
        refine ⟨vp_in_nI (by omega) (by omega), ?_⟩
        rw [nI_clamp (by omega)]
        rintro _ rfl
        refine ⟨vp_in_nI (by omega) (by omega), ?_⟩
        rintro _ rfl
        unfold x_X6_fill
        apply i1
        refine ⟨fun z => absurd z (by decide), fun _ => ?_⟩
        apply i2
        refine ⟨fun z => absurd z (by decide), fun _ => ?_⟩
        apply q6_in
        · intro _ _
          refine ⟨fun z => absurd z (by decide), fun _ => ?_⟩
          apply q6_hold
          intro r hr
          rw [n_6, n_16, pk_mul, nI_add, nI_add]
          refine ⟨vp_in_nI (by omega) (by omega), ?_⟩
          rw [nI_clamp (by omega)]
          rintro _ rfl
          refine ⟨vp_in_nI (by omega) (by omega), ?_⟩
          rintro _ rfl
          have e169 : um (um μ4 2 (upd (μ4 2) (t * 16 + p) v)) 170 r 169 = μ 169 := by rw [um_n (by omega), um_n (by omega), hF _ (by omega)]
          have ei : 6 + 16 * t + p = 6 + (t * 16 + p) := by omega
          obtain ⟨s0, s1, s2, s3, s4, s5, s6, s7⟩ := id hs
          obtain ⟨w0, w1, w2, w3, w4, w5, w6⟩ := id a2
          rw [e169, ei, show μ4 2 (t * 16 + p) = μ 169 (6 + (t * 16 + p)) from s5 _ (by omega)]
          refine rec_fin hx ?_ ?_ (hH.fr (fun q q1 q2 => um_n (by omega))) ((hF.mono (by omega) (by omega)).um (by omega) (by omega)) hr (rg_nn (w3 _ (by omega)) (by omega))
          · refine ⟨?_, ?_, ?_, ?_, ?_, fun k hk => ?_, fun k hk => ?_, fun w hw => ?_⟩
            · rw [um_n (by omega), upd_n (by omega)]; exact s0
            · rw [um_n (by omega), upd_n (by omega)]; exact s1
            · rw [um_n (by omega), upd_n (by omega)]; exact s2
            · rw [um_n (by omega), upd_n (by omega)]; exact s3
            · rw [um_n (by omega), upd_n (by omega)]; exact s4
            · show um μ4 2 _ 2 k = _
              rw [um_s]
              by_cases hkp : k = t * 16 + p
              · subst hkp
                rw [upd_s, upd_s]
              · rw [upd_n hkp, upd_n (by omega)]; exact s5 k hk
            · rw [um_n (by omega), upd_n (by omega)]; exact s6 k hk
            · refine ((s7 w hw).congr (w4 w hw).2.2.2.2.2.1 (ω' := wl (upd (μ 169) (6 + (t * 16 + p)) v) w) (fun j hj => upd_n (by omega))).fr (um_n (by omega)) (um_n (by omega)) (um_n (by omega))
          · refine ⟨by rw [upd_n (by omega)]; exact w0, by rw [upd_n (by omega)]; exact w1, by rw [upd_n (by omega), upd_n (by omega)]; exact w2, fun k hk => ?_, fun w hw => (w4 w hw).congr (fun j hj => upd_n (by omega)), by rw [upd_n (by omega), upd_n (by omega)]; exact w5, ?_⟩
            · by_cases hkp : k = t * 16 + p
              · subst hkp
                rw [upd_s]
                exact rg_le rfl rfl l1 l2
              · rw [upd_n (by omega)]
                exact w3 k hk
            · rw [upd_n (by omega), upd_n (by omega), upd_n (by omega)]
              exact w6
        · intro z
          exact absurd ⟨l1, l2⟩ z
      · intro l
        refine ⟨fun z => absurd z (by decide), fun _ => ?_⟩
        unfold x_X6_fill
        apply i1
        refine ⟨fun z => absurd z (by decide), fun _ => ?_⟩
        apply i2
        refine ⟨fun z => absurd z (by decide), fun _ => ?_⟩
        apply q6_in
        · intro b1 b2
          exact absurd ⟨b1, b2⟩ l
        · intro _
          exact ⟨fun _ => ⟨rfl, h.dn⟩, fun z => absurd rfl z⟩
    · intro hp
      refine ⟨fun z => absurd z (by decide), fun _ => ?_⟩
      unfold x_X6_fill
      apply q6_isOne
      · intro _ _ _
        refine ⟨fun z => absurd z (by decide), fun _ => ?_⟩
        apply q6_in
        · intro b1 b2
          obtain ⟨w, hw, e⟩ := lim_of (n := 15) rfl b1 b2
          exact absurd e (hp w (by omega))
        · intro _
          exact ⟨fun _ => ⟨rfl, h.dn⟩, fun z => absurd rfl z⟩
      · intro z
        exact absurd et (z t ht)
  · intro ht
    refine ⟨fun z => absurd z (by decide), fun _ => ?_⟩
    unfold x_X6_fill
    apply q6_isOne
    · intro w hw e
      exact absurd e (ht w hw)
    · intro _
      exact ⟨fun _ => ⟨rfl, h.dn⟩, fun z => absurd rfl z⟩
/-! one wheel's places -/
theorem upd_putw {σ : Nat → Int32} {w j : Nat} {v : Int32} (hj : j < 16) : upd σ (70 + 16 * w + j) v = putw σ w (upd (wl σ w) j v) := by
  refine putw_of (fun i hi => ?_) (fun i hi => upd_n (by omega))
  by_cases h : i = j
  · subst h; rw [upd_s, upd_s]
  · rw [upd_n (by omega), upd_n h]
    rfl
theorem putw_putw {σ ω ω' : Nat → Int32} {w : Nat} : putw (putw σ w ω) w ω' = putw σ w ω' := by
  funext i
  unfold putw
  by_cases h : 70 + 16 * w ≤ i ∧ i < 86 + 16 * w
  · rw [if_pos h, if_pos h]
  · rw [if_neg h, if_neg h, if_neg h]
theorem putw_at {σ ω : Nat → Int32} {w j : Nat} (hj : j < 16) : putw σ w ω (70 + 16 * w + j) = ω j := by
  have := wl_putw (σ := σ) (ω := ω) (w := w) (w' := w) hj
  rw [if_pos rfl] at this
  exact this
theorem putw_upd {σ ω : Nat → Int32} {w j : Nat} {v : Int32} (hj : j < 16) : upd (putw σ w ω) (70 + 16 * w + j) v = putw σ w (upd ω j v) := by
  refine putw_of (fun i hi => ?_) (fun i hi => ?_)
  · by_cases h : i = j
    · subst h; rw [upd_s, upd_s]
    · rw [upd_n (by omega), upd_n h]
      exact putw_at hi
  · rw [upd_n (by omega)]
    unfold putw
    rw [if_neg (by omega)]
theorem Whl.put {μ : Mem} {c j : Nat} {ω : Nat → Int32} {v : Int32} (h : Whl μ c ω) (hj : j = 0 ∨ j = 2 ∨ j = 3 ∨ j = 4) : Whl (um μ c (upd (μ c) j v)) c (upd ω j v) := by
  obtain ⟨c0, c1, c2, c3, c4, c5, csw, cgo⟩ := h
  unfold Whl
  simp only [um_s, um_n (by omega : c + 1 ≠ c), um_n (by omega : c + 2 ≠ c)]
  rcases hj with rfl | rfl | rfl | rfl
  all_goals
    refine ⟨by simp [upd, *], by simp [upd, *], by simp [upd, *], by simp [upd, *], by simp [upd, *], by simp [upd, *], fun k hk => ?_, fun hh => ?_⟩
    · rw [upd_n (by omega)] at hk
      rw [upd_n (by omega), upd_n (by omega)]
      exact csw k hk
    · rw [upd_n (by omega)] at hh
      rw [upd_n (by omega), upd_n (by omega), upd_n (by omega), upd_n (by omega)]
      exact cgo hh
theorem WfW.put {j : Nat} {ω : Nat → Int32} {v : Int32} (h : WfW ω) (hj : (j = 0 ∧ rg v 0 65535) ∨ (j = 2 ∧ rg v 0 3) ∨ (j = 3 ∧ rg v 0 16) ∨ (j = 4 ∧ zb v)) : WfW (upd ω j v) := by
  obtain ⟨h0, h1, h2, h3, h4, h5, hsw, hz, hgo⟩ := h
  have e : ∀ i, i ≠ j → upd ω j v i = ω i := fun i hi => upd_n hi
  have hjr : j ≠ 1 ∧ j ≠ 5 ∧ j < 6 := by omega
  refine ⟨?_, by rw [e 1 (by omega)]; exact h1, ?_, ?_, ?_, by rw [e 5 (by omega)]; exact h5, fun k hk => ?_, fun hh => ?_, fun hh => ?_⟩
  · rcases hj with ⟨rfl, r⟩ | ⟨rfl, r⟩ | ⟨rfl, r⟩ | ⟨rfl, r⟩
    · rw [upd_s]; exact r
    · rw [e 0 (by omega)]; exact h0
    · rw [e 0 (by omega)]; exact h0
    · rw [e 0 (by omega)]; exact h0
  · rcases hj with ⟨rfl, r⟩ | ⟨rfl, r⟩ | ⟨rfl, r⟩ | ⟨rfl, r⟩
    · rw [e 2 (by omega)]; exact h2
    · rw [upd_s]; exact r
    · rw [e 2 (by omega)]; exact h2
    · rw [e 2 (by omega)]; exact h2
  · rcases hj with ⟨rfl, r⟩ | ⟨rfl, r⟩ | ⟨rfl, r⟩ | ⟨rfl, r⟩
    · rw [e 3 (by omega)]; exact h3
    · rw [e 3 (by omega)]; exact h3
    · rw [upd_s]; exact r
    · rw [e 3 (by omega)]; exact h3
  · rcases hj with ⟨rfl, r⟩ | ⟨rfl, r⟩ | ⟨rfl, r⟩ | ⟨rfl, r⟩
    · rw [e 4 (by omega)]; exact h4
    · rw [e 4 (by omega)]; exact h4
    · rw [e 4 (by omega)]; exact h4
    · rw [upd_s]; exact r
  · rw [e 5 (by omega)] at hk
    rw [e _ (by omega), e _ (by omega)]
    exact hsw k hk
  · rw [e 5 (by omega)] at hh
    rw [e 6 (by omega)]
    exact hz hh
  · rw [e 5 (by omega)] at hh
    rw [e 6 (by omega), e 7 (by omega), e 9 (by omega)]
    exact hgo hh
