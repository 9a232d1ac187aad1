/-! changes of one wheel -/
theorem rec_wheel {ct : Nat} {μ μ4 μ5 : Mem} {S w : Nat} {hl sl : Nat → Nat → Int32} {ω' r : Nat → Int32} {res : Int32} (hx : InvX (ct + 1) μ S hl sl) (hw : w < 4) (hH : HC ct μ4 (hS S) (hL S hl (μ 169))) (hs : Snd μ4 1 (μ 169)) (hF : Fr 33 131 μ μ4) (hc : Whl μ5 (5 + 3 * w) ω') (hfr : Fr (5 + 3 * w) (5 + 3 * w + 3) μ4 μ5) (hω : WfW ω') (hr : ∀ k, k < 166 → r k = μ5 169 k) (hres : ¬ res < 0) : x_X6_recorded res (um (um μ5 170 r) 169 (putw (μ 169) w ω')) (fun r' μ2 => res = r' ∧ Inv ct μ2) := by
  refine rec_fin hx ?_ (hx.2.1.putw hw hω) (hH.fr (fun q q1 q2 => hfr q (by omega))) ((hF.mono (by omega) (by omega)).trans (hfr.mono (by omega) (by omega))) hr hres
  exact Snd.putw (o := 1) hs hx.2.1 hw hω.2.2.2.2.2.1 hc hfr
theorem neg_fin {ct : Nat} {μ : Mem} {r : Nat → Int32} {res : Int32} (h : Inv (ct + 1) μ) (hres : res < 0) : x_X6_recorded res (um μ 170 r) (fun r' μ2 => res = r' ∧ Inv ct μ2) := q6_rec_neg hres ⟨rfl, inv_170 h.dn⟩
theorem i6_one {w : Nat} (hw : w < 4) {μ : Mem} {K : Int32 → Mem → Prop} (hk : K 1 μ) : x_X6_isOne (nI w) μ K := q6_isOne (fun _ _ _ => hk) (fun z => absurd rfl (z w hw))
theorem i6_no {v : Int32} (hv : ∀ w, w < 4 → v ≠ nI w) {μ : Mem} {K : Int32 → Mem → Prop} (hk : K 0 μ) : x_X6_isOne v μ K := q6_isOne (fun w hw e => absurd e (hv w hw)) (fun _ => hk)
theorem i6_in {v lo hi : Int32} (h1 : lo ≤ v) (h2 : v ≤ hi) {μ : Mem} {K : Int32 → Mem → Prop} (hk : K 1 μ) : x_X6_in v lo hi μ K := q6_in (fun _ _ => hk) (fun z => absurd ⟨h1, h2⟩ z)
theorem i6_out {v lo hi : Int32} (h : ¬ (lo ≤ v ∧ v ≤ hi)) {μ : Mem} {K : Int32 → Mem → Prop} (hk : K 0 μ) : x_X6_in v lo hi μ K := q6_in (fun a b => absurd ⟨a, b⟩ h) (fun _ => hk)
theorem if1 {A B : Prop} (h : B) : ((1 : Int32) = 0 → A) ∧ (¬ (1 : Int32) = 0 → B) := ⟨fun z => absurd z (by decide), fun _ => h⟩
theorem if0 {A B : Prop} (h : A) : ((0 : Int32) = 0 → A) ∧ (¬ (0 : Int32) = 0 → B) := ⟨fun _ => h, fun z => absurd rfl z⟩
/-- the step is changed -/
def stw (ω : Nat → Int32) (v : Int32) : Nat → Int32 := upd (upd (upd ω 1 v) 5 0) 6 0
theorem q6_steps {w : Nat} {v : Int32} {μ : Mem} {K : Int32 → Mem → Prop} (hw : w < 4) (h1 : (0 : Int32) ≤ v) (h2 : v ≤ 65535) (hK : K (wl (μ 169) w 1) (um μ 169 (putw (μ 169) w (stw (wl (μ 169) w) v)))) : x_X6_steps (nI w) v μ K := by
  unfold x_X6_steps
  apply i6_one hw
  apply if1
  apply i6_in h1 h2
  apply if1
  apply q6_w
  simp (disch := omega) only [n_1, n_5, n_6, nI_add, nI_clamp, vp_nI, true_and]
  rintro _ rfl _ rfl _ rfl _ rfl
  simp only [um_s, um_um]
  rw [upd_putw (σ := μ 169) (j := 1) (by omega), putw_upd (j := 5) (by omega), putw_upd (j := 6) (by omega)]
  exact hK
theorem q6_tables {w t : Nat} {μ : Mem} {K : Int32 → Mem → Prop} (hw : w < 4) (ht : t < 4) (hK : K (wl (μ 169) w 2) (um μ 169 (putw (μ 169) w (upd (wl (μ 169) w) 2 (nI t))))) : x_X6_tables (nI w) (nI t) μ K := by
  unfold x_X6_tables
  apply i6_one hw
  apply if1
  apply i6_one ht
  apply if1
  apply q6_w
  simp (disch := omega) only [n_2, nI_add, nI_clamp, vp_nI, true_and]
  rintro _ rfl
  apply q6_w
  simp (disch := omega) only [nI_add, nI_clamp, vp_nI, true_and]
  rintro _ rfl
  rw [upd_putw (by omega)]
  exact hK
theorem q6_volumes {w : Nat} {v : Int32} {μ : Mem} {K : Int32 → Mem → Prop} (hw : w < 4) (h1 : (0 : Int32) ≤ v) (h2 : v ≤ 16) (hK : K (wl (μ 169) w 3) (um μ 169 (putw (μ 169) w (upd (wl (μ 169) w) 3 v)))) : x_X6_volumes (nI w) v μ K := by
  unfold x_X6_volumes
  apply i6_one hw
  apply if1
  apply i6_in h1 h2
  apply if1
  apply q6_w
  simp (disch := omega) only [n_3, nI_add, nI_clamp, vp_nI, true_and]
  rintro _ rfl
  apply q6_w
  simp (disch := omega) only [nI_add, nI_clamp, vp_nI, true_and]
  rintro _ rfl
  rw [upd_putw (by omega)]
  exact hK
theorem stw_wf {ω : Nat → Int32} {v : Int32} (h : WfW ω) (hv : rg v 0 65535) : WfW (stw ω v) := by
  obtain ⟨h0, h1, h2, h3, h4, h5, hsw, hz, hgo⟩ := h
  unfold stw
  refine ⟨by simp [upd]; exact h0, by simp [upd]; exact hv, by simp [upd]; exact h2, by simp [upd]; exact h3, by simp [upd]; exact h4, ?_, fun k hk => ?_, fun _ => by simp [upd], fun hh => ?_⟩
  · simp [upd]
    exact ⟨by simp, by simp⟩
  · rw [upd_n (by omega), upd_s] at hk
    simp at hk
    omega
  · rw [upd_n (by omega), upd_s] at hh
    exact absurd rfl hh
theorem q4_changeStep {c : Nat} {v : Int32} {μ : Mem} {K : Mem → Prop} {ω : Nat → Int32} (hc : Whl μ c ω) (hK : ∀ μ', Whl μ' c (stw ω v) → Fr c (c + 3) μ μ' → K μ') : x_X4_changeStep c v μ K := by
  obtain ⟨c0, c1, c2, c3, c4, c5, csw, cgo⟩ := hc
  unfold x_X4_changeStep
  rintro _ rfl _ rfl
  rw [um_s, um_um]
  refine hK _ ?_ (Fr.rfl.um (by omega) (by omega))
  unfold Whl stw
  simp only [um_s, um_n (by omega : c + 1 ≠ c), um_n (by omega : c + 2 ≠ c)]
  refine ⟨by simp [upd, c0], by simp [upd], by simp [upd, c2], by simp [upd, c3], by simp [upd, c4], by simp [upd], fun k hk => ?_, fun hh => ?_⟩
  · rw [upd_n (by omega), upd_s] at hk
    simp at hk
    omega
  · rw [upd_n (by omega), upd_s] at hh
    exact absurd rfl hh
theorem op_step {ct : Nat} {μ : Mem} {a v : Int32} (h : Inv (ct + 1) μ) : x_X5_step a v μ (fun r μ1 => x_X6_step a v μ1 (fun r' μ2 => r = r' ∧ Inv ct μ2)) := by
  obtain ⟨S, hl, sl, hx⟩ := id h
  obtain ⟨a1, a2, a3, a4, a5, a6, a7, a8⟩ := id hx
  unfold x_X5_step
  apply q5_wheel
  · rintro w hw rfl
    apply if0
    apply q5_out
    · intro l1 l2
      apply if0
      refine q0_keep a4 a3 a1 a2 (fun μ4 hH hs hF => ?_)
      rw [nI_clamp (by omega)]
      refine ⟨vp_in_nI hw (by omega), ?_⟩
      rintro _ rfl
      refine ⟨vp_in_nI hw (by omega), ?_⟩
      have hcw := hs.2.2.2.2.2.2.2 w hw
      refine q4_changeStep (ω := wl (μ 169) w) hcw (fun μ5 hc hfr => ?_)
      unfold x_X6_step
      apply q6_hold
      intro r hr
      have e169 : um μ5 170 r 169 = μ 169 := by rw [um_n (by omega), hfr _ (by omega), hF _ (by omega)]
      apply q6_steps hw l1 l2
      rw [e169, show μ4 (5 + 3 * w) 1 = wl (μ 169) w 1 from hcw.2.1]
      exact rec_wheel hx hw hH hs hF hc hfr (stw_wf (a2.2.2.2.2.1 w hw) (rg_le rfl rfl l1 l2)) hr (rg_nn (a2.2.2.2.2.1 w hw).2.1 (by omega))
    · intro l
      apply if1
      unfold x_X6_step
      apply q6_hold
      intro r hr
      unfold x_X6_steps
      apply i6_one hw
      apply if1
      apply i6_out l
      exact if0 (neg_fin h (by decide))
  · intro hv
    apply if1
    unfold x_X6_step
    apply q6_hold
    intro r hr
    unfold x_X6_steps
    apply i6_no hv
    exact if0 (neg_fin h (by decide))
theorem op_table {ct : Nat} {μ : Mem} {a v : Int32} (h : Inv (ct + 1) μ) : x_X5_table a v μ (fun r μ1 => x_X6_table a v μ1 (fun r' μ2 => r = r' ∧ Inv ct μ2)) := by
  obtain ⟨S, hl, sl, hx⟩ := id h
  obtain ⟨a1, a2, a3, a4, a5, a6, a7, a8⟩ := id hx
  unfold x_X5_table
  apply q5_wheel
  · rintro w hw rfl
    apply if0
    apply q5_table
    · rintro t ht rfl
      apply if0
      refine q0_keep a4 a3 a1 a2 (fun μ4 hH hs hF => ?_)
      rw [nI_clamp (by omega)]
      refine ⟨vp_in_nI hw (by omega), ?_⟩
      rintro _ rfl
      refine ⟨vp_in_nI hw (by omega), ?_⟩
      rintro _ rfl
      have hcw : Whl μ4 (5 + 3 * w) (wl (μ 169) w) := hs.2.2.2.2.2.2.2 w hw
      unfold x_X6_table
      apply q6_hold
      intro r hr
      have e169 : um (um μ4 (5 + 3 * w) (upd (μ4 (5 + 3 * w)) 2 (nI t))) 170 r 169 = μ 169 := by rw [um_n (by omega), um_n (by omega), hF _ (by omega)]
      apply q6_tables hw ht
      rw [e169, show μ4 (5 + 3 * w) 2 = wl (μ 169) w 2 from hcw.2.2.1]
      exact rec_wheel hx hw hH hs hF (hcw.put (j := 2) (by omega)) (Fr.rfl.um (by omega) (by omega)) ((a2.2.2.2.2.1 w hw).put (j := 2) (Or.inr (Or.inl ⟨rfl, rg_of (by omega) (by omega) (by omega)⟩))) hr (rg_nn (a2.2.2.2.2.1 w hw).2.2.1 (by omega))
    · intro hv
      apply if1
      unfold x_X6_table
      apply q6_hold
      intro r hr
      unfold x_X6_tables
      apply i6_one hw
      apply if1
      apply i6_no hv
      exact if0 (neg_fin h (by decide))
  · intro hv
    apply if1
    unfold x_X6_table
    apply q6_hold
    intro r hr
    unfold x_X6_tables
    apply i6_no hv
    exact if0 (neg_fin h (by decide))
theorem op_volume {ct : Nat} {μ : Mem} {a v : Int32} (h : Inv (ct + 1) μ) : x_X5_volume a v μ (fun r μ1 => x_X6_volume a v μ1 (fun r' μ2 => r = r' ∧ Inv ct μ2)) := by
  obtain ⟨S, hl, sl, hx⟩ := id h
  obtain ⟨a1, a2, a3, a4, a5, a6, a7, a8⟩ := id hx
  unfold x_X5_volume
  apply q5_wheel
  · rintro w hw rfl
    apply if0
    apply q5_out
    · intro l1 l2
      apply if0
      refine q0_keep a4 a3 a1 a2 (fun μ4 hH hs hF => ?_)
      rw [nI_clamp (by omega)]
      refine ⟨vp_in_nI hw (by omega), ?_⟩
      rintro _ rfl
      refine ⟨vp_in_nI hw (by omega), ?_⟩
      rintro _ rfl
      have hcw : Whl μ4 (5 + 3 * w) (wl (μ 169) w) := hs.2.2.2.2.2.2.2 w hw
      unfold x_X6_volume
      apply q6_hold
      intro r hr
      have e169 : um (um μ4 (5 + 3 * w) (upd (μ4 (5 + 3 * w)) 3 v)) 170 r 169 = μ 169 := by rw [um_n (by omega), um_n (by omega), hF _ (by omega)]
      apply q6_volumes hw l1 l2
      rw [e169, show μ4 (5 + 3 * w) 3 = wl (μ 169) w 3 from hcw.2.2.2.1]
      exact rec_wheel hx hw hH hs hF (hcw.put (j := 3) (by omega)) (Fr.rfl.um (by omega) (by omega)) ((a2.2.2.2.2.1 w hw).put (j := 3) (Or.inr (Or.inr (Or.inl ⟨rfl, rg_le rfl rfl l1 l2⟩)))) hr (rg_nn (a2.2.2.2.2.1 w hw).2.2.2.1 (by omega))
    · intro l
      apply if1
      unfold x_X6_volume
      apply q6_hold
      intro r hr
      unfold x_X6_volumes
      apply i6_one hw
      apply if1
      apply i6_out l
      exact if0 (neg_fin h (by decide))
  · intro hv
    apply if1
    unfold x_X6_volume
    apply q6_hold
    intro r hr
    unfold x_X6_volumes
    apply i6_no hv
    exact if0 (neg_fin h (by decide))
theorem op_phase {ct : Nat} {μ : Mem} {a v : Int32} (h : Inv (ct + 1) μ) : x_X5_phase a v μ (fun r μ1 => x_X6_phase a v μ1 (fun r' μ2 => r = r' ∧ Inv ct μ2)) := by
  obtain ⟨S, hl, sl, hx⟩ := id h
  obtain ⟨a1, a2, a3, a4, a5, a6, a7, a8⟩ := id hx
  unfold x_X5_phase
  apply q5_wheel
  · rintro w hw rfl
    apply if0
    apply q5_out
    · intro l1 l2
      apply if0
      refine q0_keep a4 a3 a1 a2 (fun μ4 hH hs hF => ?_)
      rw [nI_clamp (by omega)]
      refine ⟨vp_in_nI hw (by omega), ?_⟩
      rintro _ rfl
      refine ⟨vp_in_nI hw (by omega), ?_⟩
      rintro _ rfl
      have hcw : Whl μ4 (5 + 3 * w) (wl (μ 169) w) := hs.2.2.2.2.2.2.2 w hw
      unfold x_X6_phase
      apply i6_one hw
      apply if1
      apply i6_in l1 l2
      apply if1
      apply q6_hold
      intro r hr
      have e169 : um (um μ4 (5 + 3 * w) (upd (μ4 (5 + 3 * w)) 0 v)) 170 r 169 = μ 169 := by rw [um_n (by omega), um_n (by omega), hF _ (by omega)]
      apply q6_w
      simp (disch := omega) only [n_0, nI_add, nI_clamp, vp_nI, true_and]
      rintro _ rfl
      apply q6_w
      simp (disch := omega) only [nI_add, nI_clamp, vp_nI, true_and]
      rintro _ rfl
      rw [upd_putw (by omega), e169, show μ4 (5 + 3 * w) 0 = wl (μ 169) w 0 from hcw.1]
      exact rec_wheel hx hw hH hs hF (hcw.put (j := 0) (by omega)) (Fr.rfl.um (by omega) (by omega)) ((a2.2.2.2.2.1 w hw).put (j := 0) (Or.inl ⟨rfl, rg_le rfl rfl l1 l2⟩)) hr (rg_nn (a2.2.2.2.2.1 w hw).1 (by omega))
    · intro l
      apply if1
      unfold x_X6_phase
      apply i6_one hw
      apply if1
      apply i6_out l
      exact if0 ⟨rfl, h.dn⟩
  · intro hv
    apply if1
    unfold x_X6_phase
    apply i6_no hv
    exact if0 ⟨rfl, h.dn⟩
/-! turn -/
def mskT (σ : Nat → Int32) : Nat → Int32
  | 0 => 0
  | i + 1 => mskT σ i ||| (wl σ i 4 <<< (nI i &&& 31))
theorem q6_onWheels {μ : Mem} {K : Int32 → Mem → Prop} (hK : K (mskT (μ 169) 4) μ) : x_X6_onWheels μ K := by
  have key : ∀ (k i : Nat), i + k = 4 → x_X6_onWheels_L4 K (k + 1) (mskT (μ 169) i) (nI i) μ := by
    intro k
    induction k with
    | zero =>
      intro i hi
      obtain rfl : i = 4 := by omega
      show xb_X6_onWheels_L4 _ _ _ _ _
      unfold xb_X6_onWheels_L4
      exact ⟨fun _ => hK, fun h => absurd (nI_le (a := 4) (b := 4) (by omega) (by omega)) h⟩
    | succ k ih =>
      intro i hi
      have := ih (i + 1) (by omega)
      unfold mskT at this
      rw [nI_succ] at this
      show xb_X6_onWheels_L4 _ _ _ _ _
      unfold xb_X6_onWheels_L4
      refine ⟨fun h => absurd h (nI_ge (a := i) (b := 4) (by omega) (by omega)), fun _ => ?_⟩
      apply q6_w
      simp (disch := omega) only [n_4, nI_add, nI_clamp, vp_nI, true_and]
      rintro _ rfl _ rfl
      exact this
  unfold x_X6_onWheels
  exact ⟨5, key 4 0 (by omega)⟩
theorem q3_mask {o : Nat} {n : Int} {μ : Mem} {σ : Nat → Int32} {K : Int32 → Mem → Prop} (hs : Snd μ o σ) (hf : Wf n σ) (hK : K (mskT σ 4) μ) : x_X3_maskOfOn o μ K := by
  have key : ∀ (k i : Nat), i + k = 4 → x_X3_maskOfOn_L4 K (k + 1) o (mskT σ i) (nI i) μ := by
    intro k
    induction k with
    | zero =>
      intro i hi
      obtain rfl : i = 4 := by omega
      show xb_X3_maskOfOn_L4 _ _ _ _ _ _
      unfold xb_X3_maskOfOn_L4
      exact ⟨fun _ => hK, fun h => absurd (nI_le (a := 4) (b := 4) (by omega) (by omega)) h⟩
    | succ k ih =>
      intro i hi
      have hi4 : i < 4 := by omega
      have hz := (hf.2.2.2.2.1 i hi4).2.2.2.2.1
      have hc := (hs.2.2.2.2.2.2.2 i hi4).2.2.2.2.1
      have := ih (i + 1) (by omega)
      unfold mskT at this
      rw [nI_succ] at this
      show xb_X3_maskOfOn_L4 _ _ _ _ _ _
      unfold xb_X3_maskOfOn_L4
      refine ⟨fun h => absurd h (nI_ge (a := i) (b := 4) (by omega) (by omega)), fun _ => ?_⟩
      simp (disch := omega) only [nI_clamp, vp_nI, true_and, hc]
      refine ⟨fun h => ?_, fun h => ?_⟩
      · unfold x_X3_maskOfOn_L27
        rintro _ rfl
        rw [h, (by decide : ∀ i, i < 4 → (0 : Int32) <<< (nI i &&& 31) = 0) i hi4, Int32.or_zero] at this
        exact this
      · rintro _ rfl
        unfold x_X3_maskOfOn_L27
        rintro _ rfl
        rw [hz.resolve_left h] at this
        exact this
  unfold x_X3_maskOfOn
  exact ⟨5, key 4 0 (by omega)⟩
