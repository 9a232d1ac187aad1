/-! the class alone: what holds between two calls, and what each change does -/
def SLc (μ : Mem) (z : Nat → Int32) (sl : Nat → Nat → Int32) : Prop := ∀ j, j < 2 → μ 133 j = z j ∧ zb (z j) ∧ (z j = 1 → Snd μ (134 + 16 * j) (sl j) ∧ Wf 999999 (sl j))
theorem SLc.fr {μ μ' : Mem} {z : Nat → Int32} {sl : Nat → Nat → Int32} (h : SLc μ z sl) (h1 : ∀ q, 133 ≤ q → q < 166 → μ' q = μ q) : SLc μ' z sl := by
  intro j hj
  obtain ⟨a0, a, b⟩ := h j hj
  rw [h1 133 (by omega) (by omega)]
  refine ⟨a0, a, fun z => ?_⟩
  obtain ⟨c1, c2⟩ := b z
  exact ⟨c1.fr (fun q q1 q2 => h1 q (by omega) (by omega)), c2⟩
def upS (sl : Nat → Nat → Int32) (s : Nat) (σ : Nat → Int32) : Nat → Nat → Int32 := fun j => if j = s then σ else sl j
theorem upS_s {sl : Nat → Nat → Int32} {s : Nat} {σ : Nat → Int32} : upS sl s σ s = σ := if_pos rfl
theorem upS_n {sl : Nat → Nat → Int32} {s j : Nat} {σ : Nat → Int32} (h : j ≠ s) : upS sl s σ j = sl j := if_neg h
def CI (ct : Nat) (μ : Mem) (S : Nat) (hl : Nat → Nat → Int32) (σ : Nat → Int32) (z : Nat → Int32) (sl : Nat → Nat → Int32) : Prop := Snd μ 1 σ ∧ Wf 999999 σ ∧ S ≤ 6 ∧ HC ct μ S hl ∧ (∀ j, j < S → Wf 999999 (hl j)) ∧ SLc μ z sl
theorem CI.dn {ct : Nat} {μ : Mem} {S : Nat} {hl sl : Nat → Nat → Int32} {z : Nat → Int32} {σ : Nat → Int32} (h : CI (ct + 1) μ S hl σ z sl) : CI ct μ S hl σ z sl := ⟨h.1, h.2.1, h.2.2.1, h.2.2.2.1.dn, h.2.2.2.2⟩
theorem CI.dns {ct : Nat} {μ : Mem} {S : Nat} {hl sl : Nat → Nat → Int32} {z : Nat → Int32} {σ : Nat → Int32} : ∀ n, CI (ct + n) μ S hl σ z sl → CI ct μ S hl σ z sl
  | 0, h => h
  | n + 1, h => CI.dns n (CI.dn h)
theorem CI.what {ct : Nat} {μ μ1 : Mem} {S : Nat} {hl sl : Nat → Nat → Int32} {z : Nat → Int32} {σ : Nat → Int32} (h : CI ct μ S hl σ z sl) (hF : Fr 17 33 μ μ1) : CI ct μ1 S hl σ z sl := by
  obtain ⟨a1, a2, a3, a4, a5, a6⟩ := h
  exact ⟨a1.off hF (by omega), a2, a3, a4.fr (fun q q1 q2 => hF q (by omega)), a5, a6.fr (fun q q1 q2 => hF q (by omega))⟩
theorem CI.chg {ct : Nat} {μ μ4 μ5 : Mem} {S : Nat} {hl sl : Nat → Nat → Int32} {z : Nat → Int32} {σ σ' : Nat → Int32} (h : CI (ct + 1) μ S hl σ z sl) (hH : HC ct μ4 (hS S) (hL S hl σ)) (hF : Fr 33 131 μ μ4) (hF5 : Fr 1 17 μ4 μ5) (hs : Snd μ5 1 σ') (hw : Wf 999999 σ') : CI ct μ5 (hS S) (hL S hl σ) σ' z sl := by
  obtain ⟨a1, a2, a3, a4, a5, a6⟩ := h
  exact ⟨hs, hw, hS_le S, hH.fr (fun q q1 q2 => hF5 q (by omega)), hL_wf a3 a5 a2, a6.fr (fun q q1 q2 => by rw [hF5 q (by omega), hF q (by omega)])⟩
theorem CI.whl {ct w : Nat} {μ μ4 μ5 : Mem} {S : Nat} {hl sl : Nat → Nat → Int32} {z : Nat → Int32} {σ ω' : Nat → Int32} (h : CI (ct + 1) μ S hl σ z sl) (hw : w < 4) (hH : HC ct μ4 (hS S) (hL S hl σ)) (hs : Snd μ4 1 σ) (hF : Fr 33 131 μ μ4) (hc : Whl μ5 (5 + 3 * w) ω') (hfr : Fr (5 + 3 * w) (5 + 3 * w + 3) μ4 μ5) (hω : WfW ω') : CI ct μ5 (hS S) (hL S hl σ) (putw σ w ω') z sl :=
  h.chg hH hF (hfr.mono (by omega) (by omega)) (Snd.putw (o := 1) hs h.2.1 hw hω.2.2.2.2.2.1 hc hfr) (h.2.1.putw hw hω)
section KC
variable {ct : Nat} {μ : Mem} {S : Nat} {hl sl : Nat → Nat → Int32} {z : Nat → Int32} {σ : Nat → Int32} {K : Int32 → Mem → Prop}
theorem k_clip {v : Int32} (h : CI (ct + 1) μ S hl σ z sl) (l1 : 1 ≤ v) (l2 : v ≤ 960) (hK : ∀ μ', CI ct μ' (hS S) (hL S hl σ) (upd σ 0 v) z sl → K (σ 0) μ') : x_X5_clip v μ K := by
  obtain ⟨a1, a2, a3, a4, a5, a6⟩ := id h
  unfold x_X5_clip
  apply q5_out
  · intro _ _
    refine ⟨fun _ => ?_, fun z => absurd rfl z⟩
    refine q0_keep a4 a3 a1 a2 (fun μ4 hH hs hF => ?_)
    rintro _ rfl _ rfl
    rw [show μ4 1 0 = σ 0 from hs.1]
    obtain ⟨s0, s1, s2, s3, s4, s5, s6, s7⟩ := id hs
    obtain ⟨w0, w1, w2, w3, w4, w5, w6⟩ := id a2
    refine hK _ (h.chg hH hF (Fr.rfl.um (by omega) (by omega)) ?_ ?_)
    · refine ⟨?_, ?_, ?_, ?_, ?_, fun k hk => ?_, fun k hk => ?_, fun w hw => ?_⟩
      · rw [um_s, upd_s, upd_s]
      · rw [um_s, upd_n (by omega), upd_n (by omega)]; exact s1
      · rw [um_s, upd_n (by omega), upd_n (by omega)]; exact s2
      · rw [um_s, upd_n (by omega), upd_n (by omega)]; exact s3
      · rw [um_s, upd_n (by omega), upd_n (by omega)]; exact s4
      · rw [um_n (by omega), upd_n (by omega)]; exact s5 k hk
      · rw [um_n (by omega), upd_n (by omega)]; exact s6 k hk
      · refine ((s7 w hw).congr (w4 w hw).2.2.2.2.2.1 (ω' := wl (upd σ 0 v) w) (fun j hj => upd_n (by omega))).fr (um_n (by omega)) (um_n (by omega)) (um_n (by omega))
    · refine ⟨by rw [upd_s]; exact rg_le rfl rfl l1 l2, by rw [upd_n (by omega)]; exact w1, by rw [upd_n (by omega), upd_n (by omega)]; exact w2, fun k hk => by rw [upd_n (by omega)]; exact w3 k hk, fun w hw => (w4 w hw).congr (fun j hj => upd_n (by omega)), by rw [upd_n (by omega), upd_n (by omega)]; exact w5, ?_⟩
      rw [upd_n (by omega), upd_n (by omega), upd_n (by omega)]
      exact w6
  · intro z
    exact absurd ⟨l1, l2⟩ z
theorem k_fill {t p : Nat} {v : Int32} (h : CI (ct + 1) μ S hl σ z sl) (ht : t < 4) (hp : p < 16) (l1 : 0 ≤ v) (l2 : v ≤ 15) (hK : ∀ μ', CI ct μ' (hS S) (hL S hl σ) (upd σ (6 + (t * 16 + p)) v) z sl → K (σ (6 + (t * 16 + p))) μ') : x_X5_fill (nI t) (nI p) v μ K := by
  obtain ⟨a1, a2, a3, a4, a5, a6⟩ := id h
  unfold x_X5_fill
  apply q5_table
  · intro t' ht' et
    refine ⟨fun _ => ?_, fun z => absurd rfl z⟩
    apply q5_place
    · intro p' hp' ep
      refine ⟨fun _ => ?_, fun z => absurd rfl z⟩
      apply q5_out
      · intro _ _
        refine ⟨fun _ => ?_, fun z => absurd rfl z⟩
        refine q0_keep a4 a3 a1 a2 (fun μ4 hH hs hF => ?_)
        rw [n_16, pk_mul, nI_add]
        rintro _ rfl
        refine ⟨vp_in_nI (by omega) (by omega), ?_⟩
        rw [nI_clamp (by omega)]
        rintro _ rfl
        refine ⟨vp_in_nI (by omega) (by omega), ?_⟩
        rintro _ rfl
        obtain ⟨s0, s1, s2, s3, s4, s5, s6, s7⟩ := id hs
        obtain ⟨w0, w1, w2, w3, w4, w5, w6⟩ := id a2
        rw [show μ4 2 (t * 16 + p) = σ (6 + (t * 16 + p)) from s5 _ (by omega)]
        refine hK _ (h.chg hH hF (Fr.rfl.um (by omega) (by omega)) ?_ ?_)
        · refine ⟨?_, ?_, ?_, ?_, ?_, fun k hk => ?_, fun k hk => ?_, fun w hw => ?_⟩
          · rw [um_n (by omega), upd_n (by omega)]; exact s0
          · rw [um_n (by omega), upd_n (by omega)]; exact s1
          · rw [um_n (by omega), upd_n (by omega)]; exact s2
          · rw [um_n (by omega), upd_n (by omega)]; exact s3
          · rw [um_n (by omega), upd_n (by omega)]; exact s4
          · show um μ4 2 _ 2 k = _
            rw [um_s]
            by_cases hkp : k = t * 16 + p
            · subst hkp
              rw [upd_s, upd_s]
            · rw [upd_n hkp, upd_n (by omega)]; exact s5 k hk
          · rw [um_n (by omega), upd_n (by omega)]; exact s6 k hk
          · refine ((s7 w hw).congr (w4 w hw).2.2.2.2.2.1 (ω' := wl (upd σ (6 + (t * 16 + p)) v) w) (fun j hj => upd_n (by omega))).fr (um_n (by omega)) (um_n (by omega)) (um_n (by omega))
        · refine ⟨by rw [upd_n (by omega)]; exact w0, by rw [upd_n (by omega)]; exact w1, by rw [upd_n (by omega), upd_n (by omega)]; exact w2, fun k hk => ?_, fun w hw => (w4 w hw).congr (fun j hj => upd_n (by omega)), by rw [upd_n (by omega), upd_n (by omega)]; exact w5, ?_⟩
          · by_cases hkp : k = t * 16 + p
            · subst hkp
              rw [upd_s]
              exact rg_le rfl rfl l1 l2
            · rw [upd_n (by omega)]
              exact w3 k hk
          · rw [upd_n (by omega), upd_n (by omega), upd_n (by omega)]
            exact w6
      · intro z
        exact absurd ⟨l1, l2⟩ z
    · intro z
      exact absurd rfl (z p hp)
  · intro z
    exact absurd rfl (z t ht)
theorem k_whl {w : Nat} (hw : w < 4) (h : CI ct μ S hl σ z sl) : WfW (wl σ w) := h.2.1.2.2.2.2.1 w hw
theorem k_step {w : Nat} {v : Int32} (h : CI (ct + 1) μ S hl σ z sl) (hw : w < 4) (l1 : 0 ≤ v) (l2 : v ≤ 65535) (hK : ∀ μ', CI ct μ' (hS S) (hL S hl σ) (putw σ w (stw (wl σ w) v)) z sl → K (wl σ w 1) μ') : x_X5_step (nI w) v μ K := by
  obtain ⟨a1, a2, a3, a4, a5, a6⟩ := id h
  unfold x_X5_step
  apply q5_wheel
  · intro _ _ _
    apply if0
    apply q5_out
    · intro _ _
      apply if0
      refine q0_keep a4 a3 a1 a2 (fun μ4 hH hs hF => ?_)
      rw [nI_clamp (by omega)]
      refine ⟨vp_in_nI hw (by omega), ?_⟩
      rintro _ rfl
      refine ⟨vp_in_nI hw (by omega), ?_⟩
      have hcw := hs.2.2.2.2.2.2.2 w hw
      refine q4_changeStep (ω := wl σ w) hcw (fun μ5 hc hfr => ?_)
      rw [show μ4 (5 + 3 * w) 1 = wl σ w 1 from hcw.2.1]
      exact hK _ (h.whl hw hH hs hF hc hfr (stw_wf (k_whl hw h) (rg_le rfl rfl l1 l2)))
    · intro z
      exact absurd ⟨l1, l2⟩ z
  · intro z
    exact absurd rfl (z w hw)
theorem k_table {w t : Nat} (h : CI (ct + 1) μ S hl σ z sl) (hw : w < 4) (ht : t < 4) (hK : ∀ μ', CI ct μ' (hS S) (hL S hl σ) (putw σ w (upd (wl σ w) 2 (nI t))) z sl → K (wl σ w 2) μ') : x_X5_table (nI w) (nI t) μ K := by
  obtain ⟨a1, a2, a3, a4, a5, a6⟩ := id h
  unfold x_X5_table
  apply q5_wheel
  · intro _ _ _
    apply if0
    apply q5_table
    · intro _ _ _
      apply if0
      refine q0_keep a4 a3 a1 a2 (fun μ4 hH hs hF => ?_)
      rw [nI_clamp (by omega)]
      refine ⟨vp_in_nI hw (by omega), ?_⟩
      rintro _ rfl
      refine ⟨vp_in_nI hw (by omega), ?_⟩
      rintro _ rfl
      have hcw : Whl μ4 (5 + 3 * w) (wl σ w) := hs.2.2.2.2.2.2.2 w hw
      rw [show μ4 (5 + 3 * w) 2 = wl σ w 2 from hcw.2.2.1]
      exact hK _ (h.whl hw hH hs hF (hcw.put (j := 2) (by omega)) (Fr.rfl.um (by omega) (by omega)) ((k_whl hw h).put (j := 2) (Or.inr (Or.inl ⟨rfl, rg_of (by omega) (by omega) (by omega)⟩))))
    · intro z
      exact absurd rfl (z t ht)
  · intro z
    exact absurd rfl (z w hw)
theorem k_volume {w : Nat} {v : Int32} (h : CI (ct + 1) μ S hl σ z sl) (hw : w < 4) (l1 : 0 ≤ v) (l2 : v ≤ 16) (hK : ∀ μ', CI ct μ' (hS S) (hL S hl σ) (putw σ w (upd (wl σ w) 3 v)) z sl → K (wl σ w 3) μ') : x_X5_volume (nI w) v μ K := by
  obtain ⟨a1, a2, a3, a4, a5, a6⟩ := id h
  unfold x_X5_volume
  apply q5_wheel
  · intro _ _ _
    apply if0
    apply q5_out
    · intro _ _
      apply if0
      refine q0_keep a4 a3 a1 a2 (fun μ4 hH hs hF => ?_)
      rw [nI_clamp (by omega)]
      refine ⟨vp_in_nI hw (by omega), ?_⟩
      rintro _ rfl
      refine ⟨vp_in_nI hw (by omega), ?_⟩
      rintro _ rfl
      have hcw : Whl μ4 (5 + 3 * w) (wl σ w) := hs.2.2.2.2.2.2.2 w hw
      rw [show μ4 (5 + 3 * w) 3 = wl σ w 3 from hcw.2.2.2.1]
      exact hK _ (h.whl hw hH hs hF (hcw.put (j := 3) (by omega)) (Fr.rfl.um (by omega) (by omega)) ((k_whl hw h).put (j := 3) (Or.inr (Or.inr (Or.inl ⟨rfl, rg_le rfl rfl l1 l2⟩)))))
    · intro z
      exact absurd ⟨l1, l2⟩ z
  · intro z
    exact absurd rfl (z w hw)
theorem k_phase {w : Nat} {v : Int32} (h : CI (ct + 1) μ S hl σ z sl) (hw : w < 4) (l1 : 0 ≤ v) (l2 : v ≤ 65535) (hK : ∀ μ', CI ct μ' (hS S) (hL S hl σ) (putw σ w (upd (wl σ w) 0 v)) z sl → K (wl σ w 0) μ') : x_X5_phase (nI w) v μ K := by
  obtain ⟨a1, a2, a3, a4, a5, a6⟩ := id h
  unfold x_X5_phase
  apply q5_wheel
  · intro _ _ _
    apply if0
    apply q5_out
    · intro _ _
      apply if0
      refine q0_keep a4 a3 a1 a2 (fun μ4 hH hs hF => ?_)
      rw [nI_clamp (by omega)]
      refine ⟨vp_in_nI hw (by omega), ?_⟩
      rintro _ rfl
      refine ⟨vp_in_nI hw (by omega), ?_⟩
      rintro _ rfl
      have hcw : Whl μ4 (5 + 3 * w) (wl σ w) := hs.2.2.2.2.2.2.2 w hw
      rw [show μ4 (5 + 3 * w) 0 = wl σ w 0 from hcw.1]
      exact hK _ (h.whl hw hH hs hF (hcw.put (j := 0) (by omega)) (Fr.rfl.um (by omega) (by omega)) ((k_whl hw h).put (j := 0) (Or.inl ⟨rfl, rg_le rfl rfl l1 l2⟩)))
    · intro z
      exact absurd ⟨l1, l2⟩ z
  · intro z
    exact absurd rfl (z w hw)
theorem k_turnNo {w : Nat} {v : Int32} (h : CI ct μ S hl σ z sl) (hw : w < 4) (hv : wl σ w 4 = v) (hK : K (-5) μ) : x_X5_turn (nI w) v μ K := by
  obtain ⟨a1, a2, a3, a4, a5, a6⟩ := id h
  unfold x_X5_turn
  apply q5_wheel
  · intro _ _ _
    apply if0
    rw [nI_clamp (by omega)]
    refine ⟨vp_in_nI hw (by omega), ?_⟩
    have e4 : μ (5 + 3 * w) 4 = wl σ w 4 := (a1.2.2.2.2.2.2.2 w hw).2.2.2.2.1
    rw [e4]
    exact ⟨fun _ => hK, fun z => absurd hv z⟩
  · intro z
    exact absurd rfl (z w hw)
theorem msk_pos {σ : Nat → Int32} (h : ∀ i, i < 4 → zb (wl σ i 4)) {w : Nat} (hw : w < 4) (hon : wl σ w 4 = 1) : ¬ ((((mskT σ 4 &&& 1) + ((mskT σ 4 >>> ((1 : Int32) &&& 31)) &&& 1)) + ((mskT σ 4 >>> ((2 : Int32) &&& 31)) &&& 1)) + (mskT σ 4 >>> ((3 : Int32) &&& 31))) ≤ 0 := by
  have h0 := h 0 (by omega)
  have h1 := h 1 (by omega)
  have h2 := h 2 (by omega)
  have h3 := h 3 (by omega)
  simp only [mskT]
  rcases (by omega : w = 0 ∨ w = 1 ∨ w = 2 ∨ w = 3) with rfl | rfl | rfl | rfl
  · rcases h1 with e1 | e1 <;> rcases h2 with e2 | e2 <;> rcases h3 with e3 | e3 <;> rw [hon, e1, e2, e3] <;> decide +kernel
  · rcases h0 with e0 | e0 <;> rcases h2 with e2 | e2 <;> rcases h3 with e3 | e3 <;> rw [e0, hon, e2, e3] <;> decide +kernel
  · rcases h0 with e0 | e0 <;> rcases h1 with e1 | e1 <;> rcases h3 with e3 | e3 <;> rw [e0, e1, hon, e3] <;> decide +kernel
  · rcases h0 with e0 | e0 <;> rcases h1 with e1 | e1 <;> rcases h2 with e2 | e2 <;> rw [e0, e1, e2, hon] <;> decide +kernel
theorem k_turn {w : Nat} {v : Int32} (h : CI (ct + 1) μ S hl σ z sl) (hw : w < 4) (hv : zb v) (hne : ¬ wl σ w 4 = v) (hK : ∀ r μ', ¬ r < 0 → (v = 1 → ¬ r ≤ 0) → CI ct μ' (hS S) (hL S hl σ) (putw σ w (upd (wl σ w) 4 v)) z sl → K r μ') : x_X5_turn (nI w) v μ K := by
  obtain ⟨a1, a2, a3, a4, a5, a6⟩ := id h
  unfold x_X5_turn
  apply q5_wheel
  · intro _ _ _
    apply if0
    rw [nI_clamp (by omega)]
    refine ⟨vp_in_nI hw (by omega), ?_⟩
    have e4 : μ (5 + 3 * w) 4 = wl σ w 4 := (a1.2.2.2.2.2.2.2 w hw).2.2.2.2.1
    rw [e4]
    refine ⟨fun z => absurd z hne, fun _ => ?_⟩
    refine q0_keep a4 a3 a1 a2 (fun μ4 hH hs hF => ?_)
    refine ⟨vp_in_nI hw (by omega), hv, ?_⟩
    rintro _ rfl
    have hcw : Whl μ4 (5 + 3 * w) (wl σ w) := hs.2.2.2.2.2.2.2 w hw
    have hω := (k_whl hw h).put (j := 4) (v := v) (Or.inr (Or.inr (Or.inr ⟨rfl, hv⟩)))
    have hcv := hcw.put (j := 4) (v := v) (by omega)
    have hfr : Fr (5 + 3 * w) (5 + 3 * w + 3) μ4 (um μ4 (5 + 3 * w) (upd (μ4 (5 + 3 * w)) 4 v)) := Fr.rfl.um (by omega) (by omega)
    have hs5 : Snd (um μ4 (5 + 3 * w) (upd (μ4 (5 + 3 * w)) 4 v)) 1 (putw σ w (upd (wl σ w) 4 v)) := Snd.putw (o := 1) hs a2 hw hω.2.2.2.2.2.1 hcv hfr
    apply q3_mask hs5 (a2.putw hw hω)
    have hz : ∀ i, i < 4 → zb (wl (putw σ w (upd (wl σ w) 4 v)) i 4) := fun i hi => ((a2.putw hw hω).2.2.2.2.1 i hi).2.2.2.2.1
    refine msk_same hz ?_
    exact hK _ _ (msk_nn hz) (fun hv1 => msk_pos hz hw (by rw [wl_putw (by omega), if_pos rfl, upd_s, hv1])) (h.whl hw hH hs hF hcv hfr hω)
  · intro z
    exact absurd rfl (z w hw)
theorem k_sweep {w m : Nat} {e s : Int32} (h : CI (ct + 1) μ S hl σ z sl) (hw : w < 4) (em : wl σ w 5 = nI m) (hm4 : m < 4) (l1 : 0 ≤ e) (l2 : e ≤ 65535) (k1 : 1 ≤ s) (k2 : s ≤ 999) (hK : ∀ μ', CI ct μ' (hS S) (hL S hl σ) (putw σ w (addw (wl σ w) m e s)) z sl → K (nI (m + 1)) μ') : x_X5_sweep (nI w) e s μ K := by
  obtain ⟨a1, a2, a3, a4, a5, a6⟩ := id h
  unfold x_X5_sweep
  apply q5_wheel
  · intro _ _ _
    apply if0
    apply q5_out
    · intro _ _
      apply if0
      apply q5_out
      · intro _ _
        apply if0
        rw [nI_clamp (by omega)]
        refine ⟨vp_in_nI hw (by omega), ?_⟩
        have e5 : μ (5 + 3 * w) 5 = nI m := (a1.2.2.2.2.2.2.2 w hw).2.2.2.2.2.1.trans em
        rw [e5]
        refine ⟨fun _ => ?_, fun hge => absurd (nI_lt (a := m) (b := 4) hm4 (by omega)) hge⟩
        refine q0_keep a4 a3 a1 a2 (fun μ4 hH hs hF => ?_)
        refine ⟨vp_in_nI hw (by omega), ?_⟩
        have hcw : Whl μ4 (5 + 3 * w) (wl σ w) := hs.2.2.2.2.2.2.2 w hw
        have hω := addw_wf (k_whl hw h) em hm4 (rg_le rfl rfl l1 l2) (rg_le rfl rfl k1 k2)
        refine q4_addSweep hcw em hm4 (fun μ5 hc hfr => ?_)
        refine ⟨vp_in_nI hw (by omega), ?_⟩
        have r5 : μ5 (5 + 3 * w) 5 = nI (m + 1) := by
          rw [hc.2.2.2.2.2.1]
          unfold addw
          rw [if_neg (by omega), if_neg (by omega), if_pos rfl]
        rw [r5]
        exact hK _ (h.whl hw hH hs hF hc hfr hω)
      · intro z
        exact absurd ⟨k1, k2⟩ z
    · intro z
      exact absurd ⟨l1, l2⟩ z
  · intro z
    exact absurd rfl (z w hw)
theorem k_sweepNo {w : Nat} {e s : Int32} (h : CI ct μ S hl σ z sl) (hw : w < 4) (em : wl σ w 5 = nI 4) (l1 : 0 ≤ e) (l2 : e ≤ 65535) (k1 : 1 ≤ s) (k2 : s ≤ 999) (hK : K (-4) μ) : x_X5_sweep (nI w) e s μ K := by
  obtain ⟨a1, a2, a3, a4, a5, a6⟩ := id h
  unfold x_X5_sweep
  apply q5_wheel
  · intro _ _ _
    apply if0
    apply q5_out
    · intro _ _
      apply if0
      apply q5_out
      · intro _ _
        apply if0
        rw [nI_clamp (by omega)]
        refine ⟨vp_in_nI hw (by omega), ?_⟩
        have e5 : μ (5 + 3 * w) 5 = nI 4 := (a1.2.2.2.2.2.2.2 w hw).2.2.2.2.2.1.trans em
        rw [e5]
        exact ⟨fun z => absurd z (nI_nlt (a := 4) (b := 4) (by omega) (by omega)), fun _ => hK⟩
      · intro z
        exact absurd ⟨k1, k2⟩ z
    · intro z
      exact absurd ⟨l1, l2⟩ z
  · intro z
    exact absurd rfl (z w hw)
theorem k_make {m c : Nat} (h : CI (ct + 1) μ S hl σ z sl) (hm : σ 1 = nI m) (hc1 : 1 ≤ c) (hc : c ≤ 999) (hb : m + c ≤ 999999) (hK : ∀ μ', CI ct μ' (hS S) (hL S hl σ) (mkN σ c) z sl → K (lstm σ c) μ') : x_X5_make (nI c) μ K := by
  obtain ⟨a1, a2, a3, a4, a5, a6⟩ := id h
  unfold x_X5_make
  apply q5_out
  · intro _ _
    apply if0
    unfold x_X3_hasNoRoomFor
    rw [a1.2.1, hm, n_999999, pk_sub (by omega)]
    refine ⟨fun _ => ?_, fun hgt => absurd (nI_le (a := c) (b := 999999 - m) (by omega) (by omega)) hgt⟩
    apply if0
    refine q0_keep a4 a3 a1 a2 (fun μ4 hH hs hF => ?_)
    refine q3_makeSome hs a2 hm hb (fun μ5 hs5 hfr => ?_)
    have hl := lst_last a2 hm (c := c) (by omega) hc1
    refine q3_ago (m := m + c) (g := 0) hs5 (mkN_1 hm c) (by omega) (by omega) ?_
    rw [hl.1]
    exact hK _ (h.chg hH hF hfr hs5 ((mkN_wf (a2.tight hm (by omega)) c (by omega)).mono (by omega)))
  · intro z
    exact absurd ⟨nI_le (a := 1) (b := c) hc1 (by omega), nI_le (a := c) (b := 999) hc (by omega)⟩ z
theorem k_save {s : Nat} (h : CI ct μ S hl σ z sl) (hs2 : s < 2) (hK : ∀ μ', CI ct μ' S hl σ (upd z s 1) (upS sl s σ) → K (σ 1) μ') : x_X5_save (nI s) μ K := by
  obtain ⟨a1, a2, a3, a4, a5, a6⟩ := id h
  unfold x_X5_save
  apply q5_out
  · intro _ _
    refine ⟨fun _ => ?_, fun z => absurd rfl z⟩
    simp (disch := omega) only [nI_clamp, vp_nI, true_and]
    refine q3_take (σ := σ) (by omega) a1 a2 (fun μ4 hs4 hF => ?_)
    rintro _ rfl
    rw [nar_b1]
    obtain ⟨ν, hν⟩ : ∃ ν, ν = um μ4 133 (upd (μ4 133) s 1) := ⟨_, rfl⟩
    rw [← hν]
    have e : ∀ q, (q < 134 + 16 * s ∨ 134 + 16 * s + 16 ≤ q) → q ≠ 133 → ν q = μ q := fun q q1 q2 => by rw [hν, um_n q2]; exact hF q q1
    have e1 : ν 1 3 = σ 1 := by rw [e _ (by omega) (by omega)]; exact a1.2.1
    have e133 : ν 133 = upd (μ 133) s 1 := by rw [hν, um_s, hF _ (by omega)]
    have hsν : Snd ν (134 + 16 * s) σ := hs4.fr (fun q q1 q2 => by rw [hν, um_n (by omega)])
    rw [e1]
    refine hK ν ⟨a1.fr (fun q q1 q2 => e q (by omega) (by omega)), a2, a3, a4.fr (fun q q1 q2 => e q (by omega) (by omega)), a5, fun j hj => ?_⟩
    rw [e133]
    by_cases hjs : j = s
    · subst hjs
      rw [upd_s, upd_s, upS_s]
      exact ⟨rfl, Or.inr rfl, fun _ => ⟨hsν, a2⟩⟩
    · rw [upd_n hjs, upd_n hjs, upS_n hjs]
      obtain ⟨z0, z1, z3⟩ := a6 j hj
      refine ⟨z0, z1, fun u => ?_⟩
      obtain ⟨u1, u3⟩ := z3 u
      exact ⟨u1.fr (fun q q1 q2 => e q (by omega) (by omega)), u3⟩
  · intro z
    exact absurd ⟨nI_pos' (by omega), nI_le (a := s) (b := 1) (by omega) (by omega)⟩ z
theorem k_restoreNo {s : Nat} (h : CI ct μ S hl σ z sl) (hs2 : s < 2) (hz : z s = 0) (hK : K (-5) μ) : x_X5_restore (nI s) μ K := by
  unfold x_X5_restore
  apply q5_out
  · intro _ _
    refine ⟨fun _ => ?_, fun z => absurd rfl z⟩
    simp (disch := omega) only [nI_clamp, vp_nI, true_and]
    exact ⟨fun _ => hK, fun w => absurd ((h.2.2.2.2.2 s hs2).1.trans hz) w⟩
  · intro z
    exact absurd ⟨nI_pos' (by omega), nI_le (a := s) (b := 1) (by omega) (by omega)⟩ z
theorem k_restore {s : Nat} (h : CI (ct + 1) μ S hl σ z sl) (hs2 : s < 2) (hone : z s = 1) (hK : ∀ μ', CI ct μ' (hS S) (hL S hl σ) (sl s) z sl → K (sl s 1) μ') : x_X5_restore (nI s) μ K := by
  obtain ⟨a1, a2, a3, a4, a5, a6⟩ := id h
  unfold x_X5_restore
  apply q5_out
  · intro _ _
    refine ⟨fun _ => ?_, fun z => absurd rfl z⟩
    simp (disch := omega) only [nI_clamp, vp_nI, true_and]
    obtain ⟨z0, z1, z3⟩ := a6 s (by omega)
    refine ⟨fun w => absurd ((z0.trans hone).symm.trans w) (by decide), fun _ => ?_⟩
    obtain ⟨u1, u3⟩ := z3 hone
    refine q0_keep a4 a3 a1 a2 (fun μ4 hH hs hF => ?_)
    refine q3_take (σ := sl s) (by omega) (u1.off hF (by omega)) u3 (fun μ5 hs5 hF5 => ?_)
    rw [show μ5 1 3 = sl s 1 from hs5.2.1]
    exact hK μ5 (h.chg hH hF hF5 hs5 u3)
  · intro z
    exact absurd ⟨nI_pos' (by omega), nI_le (a := s) (b := 1) (by omega) (by omega)⟩ z
theorem k_undoNo (h : CI ct μ 0 hl σ z sl) (hK : K (-5) μ) : x_X5_undo μ K := by
  obtain ⟨nx, -, -, -, e2, -⟩ := h.2.2.2.1
  unfold x_X5_undo
  rw [e2]
  exact ⟨fun _ => hK, fun z => absurd rfl z⟩
theorem k_undo {T : Nat} (h : CI ct μ (T + 1) hl σ z sl) (hK : ∀ μ', CI ct μ' T hl (hl T) z sl → K (nI T) μ') : x_X5_undo μ K := by
  obtain ⟨a1, a2, a3, a4, a5, a6⟩ := id h
  have e2 : μ 33 2 = nI (T + 1) := by
    obtain ⟨nx, -, -, -, e2, -⟩ := a4
    exact e2
  unfold x_X5_undo
  rw [e2]
  refine ⟨fun z => absurd z (nI_ne0 (by omega) (by omega)), fun _ => ?_⟩
  refine q0_back a4 a3 (a5 T (by omega)) (fun μ1 hH hs hq => ?_)
  have c33 : μ1 33 2 = nI T := by
    obtain ⟨nx, -, -, -, e2, -⟩ := hH
    exact e2
  rw [c33]
  exact hK μ1 ⟨hs, a5 T (by omega), by omega, hH, fun j hj => a5 j (by omega), a6.fr (fun q q1 q2 => hq q (by omega) (by omega))⟩
end KC
