theorem tdiv_btw {d k n : Int} (hk : 0 ≤ k) (hkn : k ≤ n) (hn : 0 < n) : (0 ≤ d → 0 ≤ (d * k).tdiv n ∧ (d * k).tdiv n ≤ d) ∧ (d ≤ 0 → d ≤ (d * k).tdiv n ∧ (d * k).tdiv n ≤ 0) := by
  have key : ∀ d : Int, 0 ≤ d → 0 ≤ (d * k).tdiv n ∧ (d * k).tdiv n ≤ d := by
    intro d hd
    have h0 : 0 ≤ d * k := Int.mul_nonneg hd hk
    rw [Int.tdiv_eq_ediv_of_nonneg h0]
    refine ⟨Int.ediv_nonneg h0 (by omega), ?_⟩
    apply Int.ediv_le_of_le_mul hn
    exact Int.mul_le_mul_of_nonneg_left hkn hd
  refine ⟨key d, fun hd => ?_⟩
  have h := key (-d) (by omega)
  rw [Int.neg_mul, Int.neg_tdiv] at h
  omega
theorem gph_rg {ω : Nat → Int32} (h0 : rg (ω 0) 0 65535) (h1 : rg (ω 1) 0 65535) : rg (gph ω) 0 65535 := by
  obtain ⟨a, ha, ea⟩ := rg_nI (n := 65535) h0
  obtain ⟨b, hb, eb⟩ := rg_nI (n := 65535) h1
  unfold gph
  rw [ea, eb, n_65536]
  simp (disch := omega) only [nI_add, pk_div, pk_mul, pk_sub]
  exact rg_of (by omega) (by omega) (by omega)
theorem gsp_rg {ω : Nat → Int32} (h8 : rg (ω 8) 0 65535) (h9 : rg (ω 9) 1 999) (h7 : rg (ω 7) 0 65535) (h6 : 0 ≤ (ω 6).toInt) (h69 : (ω 6).toInt < (ω 9).toInt) : rg (gsp ω) 0 65535 := by
  unfold rg at *
  have e1 : (ω 8 - ω 7).toInt = (ω 8).toInt - (ω 7).toInt := ii_sub (by omega) (by omega)
  have e2 : (ω 6 + 1).toInt = (ω 6).toInt + 1 := by rw [ii_add] <;> simp <;> omega
  have hb := tdiv_btw (d := (ω 8).toInt - (ω 7).toInt) (k := (ω 6).toInt + 1) (n := (ω 9).toInt) (by omega) (by omega) (by omega)
  have hp : -2147483648 ≤ ((ω 8).toInt - (ω 7).toInt) * ((ω 6).toInt + 1) ∧ ((ω 8).toInt - (ω 7).toInt) * ((ω 6).toInt + 1) < 2147483648 := by
    have a1 : ((ω 8).toInt - (ω 7).toInt) * ((ω 6).toInt + 1) ≤ 65535 * ((ω 6).toInt + 1) := Int.mul_le_mul_of_nonneg_right (by omega) (by omega)
    have a2 : (-65535) * ((ω 6).toInt + 1) ≤ ((ω 8).toInt - (ω 7).toInt) * ((ω 6).toInt + 1) := Int.mul_le_mul_of_nonneg_right (by omega) (by omega)
    omega
  have e3 : ((ω 8 - ω 7) * (ω 6 + 1)).toInt = ((ω 8).toInt - (ω 7).toInt) * ((ω 6).toInt + 1) := by rw [ii_mul] <;> rw [e1, e2] <;> omega
  have e4 : (((ω 8 - ω 7) * (ω 6 + 1)) / ω 9).toInt = (((ω 8).toInt - (ω 7).toInt) * ((ω 6).toInt + 1)).tdiv (ω 9).toInt := by
    rw [Int32.toInt_div, e3, ii_bmod]
    · rcases Int.le_total 0 ((ω 8).toInt - (ω 7).toInt) with h | h
      · have := hb.1 h; omega
      · have := hb.2 h; omega
    · rcases Int.le_total 0 ((ω 8).toInt - (ω 7).toInt) with h | h
      · have := hb.1 h; omega
      · have := hb.2 h; omega
  unfold gsp
  rcases Int.le_total 0 ((ω 8).toInt - (ω 7).toInt) with h | h
  · have := hb.1 h
    rw [ii_add] <;> rw [e4] <;> omega
  · have := hb.2 h
    rw [ii_add] <;> rw [e4] <;> omega
theorem i_pos {x : Int32} {a : Int} (h : rg x 0 a) (h0 : ¬ x = 0) : 0 < x.toInt := by
  have h6 : x.toInt ≠ 0 := fun z => h0 (ii_eq.mpr z)
  have := h.1
  omega
theorem gw_wf {ω : Nat → Int32} (hf : WfW ω) : WfW (gw ω) := by
  obtain ⟨h0, h1, h2, h3, h4, h5, hsw, hz, hgo⟩ := hf
  have hp := gph_rg h0 h1
  by_cases c5 : ω 5 = 0
  · have e : ∀ j, gw ω j = if j = 0 then gph ω else ω j := fun j => by unfold gw; rw [if_pos c5]
    refine ⟨by rw [e]; exact hp, by rw [e]; exact h1, by rw [e]; exact h2, by rw [e]; exact h3, by rw [e]; exact h4, by rw [e]; exact h5, ?_, ?_, ?_⟩
    · intro k hk
      rw [e] at hk
      have hk : (k : Int) < (ω 5).toInt := hk
      rw [e, e, if_neg (by omega), if_neg (by omega)]
      exact hsw k hk
    · intro h
      rw [e] at h ⊢
      exact hz h
    · intro h
      rw [e] at h
      exact absurd c5 h
  · have hpos := i_pos h5 c5
    obtain ⟨g1, g2, g3⟩ := hgo c5
    have h89 := hsw 0 (by omega)
    have hs : rg (gsp ω) 0 65535 := gsp_rg h89.1 h89.2 g3 g1 g2
    have l9 := h89.2.2
    have l9 : (ω 9).toInt ≤ 999 := l9
    have e2 : (ω 6 + 1).toInt = (ω 6).toInt + 1 := by rw [ii_add] <;> simp <;> omega
    by_cases c6 : ω 6 + 1 = ω 9
    · have e : ∀ j, gw ω j = if j = 0 then gph ω else if j = 1 then gsp ω else if j = 5 then ω 5 - 1 else if j = 6 then 0 else if j = 7 then gsp ω else if 8 ≤ j ∧ j < 14 then ω (j + 2) else ω j := fun j => by unfold gw; rw [if_neg c5, if_pos c6]
      have e51 : (ω 5 - 1).toInt = (ω 5).toInt - 1 := by
        have := h5.2
        rw [ii_sub] <;> simp <;> omega
      refine ⟨by rw [e]; exact hp, by rw [e]; exact hs, by rw [e]; exact h2, by rw [e]; exact h3, by rw [e]; exact h4, ?_, ?_, ?_, ?_⟩
      · rw [e]
        show rg (ω 5 - 1) 0 4
        have := h5.2
        exact ⟨by omega, by omega⟩
      · intro k hk
        rw [e] at hk
        have hk : (k : Int) < (ω 5 - 1).toInt := hk
        have := h5.2
        rw [e, e, if_neg (by omega), if_neg (by omega), if_neg (by omega), if_neg (by omega), if_neg (by omega), if_pos (by omega), if_neg (by omega), if_neg (by omega), if_neg (by omega), if_neg (by omega), if_neg (by omega), if_pos (by omega)]
        have := hsw (k + 1) (by omega)
        rw [show 8 + 2 * k + 2 = 8 + 2 * (k + 1) by omega, show 9 + 2 * k + 2 = 9 + 2 * (k + 1) by omega]
        exact this
      · intro _
        rw [e]
        rfl
      · intro h
        rw [e] at h
        have h : ¬ ω 5 - 1 = 0 := h
        have h' : (ω 5 - 1).toInt ≠ 0 := fun z => h (ii_eq.mpr z)
        rw [e, e, e]
        show 0 ≤ (0 : Int32).toInt ∧ (0 : Int32).toInt < (ω 11).toInt ∧ rg (gsp ω) 0 65535
        have := (hsw 1 (by omega)).2.1
        have : 1 ≤ (ω 11).toInt := this
        exact ⟨by simp, by simp; omega, hs⟩
    · have e : ∀ j, gw ω j = if j = 0 then gph ω else if j = 1 then gsp ω else if j = 6 then ω 6 + 1 else ω j := fun j => by unfold gw; rw [if_neg c5, if_neg c6]
      refine ⟨by rw [e]; exact hp, by rw [e]; exact hs, by rw [e]; exact h2, by rw [e]; exact h3, by rw [e]; exact h4, by rw [e]; exact h5, ?_, ?_, ?_⟩
      · intro k hk
        rw [e] at hk
        have hk : (k : Int) < (ω 5).toInt := hk
        rw [e, e, if_neg (by omega), if_neg (by omega), if_neg (by omega), if_neg (by omega), if_neg (by omega), if_neg (by omega)]
        exact hsw k hk
      · intro h
        rw [e] at h
        exact absurd h c5
      · intro _
        rw [e, e, e]
        show 0 ≤ (ω 6 + 1).toInt ∧ (ω 6 + 1).toInt < (ω 9).toInt ∧ rg (ω 7) 0 65535
        have h' : (ω 6 + 1).toInt ≠ (ω 9).toInt := fun z => c6 (ii_eq.mpr z)
        exact ⟨by omega, by omega, g3⟩
theorem q4_drop_loop {c m : Nat} (hm : m ≤ 3) {μ : Mem} (h5 : μ c 5 = nI m) {K : Mem → Prop} (hK : ∀ μ', Fr (c + 1) (c + 3) μ μ' → (∀ k, k < m → μ' (c + 1) k = μ (c + 1) (k + 1) ∧ μ' (c + 2) k = μ (c + 2) (k + 1)) → K μ') :
    ∀ (n i : Nat) (μ1 : Mem), i + n = m → Fr (c + 1) (c + 3) μ μ1 → (∀ k, (k < i → μ1 (c + 1) k = μ (c + 1) (k + 1) ∧ μ1 (c + 2) k = μ (c + 2) (k + 1)) ∧ (i ≤ k → μ1 (c + 1) k = μ (c + 1) k ∧ μ1 (c + 2) k = μ (c + 2) k)) → x_X4_dropFirstSweep_L12 K (n + 1) c (nI i) μ1 := by
  intro n
  induction n with
  | zero =>
    intro i μ1 hi hfr hk
    show xb_X4_dropFirstSweep_L12 _ _ _ _ _
    unfold xb_X4_dropFirstSweep_L12
    rw [hfr c (by omega), h5]
    refine ⟨fun _ => hK μ1 hfr (fun k hkm => (hk k).1 (by omega)), fun h => absurd (nI_le (a := m) (b := i) (by omega) (by omega)) h⟩
  | succ n ih =>
    intro i μ1 hi hfr hk
    show xb_X4_dropFirstSweep_L12 _ _ _ _ _
    unfold xb_X4_dropFirstSweep_L12
    rw [hfr c (by omega), h5]
    refine ⟨fun h => absurd h (nI_ge (a := i) (b := m) (by omega) (by omega)), fun _ => ?_⟩
    rw [n_1, n_4]
    simp (disch := omega) only [nI_add, nI_clamp, vp_nI, true_and]
    refine ⟨fun h => absurd h (nI_ge (a := i + 1) (b := 4) (by omega) (by omega)), fun _ => ?_⟩
    rintro _ rfl _ rfl _ rfl
    refine ih (i + 1) _ (by omega) ((hfr.um (by omega) (by omega)).um (by omega) (by omega)) (fun k => ⟨fun hki => ?_, fun hki => ?_⟩)
    · rw [um_n (by omega : c + 1 ≠ c + 2), um_s, um_s, um_n (by omega : c + 2 ≠ c + 1)]
      by_cases hki2 : k = i
      · subst hki2
        rw [upd_s, upd_s]
        exact (hk (k + 1)).2 (by omega)
      · rw [upd_n hki2, upd_n hki2]
        exact (hk k).1 (by omega)
    · rw [um_n (by omega : c + 1 ≠ c + 2), um_s, um_s, um_n (by omega : c + 2 ≠ c + 1), upd_n (by omega), upd_n (by omega)]
      exact (hk k).2 (by omega)
/-- the class's wheel goes on as the reference's -/
theorem q4_goOn {c : Nat} {μ : Mem} {K : Mem → Prop} {ω : Nat → Int32} (hc : Whl μ c ω) (hf : WfW ω) (hK : ∀ μ', Whl μ' c (gw ω) → Fr c (c + 3) μ μ' → K μ') : x_X4_goOn c μ K := by
  obtain ⟨c0, c1, c2, c3, c4, c5, csw, cgo⟩ := hc
  obtain ⟨h0, h1, h2, h3, h4, h5, hsw, hz, hgo⟩ := hf
  unfold x_X4_goOn
  rintro _ rfl
  have e5 : um μ c (upd (μ c) 0 (μ c 0 + μ c 1 - (μ c 0 + μ c 1) / 65536 * 65536)) c 5 = ω 5 := by rw [um_s, upd_n (by omega), c5]
  rw [e5]
  refine ⟨fun h => ?_, fun h => ?_⟩
  · have z5 : ω 5 = 0 := by
      have := h5.1
      have h' : (ω 5).toInt ≤ 0 := by simpa using ii_le.mp h
      exact ii_eq.mpr (by simp; omega)
    refine hK _ ?_ (Fr.rfl.um (by omega) (by omega))
    unfold Whl
    have e : ∀ j, gw ω j = if j = 0 then gph ω else ω j := fun j => by unfold gw; rw [if_pos z5]
    simp only [um_s, e]
    simp [upd, c0, c1, c2, c3, c4, c5, z5, gph]
    intro k hk
    omega
  · have hpos : 0 < (ω 5).toInt := by
      have h' : ¬ (ω 5).toInt ≤ 0 := fun z => h (ii_le.mpr (by simpa using z))
      omega
    have z5 : ¬ ω 5 = 0 := by
      intro z
      rw [z] at hpos
      simp at hpos
    obtain ⟨g6, g7⟩ := cgo z5
    obtain ⟨r1, r2, r3⟩ := hgo z5
    have hs0 := hsw 0 (by omega)
    have cs0 := csw 0 (by omega)
    have l8 : μ (c + 1) 0 = ω 8 := cs0.1
    have l9 : μ (c + 2) 0 = ω 9 := cs0.2
    have b9 : 1 ≤ (ω 9).toInt ∧ (ω 9).toInt ≤ 999 := hs0.2
    unfold x_X4_goOnSweeping
    rintro _ rfl
    rw [um_n (by omega : c + 2 ≠ c), l9]
    refine ⟨fun _ => ?_, fun h => absurd (ii_lt.mpr (by simp; omega)) h⟩
    rintro _ rfl
    have n9 : ¬ ω 9 = 0 := by
      intro z
      rw [z] at b9
      simp at b9
    refine ⟨n9, ?_⟩
    rintro _ rfl
    simp only [um_s, um_um, um_n (by omega : c + 1 ≠ c), l8]
    have u1 : ∀ x y z : Int32, upd (upd (upd (μ c) 0 x) 9 y) 1 z 9 = y := fun x y z => by simp [upd]
    rw [u1]
    have v8 : ∀ x y : Int32, upd (upd (μ c) 0 x) 9 y 8 = ω 7 := fun x y => by simp [upd, g7]
    have v9 : ∀ x y : Int32, upd (upd (μ c) 0 x) 9 y 9 = y := fun x y => by simp [upd]
    have w9 : ∀ x : Int32, upd (μ c) 0 x 9 = ω 6 := fun x => by simp [upd, g6]
    rw [v8, v9, w9]
    have e2 : (ω 6 + 1).toInt = (ω 6).toInt + 1 := by rw [ii_add] <;> simp <;> omega
    obtain ⟨ρ, hρ⟩ : ∃ ρ : Nat → Int32, ρ = upd (upd (upd (μ c) 0 (μ c 0 + μ c 1 - (μ c 0 + μ c 1) / 65536 * 65536)) 9 (ω 6 + 1)) 1 (ω 7 + (ω 8 - ω 7) * (ω 6 + 1) / ω 9) := ⟨_, rfl⟩
    rw [← hρ]
    have ρ0 : ρ 0 = gph ω := by rw [hρ]; simp [upd, gph, c0, c1]
    have ρ1 : ρ 1 = gsp ω := by rw [hρ]; simp [upd, gsp]
    have ρ2 : ρ 2 = ω 2 := by rw [hρ]; simp [upd, c2]
    have ρ3 : ρ 3 = ω 3 := by rw [hρ]; simp [upd, c3]
    have ρ4 : ρ 4 = ω 4 := by rw [hρ]; simp [upd, c4]
    have ρ5 : ρ 5 = ω 5 := by rw [hρ]; simp [upd, c5]
    have ρ8 : ρ 8 = ω 7 := by rw [hρ]; simp [upd, g7]
    have ρ9 : ρ 9 = ω 6 + 1 := by rw [hρ]; simp [upd]
    refine ⟨fun h => ?_, fun h => ?_⟩
    · have c6 : ¬ ω 6 + 1 = ω 9 := by
        intro z
        rw [z] at h
        have := ii_lt.mp h
        omega
      have e : ∀ j, gw ω j = if j = 0 then gph ω else if j = 1 then gsp ω else if j = 6 then ω 6 + 1 else ω j := fun j => by unfold gw; rw [if_neg z5, if_neg c6]
      refine hK _ ?_ (Fr.rfl.um (by omega) (by omega))
      unfold Whl
      simp only [um_s, e, um_n (by omega : c + 1 ≠ c), um_n (by omega : c + 2 ≠ c)]
      refine ⟨ρ0, ρ1, ρ2, ρ3, ρ4, ρ5, fun k hk => ?_, fun _ => ⟨ρ9, ρ8⟩⟩
      have := csw k hk
      rw [if_neg (by omega), if_neg (by omega), if_neg (by omega), if_neg (by omega), if_neg (by omega), if_neg (by omega)]
      exact this
    · have c6 : ω 6 + 1 = ω 9 := by
        apply ii_eq.mpr
        have h' : ¬ (ω 6 + 1).toInt < (ω 9).toInt := fun z => h (ii_lt.mpr z)
        omega
      have e : ∀ j, gw ω j = if j = 0 then gph ω else if j = 1 then gsp ω else if j = 5 then ω 5 - 1 else if j = 6 then 0 else if j = 7 then gsp ω else if 8 ≤ j ∧ j < 14 then ω (j + 2) else ω j := fun j => by unfold gw; rw [if_neg z5, if_pos c6]
      obtain ⟨m, hm, em⟩ := rg_nI (n := 4) h5
      obtain ⟨m, rfl⟩ : ∃ m', m = m' + 1 := ⟨m - 1, by
        have : m ≠ 0 := by
          intro z
          subst z
          exact z5 em
        omega⟩
      unfold x_X4_dropFirstSweep
      rintro _ rfl
      refine ⟨m + 1, ?_⟩
      simp only [um_s, um_um]
      rw [ρ5, em, show nI (m + 1) - 1 = nI m from nI_pred m]
      refine q4_drop_loop (c := c) (m := m) (by omega) (μ := um μ c (upd ρ 5 (nI m))) (by rw [um_s, upd_s]) (fun μ' hfr hkk => ?_) m 0 _ (by omega) Fr.rfl (fun k => ⟨fun h => absurd h (by omega), fun _ => ⟨rfl, rfl⟩⟩)
      unfold x_X4_beginSweep
      rintro _ rfl _ rfl
      simp only [um_s, um_um]
      have hc' : μ' c = upd ρ 5 (nI m) := by rw [hfr c (by omega), um_s]
      rw [hc']
      refine hK _ ?_ (((Fr.rfl.um (by omega) (by omega)).trans (hfr.mono (by omega) (by omega))).um (by omega) (by omega))
      unfold Whl
      simp only [um_s, e, um_n (by omega : c + 1 ≠ c), um_n (by omega : c + 2 ≠ c)]
      have em1 : ω 5 - 1 = nI m := by rw [em]; exact nI_pred m
      refine ⟨by simp [upd, ρ0], by simp [upd, ρ1], by simp [upd, ρ2], by simp [upd, ρ3], by simp [upd, ρ4], by simp [upd, em1], fun k hk => ?_, fun _ => ⟨by simp [upd], by simp [upd, ρ1]⟩⟩
      have hk : (k : Int) < (ω 5 - 1).toInt := hk
      rw [em1, nI_toInt (by omega)] at hk
      have hkm := hkk k (by omega)
      rw [um_n (by omega : c + 1 ≠ c), um_n (by omega : c + 2 ≠ c)] at hkm
      have hcs := csw (k + 1) (by rw [em, nI_toInt (by omega)]; omega)
      rw [hkm.1, hkm.2, hcs.1, hcs.2]
      rw [if_neg (by omega), if_neg (by omega), if_neg (by omega), if_neg (by omega), if_neg (by omega), if_pos (by omega), if_neg (by omega), if_neg (by omega), if_neg (by omega), if_neg (by omega), if_neg (by omega), if_pos (by omega)]
      exact ⟨rfl, rfl⟩
