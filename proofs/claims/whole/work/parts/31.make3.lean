/-! make -/
def mkN (σ : Nat → Int32) : Nat → Nat → Int32
  | 0 => σ
  | k + 1 => mks (mkN σ k)
theorem mks_1 {σ : Nat → Int32} : mks σ 1 = σ 1 + 1 := (goT_lo (by omega) 4).trans mk1_1
theorem mks_5 {σ : Nat → Int32} : mks σ 5 = mkm σ := (goT_lo (by omega) 4).trans mk1_5
theorem mkN_1 {σ : Nat → Int32} {m : Nat} (hm : σ 1 = nI m) : ∀ k, mkN σ k 1 = nI (m + k)
  | 0 => hm
  | k + 1 => by
    unfold mkN
    rw [mks_1, mkN_1 hm k, nI_1]
    rfl
theorem Wf.tight {n : Int} {m : Nat} {σ : Nat → Int32} (h : Wf n σ) (hm : σ 1 = nI m) (hb : m < 2 ^ 31) : Wf m σ := ⟨h.1, ⟨h.2.1.1, by rw [hm, nI_toInt hb]; omega⟩, h.2.2⟩
theorem Wf.made {n : Int} {σ : Nat → Int32} (h : Wf n σ) (hn : n < 1073741824) : ∃ m : Nat, σ 1 = nI m ∧ (m : Int) ≤ n := by
  refine ⟨(σ 1).toNatClampNeg, (nI_tn h.2.1.1).symm, ?_⟩
  have h1 := h.2.1.1
  have h2 := h.2.1.2
  show ((σ 1).toInt.toNat : Int) ≤ n
  omega
theorem mkN_wf {n : Int} {σ : Nat → Int32} (hf : Wf n σ) : ∀ k : Nat, n + k < 1073741824 → Wf (n + k) (mkN σ k)
  | 0, _ => hf.mono (by omega)
  | k + 1, hk => by
    have := mks_wf (mkN_wf hf k (by omega)) (by omega)
    exact this.mono (by omega)
theorem q3_makeSome {o c m : Nat} {n : Int} {μ : Mem} {σ : Nat → Int32} {K : Int32 → Mem → Prop} (hs : Snd μ o σ) (hf : Wf n σ) (hm : σ 1 = nI m) (hb : m + c ≤ 999999) (hK : ∀ μ', Snd μ' o (mkN σ c) → Fr o (o + 16) μ μ' → K 1 μ') : x_X3_makeSome o (nI c) μ K := by
  have ht := hf.tight hm (by omega)
  have loop : ∀ (k i : Nat) (μ1 : Mem), i + k = c → Snd μ1 o (mkN σ i) → Fr o (o + 16) μ μ1 → x_X3_makeSome_L12 K (k + 1) o (nI c) (nI i) μ1 := by
    intro k
    induction k with
    | zero =>
      intro i μ1 hi h1 h2
      obtain rfl : i = c := by omega
      show xb_X3_makeSome_L12 _ _ _ _ _ _
      unfold xb_X3_makeSome_L12
      exact ⟨fun _ => hK μ1 h1 h2, fun h => absurd (Int32.le_refl _) h⟩
    | succ k ih =>
      intro i μ1 hi h1 h2
      show xb_X3_makeSome_L12 _ _ _ _ _ _
      unfold xb_X3_makeSome_L12
      refine ⟨fun h => absurd h (nI_ge (a := i) (b := c) (by omega) (by omega)), fun _ => ?_⟩
      refine q3_makeOne h1 (mkN_wf ht i (by omega)) (by omega) (fun μ2 h3 h4 => ?_)
      rintro _ rfl
      rw [nI_1]
      exact ih (i + 1) μ2 (by omega) h3 (h2.trans h4)
  unfold x_X3_makeSome x_X3_hasNoRoomFor
  rw [hs.2.1, hm, n_999999, pk_sub (by omega)]
  refine ⟨fun _ => ?_, fun h => absurd (nI_le (a := c) (b := 999999 - m) (by omega) (by omega)) h⟩
  exact if0 ⟨c + 1, loop c 0 μ (by omega) hs Fr.rfl⟩
theorem q3_makeSomeNo {o c m : Nat} {μ : Mem} {σ : Nat → Int32} {K : Int32 → Mem → Prop} (hs : Snd μ o σ) (hm : σ 1 = nI m) (hm2 : m ≤ 999999) (hc : c < 2 ^ 30) (hb : 999999 < m + c) (hK : K 0 μ) : x_X3_makeSome o (nI c) μ K := by
  unfold x_X3_makeSome x_X3_hasNoRoomFor
  rw [hs.2.1, hm, n_999999, pk_sub (by omega)]
  refine ⟨fun h => absurd h (nI_ge (a := 999999 - m) (b := c) (by omega) (by omega)), fun _ => ?_⟩
  exact if1 hK
def lstm (σ : Nat → Int32) : Nat → Int32
  | 0 => 0
  | i + 1 => mkm (mkN σ i)
theorem q6_makesAll {c m : Nat} {n : Int} {μ : Mem} {K : Int32 → Mem → Prop} (hf : Wf n (μ 169)) (hm : μ 169 1 = nI m) (h1 : 1 ≤ c) (h2 : c ≤ 999) (hb : m + c ≤ 999999) (hK : K (lstm (μ 169) c) (um μ 169 (mkN (μ 169) c))) : x_X6_makesAll (nI c) μ K := by
  have ht := hf.tight hm (by omega)
  have loop : ∀ (k i : Nat), i + k = c → x_X6_makesAll_L34 K (k + 1) (nI c) (lstm (μ 169) i) (nI i) (um μ 169 (mkN (μ 169) i)) := by
    intro k
    induction k with
    | zero =>
      intro i hi
      obtain rfl : i = c := by omega
      show xb_X6_makesAll_L34 _ _ _ _ _ _
      unfold xb_X6_makesAll_L34
      exact ⟨fun _ => hK, fun h => absurd (Int32.le_refl _) h⟩
    | succ k ih =>
      intro i hi
      show xb_X6_makesAll_L34 _ _ _ _ _ _
      unfold xb_X6_makesAll_L34
      refine ⟨fun h => absurd h (nI_ge (a := i) (b := c) (by omega) (by omega)), fun _ => ?_⟩
      refine q6_makes (n := m + i) (by rw [um_s]; exact mkN_wf ht i (by omega)) (by omega) ?_
      rintro _ rfl
      rw [um_s, um_um, nI_1]
      exact ih (i + 1) (by omega)
  unfold x_X6_makesAll
  apply i6_in (nI_le (a := 1) (b := c) h1 (by omega)) (nI_le (a := c) (b := 999) h2 (by omega))
  apply if1
  rw [hm, n_999999, pk_sub (by omega)]
  refine ⟨fun _ => ?_, fun h => absurd (nI_le (a := m) (b := 999999 - c) (by omega) (by omega)) h⟩
  refine ⟨c + 1, ?_⟩
  have := loop c 0 (by omega)
  have e : um μ 169 (mkN (μ 169) 0) = μ := um_self
  rw [e] at this
  exact this
theorem q6_makesAllNo {c m : Nat} {μ : Mem} {K : Int32 → Mem → Prop} (hm : μ 169 1 = nI m) (hm2 : m ≤ 999999) (h1 : 1 ≤ c) (h2 : c ≤ 999) (hb : 999999 < m + c) (hK : K (-4) μ) : x_X6_makesAll (nI c) μ K := by
  unfold x_X6_makesAll
  apply i6_in (nI_le (a := 1) (b := c) h1 (by omega)) (nI_le (a := c) (b := 999) h2 (by omega))
  apply if1
  rw [hm, n_999999, pk_sub (by omega)]
  refine ⟨fun h => absurd h (nI_ge (a := 999999 - c) (b := m) (by omega) (by omega)), fun _ => hK⟩
theorem lst_last {n : Int} {σ : Nat → Int32} {m c : Nat} (hf : Wf n σ) (hm : σ 1 = nI m) (hb : m + c < 1073741824) (hc : 1 ≤ c) : mkN σ c (134 + (m + c - 1 - 0) % 32) = lstm σ c ∧ rg (lstm σ c) 0 960 := by
  obtain ⟨c, rfl⟩ : ∃ k, c = k + 1 := ⟨c - 1, by omega⟩
  have ht := hf.tight hm (by omega)
  have hw := mkN_wf ht (c + 1) (by omega)
  have h1 := mkN_1 hm (c + 1)
  have h6 := hw.2.2.2.2.2.2 (by rw [h1]; exact nI_ne0 (by omega) (by omega))
  rw [h1, nI_clamp (by omega)] at h6
  have h5 : mkN σ (c + 1) 5 = mkm (mkN σ c) := mks_5
  rw [h5] at h6
  exact ⟨by rw [Nat.sub_zero]; exact h6.2.symm, h6.1⟩
theorem op_make {ct : Nat} {μ : Mem} {a : Int32} (h : Inv (ct + 1) μ) : x_X5_make a μ (fun r μ1 => x_X6_make a μ1 (fun r' μ2 => r = r' ∧ Inv ct μ2)) := by
  obtain ⟨S, hl, sl, hx⟩ := id h
  obtain ⟨a1, a2, a3, a4, a5, a6, a7, a8⟩ := id hx
  obtain ⟨m, hm, hm2⟩ := a2.made (by omega)
  unfold x_X5_make
  apply q5_out
  · intro l1 l2
    apply if0
    obtain ⟨c, hc, rfl⟩ := rg_nI (n := 999) (show rg a 0 999 from ⟨Int.le_trans (by decide) (rg_le (a := 1) (b := 999) rfl rfl l1 l2).1, (rg_le (a := 1) (b := 999) rfl rfl l1 l2).2⟩)
    have hc1 : 1 ≤ c := by
      rcases Nat.eq_zero_or_pos c with z | z
      · subst z; exact absurd l1 (by decide)
      · exact z
    unfold x_X3_hasNoRoomFor
    rw [a1.2.1, hm, n_999999, pk_sub (by omega)]
    refine ⟨fun hle => ?_, fun hgt => ?_⟩
    · have hb : m + c ≤ 999999 := by
        have := (nI_leI (a := c) (b := 999999 - m) (by omega) (by omega)).mp hle
        omega
      apply if0
      refine q0_keep a4 a3 a1 a2 (fun μ4 hH hs hF => ?_)
      refine q3_makeSome hs a2 hm hb (fun μ5 hs5 hfr => ?_)
      have hl := lst_last a2 hm (c := c) (by omega) hc1
      refine q3_ago (m := m + c) (g := 0) hs5 (mkN_1 hm c) (by omega) (by omega) ?_
      rw [hl.1]
      unfold x_X6_make
      apply q6_hold
      intro r hr
      have e169 : um μ5 170 r 169 = μ 169 := by rw [um_n (by omega), hfr _ (by omega), hF _ (by omega)]
      refine q6_makesAll (n := 999999) (m := m) (by rw [e169]; exact a2) (by rw [e169]; exact hm) hc1 hc hb ?_
      rw [e169]
      exact rec_fin hx hs5 ((mkN_wf (a2.tight hm (by omega)) c (by omega)).mono (by omega)) (hH.fr (fun q q1 q2 => hfr q (by omega))) ((hF.mono (by omega) (by omega)).trans (hfr.mono (by omega) (by omega))) hr (rg_nn hl.2 (by omega))
    · have hb : 999999 < m + c := by
        rcases Nat.lt_or_ge 999999 (m + c) with z | z
        · exact z
        · exact absurd (nI_le (a := c) (b := 999999 - m) (by omega) (by omega)) hgt
      apply if1
      unfold x_X6_make
      apply q6_hold
      intro r hr
      exact q6_makesAllNo (m := m) (by rw [um_n (by omega)]; exact hm) (by omega) hc1 hc hb (neg_fin h (by decide))
  · intro l
    apply if1
    unfold x_X6_make
    apply q6_hold
    intro r hr
    unfold x_X6_makesAll
    apply i6_out l
    exact if0 (neg_fin h (by decide))
