/-! make -/
def mkN (σ : Nat → Int32) : Nat → Nat → Int32
  | 0 => σ
  | k + 1 => mks (mkN σ k)
theorem mks_1 {σ : Nat → Int32} : mks σ 1 = σ 1 + 1 := (goT_lo (by omega) 4).trans mk1_1
theorem mks_5 {σ : Nat → Int32} : mks σ 5 = mkm σ := (goT_lo (by omega) 4).trans mk1_5
theorem mkN_1 {σ : Nat → Int32} {m : Nat} (hm : σ 1 = nI m) : ∀ k, mkN σ k 1 = nI (m + k)
  | 0 => hm
  | k + 1 => by
    unfold mkN
    rw [mks_1, mkN_1 hm k, nI_1]
    rfl
theorem Wf.tight {n : Int} {m : Nat} {σ : Nat → Int32} (h : Wf n σ) (hm : σ 1 = nI m) (hb : m < 2 ^ 31) : Wf m σ := ⟨h.1, ⟨h.2.1.1, by rw [hm, nI_toInt hb]; omega⟩, h.2.2⟩
theorem Wf.made {n : Int} {σ : Nat → Int32} (h : Wf n σ) (hn : n < 1073741824) : ∃ m : Nat, σ 1 = nI m ∧ (m : Int) ≤ n := by
  refine ⟨(σ 1).toNatClampNeg, (nI_tn h.2.1.1).symm, ?_⟩
  have h1 := h.2.1.1
  have h2 := h.2.1.2
  show ((σ 1).toInt.toNat : Int) ≤ n
  omega
theorem mkN_wf {n : Int} {σ : Nat → Int32} (hf : Wf n σ) : ∀ k : Nat, n + k < 1073741824 → Wf (n + k) (mkN σ k)
  | 0, _ => hf.mono (by omega)
  | k + 1, hk => by
    have := mks_wf (mkN_wf hf k (by omega)) (by omega)
    exact this.mono (by omega)
theorem q3_makeSome {o c m : Nat} {n : Int} {μ : Mem} {σ : Nat → Int32} {K : Int32 → Mem → Prop} (hs : Snd μ o σ) (hf : Wf n σ) (hm : σ 1 = nI m) (hb : m + c ≤ 999999) (hK : ∀ μ', Snd μ' o (mkN σ c) → Fr o (o + 16) μ μ' → K 1 μ') : x_X3_makeSome o (nI c) μ K := by
  have ht := hf.tight hm (by omega)
  have loop : ∀ (k i : Nat) (μ1 : Mem), i + k = c → Snd μ1 o (mkN σ i) → Fr o (o + 16) μ μ1 → x_X3_makeSome_L12 K (k + 1) o (nI c) (nI i) μ1 := by
    intro k
    induction k with
    | zero =>
      intro i μ1 hi h1 h2
      obtain rfl : i = c := by omega
      show xb_X3_makeSome_L12 _ _ _ _ _ _
      unfold xb_X3_makeSome_L12
      exact ⟨fun _ => hK μ1 h1 h2, fun h => absurd (Int32.le_refl _) h⟩
    | succ k ih =>
      intro i μ1 hi h1 h2
      show xb_X3_makeSome_L12 _ _ _ _ _ _
      unfold xb_X3_makeSome_L12
      refine ⟨fun h => absurd h (nI_ge (a := i) (b := c) (by omega) (by omega)), fun _ => ?_⟩
      refine q3_makeOne h1 (mkN_wf ht i (by omega)) (by omega) (fun μ2 h3 h4 => ?_)
      rintro _ rfl
      rw [nI_1]
      exact ih (i + 1) μ2 (by omega) h3 (h2.trans h4)
  unfold x_X3_makeSome x_X3_hasNoRoomFor
  rw [hs.2.1, hm, n_999999, pk_sub (by omega)]
  refine ⟨fun _ => ?_, fun h => absurd (nI_le (a := c) (b := 999999 - m) (by omega) (by omega)) h⟩
  exact if0 ⟨c + 1, loop c 0 μ (by omega) hs Fr.rfl⟩
theorem q3_makeSomeNo {o c m : Nat} {μ : Mem} {σ : Nat → Int32} {K : Int32 → Mem → Prop} (hs : Snd μ o σ) (hm : σ 1 = nI m) (hm2 : m ≤ 999999) (hc : c < 2 ^ 30) (hb : 999999 < m + c) (hK : K 0 μ) : x_X3_makeSome o (nI c) μ K := by
  unfold x_X3_makeSome x_X3_hasNoRoomFor
  rw [hs.2.1, hm, n_999999, pk_sub (by omega)]
  refine ⟨fun h => absurd h (nI_ge (a := 999999 - m) (b := c) (by omega) (by omega)), fun _ => ?_⟩
  exact if1 hK
def lstm (σ : Nat → Int32) : Nat → Int32
  | 0 => 0
  | i + 1 => mkm (mkN σ i)
theorem lst_last {n : Int} {σ : Nat → Int32} {m c : Nat} (hf : Wf n σ) (hm : σ 1 = nI m) (hb : m + c < 1073741824) (hc : 1 ≤ c) : mkN σ c (134 + (m + c - 1 - 0) % 32) = lstm σ c ∧ rg (lstm σ c) 0 960 := by
  obtain ⟨c, rfl⟩ : ∃ k, c = k + 1 := ⟨c - 1, by omega⟩
  have ht := hf.tight hm (by omega)
  have hw := mkN_wf ht (c + 1) (by omega)
  have h1 := mkN_1 hm (c + 1)
  have h6 := hw.2.2.2.2.2.2 (by rw [h1]; exact nI_ne0 (by omega) (by omega))
  rw [h1, nI_clamp (by omega)] at h6
  have h5 : mkN σ (c + 1) 5 = mkm (mkN σ c) := mks_5
  rw [h5] at h6
  exact ⟨by rw [Nat.sub_zero]; exact h6.2.symm, h6.1⟩
