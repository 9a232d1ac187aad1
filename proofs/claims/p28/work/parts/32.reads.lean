/-! reading: rounds -/
theorem nI_and (a b : Nat) : nI a &&& nI b = nI (a &&& b) := by
  apply Int32.toBitVec_inj.mp
  show BitVec.ofNat 32 a &&& BitVec.ofNat 32 b = BitVec.ofNat 32 (a &&& b)
  apply BitVec.eq_of_getLsbD_eq
  intro i hi
  simp [BitVec.getLsbD_ofNat, hi]
theorem nI_neg {n : Nat} (h0 : 0 < n) (h : n < 2 ^ 32) : -(nI n) = nI (2 ^ 32 - n) := by
  apply Int32.toBitVec_inj.mp
  show -(BitVec.ofNat 32 n) = BitVec.ofNat 32 (2 ^ 32 - n)
  apply BitVec.eq_of_toNat_eq
  rw [BitVec.toNat_neg, BitVec.toNat_ofNat, BitVec.toNat_ofNat, Nat.mod_eq_of_lt h]
theorem odd_part : ∀ n : Nat, 0 < n → ∃ k m, n = 2 ^ k * (2 * m + 1) := by
  intro n
  induction n using Nat.strongRecOn with
  | _ n ih =>
    intro h
    rcases Nat.mod_two_eq_zero_or_one n with e | e
    · obtain ⟨k, m, hk⟩ := ih (n / 2) (by omega) (by omega)
      refine ⟨k + 1, m, ?_⟩
      rw [Nat.pow_succ, Nat.mul_assoc, Nat.mul_comm 2, ← Nat.mul_assoc, ← hk]
      omega
    · refine ⟨0, n / 2, ?_⟩
      rw [Nat.pow_zero, Nat.one_mul]
      omega
theorem low_bit {k m : Nat} (hk : k < 32) (h : 2 ^ k * (2 * m + 1) < 2 ^ 32) : (2 ^ k * (2 * m + 1)) &&& (2 ^ 32 - 2 ^ k * (2 * m + 1)) = 2 ^ k := by
  have hp : 0 < 2 ^ k := Nat.two_pow_pos k
  have hn : 0 < 2 ^ k * (2 * m + 1) := Nat.mul_pos hp (by omega)
  have e1 : 2 ^ k * (2 * m + 1) - 1 = 2 ^ k * (2 * m) + (2 ^ k - 1) := by
    rw [Nat.mul_add, Nat.mul_one]
    omega
  have e2 : 2 ^ 32 - 2 ^ k * (2 * m + 1) = 2 ^ 32 - ((2 ^ k * (2 * m) + (2 ^ k - 1)) + 1) := by omega
  apply Nat.eq_of_testBit_eq
  intro j
  have t1 : (2 ^ k * (2 * m + 1)).testBit j = if j < k then (0 : Nat).testBit j else (2 * m + 1).testBit (j - k) := by
    have := Nat.testBit_two_pow_mul_add (2 * m + 1) (b := 0) (i := k) hp j
    rw [Nat.add_zero] at this
    exact this
  have t2 : (2 ^ k * (2 * m) + (2 ^ k - 1)).testBit j = if j < k then (2 ^ k - 1).testBit j else (2 * m).testBit (j - k) := Nat.testBit_two_pow_mul_add (2 * m) (b := 2 ^ k - 1) (i := k) (by omega) j
  have hlt : 2 ^ k * (2 * m) + (2 ^ k - 1) < 2 ^ 32 := by omega
  rw [Nat.testBit_and, e2, Nat.testBit_two_pow_sub_succ hlt, t1, t2, Nat.testBit_two_pow]
  by_cases hj : j < k
  · rw [if_pos hj, if_pos hj]
    have : ¬ k = j := by omega
    simp [this]
  · rw [if_neg hj, if_neg hj]
    by_cases hjk : j = k
    · subst hjk
      simp [hk]
    · obtain ⟨i, hi⟩ : ∃ i, j - k = i + 1 := ⟨j - k - 1, by omega⟩
      have hne : ¬ k = j := fun z => hjk z.symm
      rw [hi, Nat.testBit_succ, Nat.testBit_succ, show (2 * m + 1) / 2 = m by omega, show 2 * m / 2 = m by omega]
      simp [hne]
      exact fun a _ => a
def arN (v : Nat) : Nat := if v = 0 then 1 else 65536 / (v &&& (2 ^ 32 - v))
theorem arN_of {k m : Nat} (h : 2 ^ k * (2 * m + 1) < 65536) : arN (2 ^ k * (2 * m + 1)) = 2 ^ (16 - k) ∧ k < 16 := by
  have hk : k < 16 := by
    rcases Nat.lt_or_ge k 16 with z | z
    · exact z
    · exfalso
      have h1 : 2 ^ 16 ≤ 2 ^ k := Nat.pow_le_pow_right (by omega) z
      have h2 : 2 ^ k * 1 ≤ 2 ^ k * (2 * m + 1) := Nat.mul_le_mul_left _ (by omega)
      omega
  have hn : 0 < 2 ^ k * (2 * m + 1) := Nat.mul_pos (Nat.two_pow_pos k) (by omega)
  unfold arN
  rw [if_neg (by omega), low_bit (by omega) (by omega)]
  refine ⟨?_, hk⟩
  rw [show 65536 = 2 ^ (16 - k) * 2 ^ k by rw [← Nat.pow_add]; rw [show 16 - k + k = 16 by omega], Nat.mul_div_cancel _ (Nat.two_pow_pos k)]
theorem arN_rg {v : Nat} (hv : v < 65536) : 1 ≤ arN v ∧ arN v ≤ 65536 := by
  rcases Nat.eq_zero_or_pos v with z | z
  · subst z; exact ⟨by decide, by decide⟩
  · obtain ⟨k, m, rfl⟩ := odd_part v z
    rw [(arN_of hv).1]
    exact ⟨Nat.two_pow_pos _, by have := Nat.pow_le_pow_right (n := 2) (by omega) (show 16 - k ≤ 16 by omega); omega⟩
theorem q4_around {c v : Nat} {μ : Mem} {K : Int32 → Mem → Prop} (h1 : μ c 1 = nI v) (hv : v < 65536) (hK : K (nI (arN v)) μ) : x_X4_samplesOfARound c μ K := by
  unfold x_X4_samplesOfARound
  rw [h1]
  rcases Nat.eq_zero_or_pos v with z | z
  · subst z
    exact ⟨fun _ => hK, fun h => absurd rfl h⟩
  · obtain ⟨k, m, rfl⟩ := odd_part v z
    obtain ⟨e, hk⟩ := arN_of hv
    refine ⟨fun h => absurd h (nI_ne0 z (by omega)), fun _ => ?_⟩
    have hp : 2 ^ k < 2 ^ 16 := Nat.pow_lt_pow_right (by omega) hk
    rw [nI_neg z (by omega), nI_and, low_bit (by omega) (by omega)]
    rintro _ rfl
    refine ⟨nI_ne0 (Nat.two_pow_pos k) (by omega), ?_⟩
    rw [n_65536, pk_div (by omega) (Nat.two_pow_pos k) (by omega), show 65536 = 2 ^ (16 - k) * 2 ^ k by rw [← Nat.pow_add]; rw [show 16 - k + k = 16 by omega], Nat.mul_div_cancel _ (Nat.two_pow_pos k), ← e]
    exact hK
/-- the round of all -/
def arT (σ : Nat → Int32) : Nat → Int32
  | 0 => 1
  | i + 1 => if wl σ i 4 = 1 then (if arT σ i < nI (arN (wl σ i 1).toNatClampNeg) then nI (arN (wl σ i 1).toNatClampNeg) else arT σ i) else arT σ i
theorem arT_1 {n : Int} {σ : Nat → Int32} (hf : Wf n σ) : ∀ i, i ≤ 4 → (1 : Int32) ≤ arT σ i
  | 0, _ => Int32.le_refl _
  | i + 1, hi => by
    have ih := arT_1 hf i (by omega)
    obtain ⟨v, hv, ev⟩ := rg_nI (n := 65535) (hf.2.2.2.2.1 i (by omega)).2.1
    unfold arT
    by_cases h : wl σ i 4 = 1
    · rw [if_pos h]
      by_cases h2 : arT σ i < nI (arN (wl σ i 1).toNatClampNeg)
      · rw [if_pos h2, ev, nI_clamp (by omega)]
        have := arN_rg (v := v) (by omega)
        exact nI_le (a := 1) this.1 (by omega)
      · rw [if_neg h2]; exact ih
    · rw [if_neg h]; exact ih
theorem q3_together {o : Nat} {n : Int} {μ : Mem} {σ : Nat → Int32} {K : Int32 → Mem → Prop} (hs : Snd μ o σ) (hf : Wf n σ) (hK : K (arT σ 4) μ) : x_X3_samplesOfARoundOfAll o μ K := by
  have key : ∀ (k i : Nat), i + k = 4 → x_X3_samplesOfARoundOfAll_L4 K (k + 1) o (arT σ i) (nI i) μ := by
    intro k
    induction k with
    | zero =>
      intro i hi
      obtain rfl : i = 4 := by omega
      show xb_X3_samplesOfARoundOfAll_L4 _ _ _ _ _ _
      unfold xb_X3_samplesOfARoundOfAll_L4
      exact ⟨fun _ => hK, fun h => absurd (nI_le (a := 4) (b := 4) (by omega) (by omega)) h⟩
    | succ k ih =>
      intro i hi
      have hi4 : i < 4 := by omega
      have hz := (hf.2.2.2.2.1 i hi4).2.2.2.2.1
      have hcw := hs.2.2.2.2.2.2.2 i hi4
      have hc := hcw.2.2.2.2.1
      have := ih (i + 1) (by omega)
      unfold arT at this
      rw [nI_succ] at this
      show xb_X3_samplesOfARoundOfAll_L4 _ _ _ _ _ _
      unfold xb_X3_samplesOfARoundOfAll_L4
      refine ⟨fun h => absurd h (nI_ge (a := i) (b := 4) (by omega) (by omega)), fun _ => ?_⟩
      simp (disch := omega) only [nI_clamp, vp_nI, true_and, hc]
      refine ⟨fun h => ?_, fun h => ?_⟩
      · unfold x_X3_samplesOfARoundOfAll_L35
        rintro _ rfl
        rw [if_neg (by rw [h]; decide)] at this
        exact this
      · rw [if_pos (hz.resolve_left h)] at this
        obtain ⟨v, hv, ev⟩ := rg_nI (n := 65535) (hf.2.2.2.2.1 i (by omega)).2.1
        rw [ev, nI_clamp (by omega)] at this
        refine q4_around (hcw.2.1.trans ev) (by omega) ?_
        rintro _ rfl
        unfold x_X3_samplesOfARoundOfAll_L35
        rintro _ rfl
        exact this
  unfold x_X3_samplesOfARoundOfAll
  exact ⟨5, key 4 0 (by omega)⟩
