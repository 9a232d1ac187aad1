/-! put, wipe -/
def uL (n : Nat) : Int64 := (UInt64.ofNat n).toInt64
theorem uL_of (b : Int64) : b = uL b.toUInt64.toNat := by
  unfold uL
  rw [UInt64.ofNat_toNat]
  rfl
theorem uL_and {n : Nat} (h : n < 2 ^ 64) : uL n &&& 255 = uL (n % 256) := by
  have e : (255 : Int64) = uL 255 := by decide
  rw [e]
  unfold uL
  have : (UInt64.ofNat n).toInt64 &&& (UInt64.ofNat 255).toInt64 = (UInt64.ofNat n &&& UInt64.ofNat 255).toInt64 := rfl
  rw [this]
  congr 1
  apply UInt64.toNat_inj.mp
  rw [UInt64.toNat_and, UInt64.toNat_ofNat', UInt64.toNat_ofNat', UInt64.toNat_ofNat', Nat.mod_eq_of_lt h]
  rw [Nat.mod_eq_of_lt (by omega : 255 < 2 ^ 64), Nat.mod_eq_of_lt (by omega : n % 256 < 2 ^ 64)]
  exact Nat.and_two_pow_sub_one_eq_mod n 8
theorem uL_shr {n k : Nat} (h : n < 2 ^ 64) (hk : k < 64) : ((uL n).toUInt64 >>> UInt64.ofNat k).toInt64 = uL (n / 2 ^ k) := by
  unfold uL
  have : (UInt64.ofNat n).toInt64.toUInt64 = UInt64.ofNat n := rfl
  rw [this]
  congr 1
  apply UInt64.toNat_inj.mp
  rw [UInt64.toNat_shiftRight, UInt64.toNat_ofNat', UInt64.toNat_ofNat', UInt64.toNat_ofNat', Nat.mod_eq_of_lt h, Nat.mod_eq_of_lt (by omega : k < 2 ^ 64), Nat.mod_eq_of_lt hk, Nat.shiftRight_eq_div_pow]
  rw [Nat.mod_eq_of_lt]
  exact Nat.lt_of_le_of_lt (Nat.div_le_self _ _) h
theorem uL_0 {n : Nat} (h : n < 2 ^ 64) : lg_cmp (uL n) 0 = 0 ↔ n = 0 := by
  have e : uL n = 0 ↔ n = 0 := by
    constructor
    · intro z
      have : (uL n).toUInt64.toNat = (0 : Int64).toUInt64.toNat := by rw [z]
      have e2 : (uL n).toUInt64.toNat = n := by
        show (UInt64.ofNat n).toNat = n
        rw [UInt64.toNat_ofNat', Nat.mod_eq_of_lt h]
      rw [e2] at this
      exact this
    · rintro rfl; rfl
  rw [← e]
  unfold lg_cmp
  constructor
  · intro z
    by_cases h1 : uL n > 0
    · rw [if_pos h1] at z; exact absurd z (by decide)
    · rw [if_neg h1] at z
      by_cases h2 : uL n = 0
      · exact h2
      · rw [if_neg h2] at z; exact absurd z (by decide)
  · intro z
    rw [z]
    rfl
set_option maxRecDepth 20000 in
theorem uL_c0 : ∀ m : Fin 256, (lg_cmp (uL m.1) 0 = 0 ↔ m.1 = 0) ∧ (lg_cmp (uL m.1) 33 < 0 ↔ m.1 < 33) ∧ (lg_cmp (uL m.1) 126 ≤ 0 ↔ m.1 ≤ 126) ∧ (uL m.1).toInt32 = nI m.1 ∧ ((nI m.1).toUInt32 % 65536).toInt32 = nI m.1 ∧ vp_nar .char (nI m.1) = nI m.1 := by decide
theorem sh_8 : ((8 : Int32)).toInt64.toUInt64 &&& Int64.toUInt64 63 = UInt64.ofNat 8 := by decide
theorem sh_k : ∀ k : Fin 8, ((8 : Int32) * nI k.1).toInt64.toUInt64 &&& Int64.toUInt64 63 = UInt64.ofNat (8 * k.1) := by decide
def szT : Nat → Nat → Nat → Nat
  | 0, N, i => if N = 0 then i else 0
  | k + 1, N, i => if N = 0 then i else if 33 ≤ N % 256 ∧ N % 256 ≤ 126 then szT k (N / 256) (i + 1) else 0
theorem szT_le : ∀ k N i, szT k N i ≤ i + k
  | 0, N, i => by
    unfold szT
    by_cases h : N = 0
    · rw [if_pos h]; omega
    · rw [if_neg h]; omega
  | k + 1, N, i => by
    have := szT_le k (N / 256) (i + 1)
    unfold szT
    by_cases h : N = 0
    · rw [if_pos h]; omega
    · rw [if_neg h]
      by_cases h2 : 33 ≤ N % 256 ∧ N % 256 ≤ 126
      · rw [if_pos h2]; omega
      · rw [if_neg h2]; omega
theorem szT_ch : ∀ k N i j, j + i < szT k N i → 33 ≤ N / 256 ^ j % 256 ∧ N / 256 ^ j % 256 ≤ 126
  | 0, N, i, j, h => by
    unfold szT at h
    by_cases h1 : N = 0
    · rw [if_pos h1] at h; omega
    · rw [if_neg h1] at h; omega
  | k + 1, N, i, j, h => by
    unfold szT at h
    by_cases h1 : N = 0
    · rw [if_pos h1] at h; omega
    · rw [if_neg h1] at h
      by_cases h2 : 33 ≤ N % 256 ∧ N % 256 ≤ 126
      · rw [if_pos h2] at h
        match j with
        | 0 => rw [Nat.pow_zero, Nat.div_one]; exact h2
        | j + 1 =>
          have := szT_ch k (N / 256) (i + 1) j (by omega)
          rw [Nat.div_div_eq_div_mul, ← Nat.pow_succ'] at this
          exact this
      · rw [if_neg h2] at h; omega
theorem s5_sz {K : Int32 → Mem → Prop} {n : Nat} {b : Int64} {a : Int32} {μ : Mem} (h : xb_X5_sizeOfText_L5 K (x_X5_sizeOfText_L5 K n) b a μ) : x_X5_sizeOfText_L5 K (n + 1) b a μ := h
theorem s6_put {K : Int32 → Mem → Prop} {n : Nat} {b b' : Int64} {a : Int32} {μ : Mem} (h : xb_X6_put_L5 K (x_X6_put_L5 K n) b a b' μ) : x_X6_put_L5 K (n + 1) b a b' μ := h
theorem q5_l51 {K : Int32 → Mem → Prop} {μ : Mem} {N i : Nat} (hN : N < 2 ^ 64) (hK : K (nI (if N = 0 then i else 0)) μ) : x_X5_sizeOfText_L51 K (uL N) (nI i) μ := by
  unfold x_X5_sizeOfText_L51
  refine ⟨fun z => ?_, fun z => ?_⟩
  · rw [if_pos ((uL_0 hN).mp z)] at hK; exact hK
  · rw [if_neg (fun w => z ((uL_0 hN).mpr w))] at hK; exact hK
theorem q5_size {K : Int32 → Mem → Prop} {μ : Mem} : ∀ (k i N : Nat), i + k = 8 → N < 256 ^ k → K (nI (szT k N i)) μ → x_X5_sizeOfText_L5 K (k + 1) (uL N) (nI i) μ := by
  intro k
  induction k with
  | zero =>
    intro i N hi hN hK
    refine s5_sz ?_
    unfold xb_X5_sizeOfText_L5
    refine ⟨fun _ => q5_l51 (by omega) hK, fun z => absurd (nI_le (a := 8) (b := i) (by omega) (by omega)) z⟩
  | succ k ih =>
    intro i N hi hN hK
    have h64 : N < 2 ^ 64 := Nat.lt_of_lt_of_le hN (Nat.le_trans (Nat.pow_le_pow_right (by omega) (by omega : k + 1 ≤ 8)) (by decide))
    obtain ⟨c1, c2, c3, c4, c5, c6⟩ := uL_c0 ⟨N % 256, Nat.mod_lt _ (by omega)⟩
    dsimp only at c1 c2 c3 c4 c5 c6
    refine s5_sz ?_
    unfold xb_X5_sizeOfText_L5
    rw [uL_and h64]
    unfold szT at hK
    refine ⟨fun z => absurd z (nI_ge (a := i) (b := 8) (by omega) (by omega)), fun _ => ⟨fun z => q5_l51 h64 ?_, fun z => ?_⟩⟩
    · have := c1.mp z
      by_cases h0 : N = 0
      · rw [if_pos h0] at hK ⊢; exact hK
      · rw [if_neg h0, if_neg (by omega)] at hK
        rw [if_neg h0]; exact hK
    · have hne : ¬ N % 256 = 0 := fun w => z (c1.mpr w)
      rw [if_neg (by omega : ¬ N = 0)] at hK
      rw [c4]
      apply q5_out
      · intro l1 l2
        have m1 : 33 ≤ N % 256 := by
          rcases Nat.lt_or_ge (N % 256) 33 with w | w
          · exact absurd l1 (nI_ge (b := 33) w (by omega))
          · exact w
        have m2 : N % 256 ≤ 126 := by
          rcases Nat.lt_or_ge 126 (N % 256) with w | w
          · exact absurd l2 (nI_ge (a := 126) w (by omega))
          · exact w
        rw [if_pos ⟨m1, m2⟩] at hK
        refine ⟨fun _ => ?_, fun z => absurd rfl z⟩
        rintro _ rfl _ rfl
        rw [sh_8, uL_shr h64 (by omega), show nI i + 1 = nI (i + 1) from (nI_succ i).symm]
        exact ih (i + 1) (N / 256) (by omega) (by rw [Nat.pow_succ] at hN; exact Nat.div_lt_of_lt_mul (by rw [Nat.mul_comm]; exact hN)) hK
      · intro l
        refine ⟨fun z => absurd z (by decide), fun _ => ?_⟩
        by_cases h2 : 33 ≤ N % 256 ∧ N % 256 ≤ 126
        · exact absurd ⟨nI_le (a := 33) h2.1 (by omega), nI_le (b := 126) h2.2 (by omega)⟩ l
        · rw [if_neg h2] at hK; exact hK
theorem q6_putL {K : Int32 → Mem → Prop} {μ : Mem} {b : Int64} : ∀ (k i N : Nat), i + k = 8 → N < 256 ^ k → (szT k N i = 0 → K (-2) μ) → (¬ szT k N i = 0 → x_X6_put_L60 K b (nI (szT k N i)) μ) → x_X6_put_L5 K (k + 1) b (nI i) (uL N) μ := by
  intro k
  induction k with
  | zero =>
    intro i N hi hN h0 h1
    obtain rfl : i = 8 := by omega
    obtain rfl : N = 0 := by omega
    refine s6_put ?_
    unfold xb_X6_put_L5
    exact ⟨fun _ => h1 (by decide), fun z => absurd (nI_le (a := 8) (b := 8) (by omega) (by omega)) z⟩
  | succ k ih =>
    intro i N hi hN h0 h1
    have h64 : N < 2 ^ 64 := Nat.lt_of_lt_of_le hN (Nat.le_trans (Nat.pow_le_pow_right (by omega) (by omega : k + 1 ≤ 8)) (by decide))
    obtain ⟨c1, c2, c3, c4, c5, c6⟩ := uL_c0 ⟨N % 256, Nat.mod_lt _ (by omega)⟩
    dsimp only at c1 c2 c3 c4 c5 c6
    refine s6_put ?_
    unfold xb_X6_put_L5
    rw [uL_and h64]
    unfold szT at h0 h1
    refine ⟨fun z => absurd z (nI_ge (a := i) (b := 8) (by omega) (by omega)), fun _ => ⟨fun z => ?_, fun z => ?_⟩⟩
    · have hz := (uL_0 h64).mp z
      rw [if_pos hz] at h0 h1
      by_cases hi0 : i = 0
      · subst hi0
        unfold x_X6_put_L60
        exact ⟨fun _ => h0 rfl, fun z => absurd rfl z⟩
      · exact h1 hi0
    · have hne : ¬ N = 0 := fun w => z ((uL_0 h64).mpr w)
      rw [if_neg hne] at h0 h1
      rintro _ rfl
      refine ⟨fun z => ?_, fun z => ⟨fun z2 => ?_, fun z2 => ?_⟩⟩
      · have := c2.mp z
        rw [if_neg (by omega)] at h0
        exact h0 rfl
      · have m1 : ¬ N % 256 < 33 := fun w => z (c2.mpr w)
        have m2 := c3.mp z2
        rw [if_pos ⟨by omega, m2⟩] at h0 h1
        rintro _ rfl _ rfl
        rw [sh_8, uL_shr h64 (by omega), show nI i + 1 = nI (i + 1) from (nI_succ i).symm]
        exact ih (i + 1) (N / 256) (by omega) (by rw [Nat.pow_succ] at hN; exact Nat.div_lt_of_lt_mul (by rw [Nat.mul_comm]; exact hN)) h0 h1
      · have : ¬ N % 256 ≤ 126 := fun w => z2 (c3.mpr w)
        rw [if_neg (by omega)] at h0
        exact h0 rfl
theorem ch_k {N k : Nat} (hN : N < 2 ^ 64) (hk : k < 8) : ((((((((uL N)).toUInt64 >>> ((((8 : Int32) * nI k)).toInt64.toUInt64 &&& Int64.toUInt64 63)).toInt64) &&& 255)).toInt32).toUInt32 % 65536).toInt32 = nI (N / 256 ^ k % 256) := by
  rw [sh_k ⟨k, hk⟩]
  dsimp only
  rw [uL_shr hN (by omega), uL_and (Nat.lt_of_le_of_lt (Nat.div_le_self _ _) hN), Nat.pow_mul]
  obtain ⟨c1, c2, c3, c4, c5, c6⟩ := uL_c0 ⟨N / (2 ^ 8) ^ k % 256, Nat.mod_lt _ (by omega)⟩
  rw [c4]
  exact c5
theorem s5_pt {K : Int32 → Mem → Prop} {n : Nat} {b : Int64} {a : Int32} {μ : Mem} (h : xb_X5_put_L34 K (x_X5_put_L34 K n) b a μ) : x_X5_put_L34 K (n + 1) b a μ := h
theorem s6_pt {K : Int32 → Mem → Prop} {n : Nat} {b : Int64} {a : Int32} {μ : Mem} (h : xb_X6_put_L86 K (x_X6_put_L86 K n) b a μ) : x_X6_put_L86 K (n + 1) b a μ := h
theorem n_m1 : (0 : Int32) - 1 = -1 := by decide
theorem q5_app {K : Int32 → Mem → Prop} {N : Nat} (hN : N < 2 ^ 64) {n : Nat} {μ : Mem} (e1 : μ 166 1 = nI n) : ∀ (k : Nat) (m : Nat) (t : Nat → Int32), k ≤ 8 → m + k ≤ 60 → (∀ j, j < k → 33 ≤ N / 256 ^ j % 256 ∧ N / 256 ^ j % 256 ≤ 126) → (∀ t' : Nat → Int32, (∀ j, j < m → t' j = t j) → (∀ j, j < k → t' (m + j) = nI (N / 256 ^ (k - 1 - j) % 256)) → K (nI (m + k)) (um (um μ 166 (upd (μ 166) 1 (nI (m + k)))) 167 t')) → x_X5_put_L34 K (k + 1) (uL N) (nI k - 1) (um (um μ 166 (upd (μ 166) 1 (nI m))) 167 t) := by
  intro k
  induction k with
  | zero =>
    intro m t h8 h60 hc hK
    refine s5_pt ?_
    unfold xb_X5_put_L34
    refine ⟨fun _ => ?_, fun z => absurd (by decide) z⟩
    rw [um_n (by omega : 166 ≠ 167), um_s, upd_s]
    exact hK t (fun _ _ => rfl) (fun j hj => absurd hj (by omega))
  | succ k ih =>
    intro m t h8 h60 hc hK
    refine s5_pt ?_
    unfold xb_X5_put_L34
    rw [show nI (k + 1) - 1 = nI k from nI_pred k]
    refine ⟨fun z => absurd z (nI_nlt (a := k) (b := 0) (by omega) (by omega)), fun _ => ?_⟩
    rw [ch_k hN (by omega)]
    unfold x_X1_append
    rw [um_n (by omega : 166 ≠ 167), um_s, upd_s, nI_clamp (by omega)]
    refine ⟨fun z => absurd z (nI_nlt (a := m) (b := 0) (by omega) (by omega)), fun _ => ⟨fun z => absurd z (nI_ge (a := m) (b := 60) (by omega) (by omega)), fun _ => ⟨vp_in_nI (by omega) (by omega), ?_⟩⟩⟩
    rintro _ rfl _ rfl _ rfl
    obtain ⟨c1, c2, c3, c4, c5, c6⟩ := uL_c0 ⟨N / 256 ^ k % 256, Nat.mod_lt _ (by omega)⟩
    dsimp only at c6
    rw [c6, um_s, um_um, um_n (by omega : 166 ≠ 167), um_s, upd_s, nI_1, upd_upd, show nI k + (-1) = nI k - 1 from (Int32.sub_eq_add_neg _ _).symm]
    have e : um (um (um μ 166 (upd (μ 166) 1 (nI m))) 167 (upd t m (nI (N / 256 ^ k % 256)))) 166 (upd (μ 166) 1 (nI (m + 1))) = um (um μ 166 (upd (μ 166) 1 (nI (m + 1)))) 167 (upd t m (nI (N / 256 ^ k % 256))) := by
      funext q
      by_cases q1 : q = 166
      · subst q1; rw [um_s, um_n (by omega), um_s]
      · rw [um_n q1]
        by_cases q2 : q = 167
        · subst q2; rw [um_s, um_s]
        · rw [um_n q2, um_n q1, um_n q2, um_n q1]
    rw [e]
    refine ih (m + 1) _ (by omega) (by omega) (fun j hj => hc j (by omega)) (fun t' h1 h2 => ?_)
    rw [show m + 1 + k = m + (k + 1) by omega]
    refine hK t' (fun j hj => ?_) (fun j hj => ?_)
    · rw [h1 j (by omega), upd_n (by omega)]
    · rcases Nat.eq_zero_or_pos j with w | w
      · subst w
        rw [Nat.add_zero, h1 m (by omega), upd_s, show k + 1 - 1 - 0 = k by omega]
      · obtain ⟨i, rfl⟩ : ∃ i, j = i + 1 := ⟨j - 1, by omega⟩
        rw [show m + (i + 1) = m + 1 + i by omega, h2 i (by omega), show k + 1 - 1 - (i + 1) = k - 1 - i by omega]
theorem q6_app {K : Int32 → Mem → Prop} {N : Nat} (hN : N < 2 ^ 64) {μ : Mem} : ∀ (k : Nat) (m : Nat) (t : Nat → Int32), k ≤ 8 → m + k ≤ 60 → (∀ t' : Nat → Int32, (∀ j, j < m → t' j = t j) → (∀ j, j < k → t' (m + j) = nI (N / 256 ^ (k - 1 - j) % 256)) → K (nI (m + k)) (um (um μ 168 (upd (μ 168) 8 (nI (m + k)))) 176 t')) → x_X6_put_L86 K (k + 1) (uL N) (nI k - 1) (um (um μ 168 (upd (μ 168) 8 (nI m))) 176 t) := by
  intro k
  induction k with
  | zero =>
    intro m t h8 h60 hK
    refine s6_pt ?_
    unfold xb_X6_put_L86
    refine ⟨fun _ => ?_, fun z => absurd (by decide) z⟩
    rw [um_n (by omega : 168 ≠ 176), um_s, upd_s]
    exact hK t (fun _ _ => rfl) (fun j hj => absurd hj (by omega))
  | succ k ih =>
    intro m t h8 h60 hK
    refine s6_pt ?_
    unfold xb_X6_put_L86
    rw [show nI (k + 1) - 1 = nI k from nI_pred k]
    refine ⟨fun z => absurd z (nI_nlt (a := k) (b := 0) (by omega) (by omega)), fun _ => ?_⟩
    rw [ch_k hN (by omega), um_n (by omega : 168 ≠ 176), um_s, upd_s, nI_clamp (by omega)]
    refine ⟨vp_in_nI (by omega) (by omega), ?_⟩
    rintro _ rfl _ rfl _ rfl
    obtain ⟨c1, c2, c3, c4, c5, c6⟩ := uL_c0 ⟨N / 256 ^ k % 256, Nat.mod_lt _ (by omega)⟩
    dsimp only at c6
    rw [c6, um_s, um_um, um_n (by omega : 168 ≠ 176), um_s, upd_s, nI_1, upd_upd, show nI k + (-1) = nI k - 1 from (Int32.sub_eq_add_neg _ _).symm]
    have e : um (um (um μ 168 (upd (μ 168) 8 (nI m))) 176 (upd t m (nI (N / 256 ^ k % 256)))) 168 (upd (μ 168) 8 (nI (m + 1))) = um (um μ 168 (upd (μ 168) 8 (nI (m + 1)))) 176 (upd t m (nI (N / 256 ^ k % 256))) := by
      funext q
      by_cases q1 : q = 168
      · subst q1; rw [um_s, um_n (by omega), um_s]
      · rw [um_n q1]
        by_cases q2 : q = 176
        · subst q2; rw [um_s, um_s]
        · rw [um_n q2, um_n q1, um_n q2, um_n q1]
    rw [e]
    refine ih (m + 1) _ (by omega) (by omega) (fun t' h1 h2 => ?_)
    rw [show m + 1 + k = m + (k + 1) by omega]
    refine hK t' (fun j hj => ?_) (fun j hj => ?_)
    · rw [h1 j (by omega), upd_n (by omega)]
    · rcases Nat.eq_zero_or_pos j with w | w
      · subst w
        rw [Nat.add_zero, h1 m (by omega), upd_s, show k + 1 - 1 - 0 = k by omega]
      · obtain ⟨i, rfl⟩ : ∃ i, j = i + 1 := ⟨j - 1, by omega⟩
        rw [show m + (i + 1) = m + 1 + i by omega, h2 i (by omega), show k + 1 - 1 - (i + 1) = k - 1 - i by omega]
/-- only the pads are others -/
theorem inv_pad {ct : Nat} {μ M : Mem} (h : Inv ct μ) (hq : ∀ q, q ≠ 166 → q ≠ 167 → q ≠ 168 → q ≠ 175 → q ≠ 176 → q ≠ 170 → M q = μ q) (h9 : M 168 9 = μ 168 9) (hp : PD M) : Inv ct M := by
  obtain ⟨S, hl, sl, a1, a2, a3, a4, a5, a6, a7, a8⟩ := h
  have e169 : M 169 = μ 169 := hq _ (by omega) (by omega) (by omega) (by omega) (by omega) (by omega)
  refine ⟨S, hl, sl, ?_, ?_, a3, a4.fr (fun q q1 q2 => hq q (by omega) (by omega) (by omega) (by omega) (by omega) (by omega)), ?_, a6, a7.fr (fun q q1 q2 => hq q (by omega) (by omega) (by omega) (by omega) (by omega) (by omega)) (hq _ (by omega) (by omega) (by omega) (by omega) (by omega) (by omega)) (hq _ (by omega) (by omega) (by omega) (by omega) (by omega) (by omega)), hp⟩
  · rw [e169]
    exact a1.fr (fun q q1 q2 => hq q (by omega) (by omega) (by omega) (by omega) (by omega) (by omega))
  · rw [e169]; exact a2
  · rw [h9, hq 172 (by omega) (by omega) (by omega) (by omega) (by omega) (by omega)]
    exact a5
theorem um_id {μ : Mem} {o k : Nat} {x : Int32} (h : μ o k = x) : um μ o (upd (μ o) k x) = μ := by
  rw [← h]
  have : upd (μ o) k (μ o k) = μ o := by
    funext j
    by_cases hj : j = k
    · subst hj; rw [upd_s]
    · rw [upd_n hj]
  rw [this, um_self]
theorem op_wipe {ct : Nat} {μ : Mem} (h : Inv ct μ) : x_X5_wipe μ (fun r μ1 => x_X6_wipe μ1 (fun r' μ2 => r = r' ∧ Inv ct μ2)) := by
  obtain ⟨n, p1, p2, p3, p4⟩ : PD μ := by
    obtain ⟨S, hl, sl, a1, a2, a3, a4, a5, a6, a7, a8⟩ := h
    exact a8
  unfold x_X5_wipe
  rintro _ rfl _ rfl
  unfold x_X6_wipe
  rintro _ rfl _ rfl
  rw [um_n (by omega : 168 ≠ 166)]
  refine ⟨by rw [p2, p3], inv_pad h (fun q q1 q2 q3 q4 q5 q6 => by rw [um_n q3, um_n q1]) (by rw [um_s, upd_n (by omega)]) ⟨0, by omega, ?_, ?_, fun k hk => absurd hk (by omega)⟩⟩
  · rw [um_n (by omega), um_s, upd_s]; rfl
  · rw [um_s, upd_s]; rfl
theorem op_put {ct : Nat} {μ : Mem} {b : Int64} (h : Inv ct μ) : x_X5_put b μ (fun r μ1 => x_X6_put b μ1 (fun r' μ2 => r = r' ∧ Inv ct μ2)) := by
  obtain ⟨n, p1, p2, p3, p4⟩ : PD μ := by
    obtain ⟨S, hl, sl, a1, a2, a3, a4, a5, a6, a7, a8⟩ := h
    exact a8
  obtain ⟨N, hN, hNb⟩ : ∃ N, N < 2 ^ 64 ∧ b = uL N := ⟨b.toUInt64.toNat, UInt64.toNat_lt _, uL_of b⟩
  subst hNb
  obtain ⟨s, hs⟩ : ∃ s, s = szT 8 N 0 := ⟨_, rfl⟩
  have hs8 : s ≤ 8 := by have := szT_le 8 N 0; omega
  have hch : ∀ j, j < s → 33 ≤ N / 256 ^ j % 256 ∧ N / 256 ^ j % 256 ≤ 126 := fun j hj => szT_ch 8 N 0 j (by omega)
  have hN2 : N < 256 ^ 8 := Nat.lt_of_lt_of_le hN (by decide)
  unfold x_X5_put
  unfold x_X5_sizeOfText
  refine ⟨9, q5_size 8 0 N (by omega) hN2 ?_⟩
  rw [← hs]
  have model : ∀ (μ1 : Mem) (K : Int32 → Mem → Prop), (s = 0 → K (-2) μ1) → (¬ s = 0 → x_X6_put_L60 K (uL N) (nI s) μ1) → x_X6_put (uL N) μ1 K := by
    intro μ1 K h0 h1
    unfold x_X6_put
    exact ⟨9, q6_putL 8 0 N (by omega) hN2 (by rw [← hs]; exact h0) (by rw [← hs]; exact h1)⟩
  refine ⟨fun z => ?_, fun z => ?_⟩
  · have hs0 : s = 0 := (nI_eq (by omega) (by omega)).mp (show nI s = nI 0 from z)
    exact model μ _ (fun _ => ⟨rfl, h⟩) (fun w => absurd hs0 w)
  · have hs0 : ¬ s = 0 := fun w => z (by rw [w]; rfl)
    rw [p2, nI_add]
    refine ⟨fun w => ?_, fun w => ?_⟩
    · have hle : n + s ≤ 60 := by
        rcases Nat.lt_or_ge 60 (n + s) with u | u
        · exact absurd w (nI_ge u (by omega))
        · exact u
      rintro _ rfl
      refine ⟨s + 1, ?_⟩
      have start : ∀ K : Int32 → Mem → Prop, (∀ t' : Nat → Int32, (∀ j, j < n → t' j = μ 167 j) → (∀ j, j < s → t' (n + j) = nI (N / 256 ^ (s - 1 - j) % 256)) → K (nI (n + s)) (um (um μ 166 (upd (μ 166) 1 (nI (n + s)))) 167 t')) → x_X5_put_L34 K (s + 1) (uL N) (nI s - 1) μ := by
        intro K hK
        have := q5_app hN p2 s n (μ 167) hs8 hle hch hK
        rw [um_id p2, um_self] at this
        exact this
      refine start _ (fun t' t1 t2 => ?_)
      refine model _ _ (fun w => absurd w hs0) (fun _ => ?_)
      obtain ⟨ν, hν⟩ : ∃ ν, ν = um (um μ 166 (upd (μ 166) 1 (nI (n + s)))) 167 t' := ⟨_, rfl⟩
      rw [← hν]
      have e8 : ν 168 = μ 168 := by rw [hν, um_n (by omega), um_n (by omega)]
      have e6 : ν 176 = μ 176 := by rw [hν, um_n (by omega), um_n (by omega)]
      unfold x_X6_put_L60
      refine ⟨fun w => absurd w z, fun _ => ?_⟩
      rw [e8, p3, nI_add]
      refine ⟨fun _ => ?_, fun w => absurd (nI_le hle (by omega)) w⟩
      rintro _ rfl
      refine ⟨s + 1, ?_⟩
      have := q6_app (μ := ν) (K := fun r' μ2 => nI (n + s) = r' ∧ Inv ct μ2) hN s n (ν 176) hs8 hle (fun t'' u1 u2 => ?_)
      · rw [um_id (by rw [e8]; exact p3), um_self] at this
        exact this
      · refine ⟨rfl, inv_pad h (fun q q1 q2 q3 q4 q5 q6 => by rw [um_n q5, um_n q3, hν, um_n q2, um_n q1]) (by rw [um_n (by omega), um_s, upd_n (by omega), e8]) ⟨n + s, hle, ?_, ?_, fun k hk => ?_⟩⟩
        · rw [um_n (by omega), um_n (by omega), hν, um_n (by omega), um_s, upd_s]
        · rw [um_n (by omega), um_s, upd_s]
        · rw [um_n (by omega : 167 ≠ 176), um_n (by omega : 167 ≠ 168), um_s, hν, um_s]
          rcases Nat.lt_or_ge k n with v | v
          · rw [t1 k v, u1 k v, e6]
            exact p4 k v
          · obtain ⟨j, rfl⟩ : ∃ j, k = n + j := ⟨k - n, by omega⟩
            rw [t2 j (by omega), u2 j (by omega)]
            refine ⟨rfl, ?_⟩
            have := hch (s - 1 - j) (by omega)
            exact rg_le rfl rfl (nI_le (a := 33) this.1 (by omega)) (nI_le (b := 126) this.2 (by omega))
    · refine model μ _ (fun w => absurd w hs0) (fun _ => ?_)
      unfold x_X6_put_L60
      refine ⟨fun w => absurd w z, fun _ => ?_⟩
      rw [p3, nI_add]
      exact ⟨fun u => absurd u w, fun _ => ⟨rfl, h⟩⟩
