/-! numbers, and the small static methods -/
theorem ii_le {a b : Int32} : a ≤ b ↔ a.toInt ≤ b.toInt := Int32.le_iff_toInt_le
theorem ii_lt {a b : Int32} : a < b ↔ a.toInt < b.toInt := Int32.lt_iff_toInt_lt
theorem ii_eq {a b : Int32} : a = b ↔ a.toInt = b.toInt := Int32.toInt_inj.symm
theorem ii_rng (x : Int32) : -2147483648 ≤ x.toInt ∧ x.toInt < 2147483648 := by
  have h1 := Int32.le_toInt x
  have h2 := Int32.toInt_lt x
  simp at h1 h2
  omega
theorem ii_bmod {z : Int} (h1 : -2147483648 ≤ z) (h2 : z < 2147483648) : z.bmod (2 ^ 32) = z := by
  rw [Int.bmod_eq_of_le (by omega) (by omega)]
theorem ii_add {x y : Int32} (h1 : -2147483648 ≤ x.toInt + y.toInt) (h2 : x.toInt + y.toInt < 2147483648) : (x + y).toInt = x.toInt + y.toInt := by
  rw [Int32.toInt_add, ii_bmod h1 h2]
theorem ii_sub {x y : Int32} (h1 : -2147483648 ≤ x.toInt - y.toInt) (h2 : x.toInt - y.toInt < 2147483648) : (x - y).toInt = x.toInt - y.toInt := by
  rw [Int32.toInt_sub, ii_bmod h1 h2]
theorem ii_mul {x y : Int32} (h1 : -2147483648 ≤ x.toInt * y.toInt) (h2 : x.toInt * y.toInt < 2147483648) : (x * y).toInt = x.toInt * y.toInt := by
  rw [Int32.toInt_mul, ii_bmod h1 h2]
def rg (x : Int32) (a b : Int) : Prop := a ≤ x.toInt ∧ x.toInt ≤ b
theorem nI_tn {x : Int32} (h : 0 ≤ x.toInt) : nI x.toNatClampNeg = x := by
  have hr := ii_rng x
  apply ii_eq.mpr
  rw [nI_toInt (show x.toNatClampNeg < 2 ^ 31 by show x.toInt.toNat < 2 ^ 31; omega)]
  show ((x.toInt.toNat : Nat) : Int) = _
  omega
theorem rg_nI {x : Int32} {n : Nat} (h : rg x 0 n) : ∃ j, j ≤ n ∧ x = nI j := ⟨x.toNatClampNeg, by
  show x.toInt.toNat ≤ n
  have := h.2
  omega, (nI_tn h.1).symm⟩
theorem rg_of {n : Nat} {a b : Int} (hn : n < 2 ^ 31) (h1 : a ≤ n) (h2 : (n : Int) ≤ b) : rg (nI n) a b := by
  unfold rg
  rw [nI_toInt hn]
  exact ⟨h1, h2⟩
theorem n_0 : (0 : Int32) = nI 0 := rfl
theorem n_1 : (1 : Int32) = nI 1 := rfl
theorem n_2 : (2 : Int32) = nI 2 := rfl
theorem n_3 : (3 : Int32) = nI 3 := rfl
theorem n_4 : (4 : Int32) = nI 4 := rfl
theorem n_5 : (5 : Int32) = nI 5 := rfl
theorem n_6 : (6 : Int32) = nI 6 := rfl
theorem n_7 : (7 : Int32) = nI 7 := rfl
theorem n_8 : (8 : Int32) = nI 8 := rfl
theorem n_14 : (14 : Int32) = nI 14 := rfl
theorem n_15 : (15 : Int32) = nI 15 := rfl
theorem n_16 : (16 : Int32) = nI 16 := rfl
theorem n_31 : (31 : Int32) = nI 31 := rfl
theorem n_32 : (32 : Int32) = nI 32 := rfl
theorem n_60 : (60 : Int32) = nI 60 := rfl
theorem n_64 : (64 : Int32) = nI 64 := rfl
theorem n_70 : (70 : Int32) = nI 70 := rfl
theorem n_134 : (134 : Int32) = nI 134 := rfl
theorem n_166 : (166 : Int32) = nI 166 := rfl
theorem n_830 : (830 : Int32) = nI 830 := rfl
theorem n_999 : (999 : Int32) = nI 999 := rfl
theorem n_2000 : (2000 : Int32) = nI 2000 := rfl
theorem n_4096 : (4096 : Int32) = nI 4096 := rfl
theorem n_65536 : (65536 : Int32) = nI 65536 := rfl
theorem n_70000 : (70000 : Int32) = nI 70000 := rfl
theorem n_999999 : (999999 : Int32) = nI 999999 := rfl
theorem vp_nI {n N : Nat} (h : n < N) (hN : N < 2 ^ 31) : vp_in (nI n) N = True := eq_true (vp_in_nI h hN)
theorem q5_out {v lo hi : Int32} {μ : Mem} {K : Int32 → Mem → Prop} (h0 : lo ≤ v → v ≤ hi → K 0 μ) (h1 : ¬ (lo ≤ v ∧ v ≤ hi) → K 1 μ) : x_X5_isOutside v lo hi μ K := by
  unfold x_X5_isOutside x_X5_isOutside_L10
  exact ⟨fun h => h1 (fun g => absurd g.1 (Int32.not_le.mpr h)), fun h => ⟨fun g => h0 (Int32.not_lt.mp h) g, fun g => h1 (fun k => g k.2)⟩⟩
theorem lim_of {v : Int32} {n : Nat} {hi : Int32} (hn : hi.toInt = n) (h1 : 0 ≤ v) (h2 : v ≤ hi) : ∃ w, w ≤ n ∧ v = nI w := rg_nI ⟨by simpa using ii_le.mp h1, by rw [← hn]; exact ii_le.mp h2⟩
theorem lim_no {v : Int32} {n : Nat} {hi : Int32} (hb : n < 2 ^ 31) (hn : hi.toInt = n) (h : ¬ (0 ≤ v ∧ v ≤ hi)) {w : Nat} (hw : w ≤ n) : v ≠ nI w := by
  rintro rfl
  apply h
  refine ⟨ii_le.mpr ?_, ii_le.mpr ?_⟩
  · rw [nI_toInt (by omega)]; simp
  · rw [nI_toInt (by omega), hn]; omega
theorem q5_wheel {v : Int32} {μ : Mem} {K : Int32 → Mem → Prop} (h0 : ∀ w, w < 4 → v = nI w → K 0 μ) (h1 : (∀ w, w < 4 → v ≠ nI w) → K 1 μ) : x_X5_isNoWheel v μ K := by
  unfold x_X5_isNoWheel
  apply q5_out
  · intro a b
    obtain ⟨w, hw, e⟩ := lim_of (n := 3) rfl a b
    exact ⟨zb0, h0 w (by omega) e⟩
  · intro a
    exact ⟨zb1, h1 (fun w hw => lim_no (n := 3) (by omega) rfl a (by omega))⟩
theorem q5_table {v : Int32} {μ : Mem} {K : Int32 → Mem → Prop} (h0 : ∀ w, w < 4 → v = nI w → K 0 μ) (h1 : (∀ w, w < 4 → v ≠ nI w) → K 1 μ) : x_X5_isNoTable v μ K := by
  unfold x_X5_isNoTable
  apply q5_out
  · intro a b
    obtain ⟨w, hw, e⟩ := lim_of (n := 3) rfl a b
    exact ⟨zb0, h0 w (by omega) e⟩
  · intro a
    exact ⟨zb1, h1 (fun w hw => lim_no (n := 3) (by omega) rfl a (by omega))⟩
theorem q5_place {v : Int32} {μ : Mem} {K : Int32 → Mem → Prop} (h0 : ∀ w, w < 16 → v = nI w → K 0 μ) (h1 : (∀ w, w < 16 → v ≠ nI w) → K 1 μ) : x_X5_isNoPlace v μ K := by
  unfold x_X5_isNoPlace
  apply q5_out
  · intro a b
    obtain ⟨w, hw, e⟩ := lim_of (n := 15) rfl a b
    exact ⟨zb0, h0 w (by omega) e⟩
  · intro a
    exact ⟨zb1, h1 (fun w hw => lim_no (n := 15) (by omega) rfl a (by omega))⟩
/-- what a wheel's sixteen places are within the row -/
def wl (σ : Nat → Int32) (w : Nat) : Nat → Int32 := fun j => σ (70 + 16 * w + j)
/-- ranges of a wheel's places -/
def WfW (ω : Nat → Int32) : Prop := rg (ω 0) 0 65535 ∧ rg (ω 1) 0 65535 ∧ rg (ω 2) 0 3 ∧ rg (ω 3) 0 16 ∧ zb (ω 4) ∧ rg (ω 5) 0 4 ∧ (∀ k : Nat, (k : Int) < (ω 5).toInt → rg (ω (8 + 2 * k)) 0 65535 ∧ rg (ω (9 + 2 * k)) 1 999) ∧ (ω 5 = 0 → ω 6 = 0) ∧ (¬ ω 5 = 0 → 0 ≤ (ω 6).toInt ∧ (ω 6).toInt < (ω 9).toInt ∧ rg (ω 7) 0 65535)
/-- what a wheel gives -/
def gv (σ : Nat → Int32) (w : Nat) : Int32 := σ (6 + 16 * (wl σ w 2).toNatClampNeg + (wl σ w 0).toNatClampNeg / 4096) * wl σ w 3
