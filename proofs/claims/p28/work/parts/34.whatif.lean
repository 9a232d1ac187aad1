/-! what if: the first of some -/
theorem s5_uc {K : Int32 → Mem → Prop} {n : Nat} {a : Int32} {μ : Mem} (h : xb_X5_untilClip_L13 K (x_X5_untilClip_L13 K n) a μ) : x_X5_untilClip_L13 K (n + 1) a μ := h
theorem s5_im {K : Int32 → Mem → Prop} {n : Nat} {a b c d e : Int32} {μ : Mem} (h : xb_X5_ifMade_L44 K (x_X5_ifMade_L44 K n) a b c d e μ) : x_X5_ifMade_L44 K (n + 1) a b c d e μ := h
def FS (P : Nat → Prop) (N : Nat) (R : Int32) : Prop := (∃ t, 1 ≤ t ∧ t ≤ N ∧ P t ∧ (∀ i, 1 ≤ i → i < t → ¬ P i) ∧ R = nI t) ∨ ((∀ i, 1 ≤ i → i ≤ N → ¬ P i) ∧ R = -6)
theorem FS.one {P : Nat → Prop} {N : Nat} {R R' : Int32} (h : FS P N R) (h' : FS P N R') : R = R' := by
  rcases h with ⟨t, t1, t2, t3, t4, rfl⟩ | ⟨t1, rfl⟩ <;> rcases h' with ⟨u, u1, u2, u3, u4, rfl⟩ | ⟨u1, rfl⟩
  · have : t = u := by
      rcases Nat.lt_trichotomy t u with z | z | z
      · exact absurd t3 (u4 t t1 z)
      · exact z
      · exact absurd u3 (t4 u u1 z)
    rw [this]
  · exact absurd t3 (u1 t t1 t2)
  · exact absurd u3 (t1 u u1 u2)
  · rfl
/-! untilClip -/
theorem mks_2 {σ : Nat → Int32} : mks σ 2 = σ 2 + (if mix σ ≤ σ 0 then 0 else 1) := (goT_lo (by omega) 4).trans mk1_2
theorem clp_mono {n : Int} {σ : Nat → Int32} (hf : Wf n σ) : ∀ k : Nat, n + k < 1073741824 → (σ 2).toInt ≤ (mkN σ k 2).toInt
  | 0, _ => Int.le_refl _
  | k + 1, hk => by
    have ih := clp_mono hf k (by omega)
    have hw := mkN_wf hf k (by omega)
    have h1 := hw.2.1
    have h2 := hw.2.2.1
    show _ ≤ (mks (mkN σ k) 2).toInt
    rw [mks_2]
    by_cases h : mix (mkN σ k) ≤ mkN σ k 0
    · rw [if_pos h, Int32.add_zero]; exact ih
    · rw [if_neg h]
      have h12 := h1.2
      have : (mkN σ k 2 + 1).toInt = (mkN σ k 2).toInt + 1 := by rw [ii_add] <;> simp <;> omega
      omega
/-! ifMade -/
def ggT (σ : Nat → Int32) : Nat → Int32
  | 0 => 0
  | i + 1 => if ggT σ i < mkm (mkN σ i) then mkm (mkN σ i) else ggT σ i
def leT (c0 : Int32) (σ : Nat → Int32) : Nat → Int32
  | 0 => c0
  | i + 1 => if mkm (mkN σ i) < leT c0 σ i then mkm (mkN σ i) else leT c0 σ i
theorem leT_same {σ : Nat → Int32} (h : rg (mkm σ) 0 960) : ∀ i, 1 ≤ i → leT 960 σ i = leT 1000 σ i
  | 0, hi => absurd hi (by omega)
  | 1, _ => by
    have h2 := h.2
    show (if mkm σ < 960 then mkm σ else 960) = (if mkm σ < 1000 then mkm σ else 1000)
    have e2 : mkm σ < 1000 := ii_lt.mpr (by simp; omega)
    rw [if_pos e2]
    by_cases e1 : mkm σ < 960
    · rw [if_pos e1]
    · rw [if_neg e1]
      apply ii_eq.mpr
      have : ¬ (mkm σ).toInt < 960 := fun z => e1 (ii_lt.mpr (by simpa using z))
      simp
      omega
  | i + 2, _ => by
    have := leT_same h (i + 1) (by omega)
    unfold leT
    rw [this]
