/-! the reference records; what holds between two calls -/
theorem um_self {μ : Mem} {o : Nat} : um μ o (μ o) = μ := by
  funext q
  by_cases hq : q = o
  · subst hq; rw [um_s]
  · rw [um_n hq]
theorem upd_upd {f : Nat → Int32} {k : Nat} {x y : Int32} : upd (upd f k x) k y = upd f k y := by
  funext j
  by_cases h : j = k
  · subst h; rw [upd_s, upd_s]
  · rw [upd_n h, upd_n h, upd_n h]
theorem hL_wf {S : Nat} {hl : Nat → Nat → Int32} {σ : Nat → Int32} {n : Int} (hS6 : S ≤ 6) (h : ∀ j, j < S → Wf n (hl j)) (hσ : Wf n σ) : ∀ j, j < hS S → Wf n (hL S hl σ j) := by
  intro j hj
  unfold hL
  by_cases h1 : j + (S + 1 - hS S) = S
  · rw [if_pos h1]; exact hσ
  · rw [if_neg h1]
    apply h
    unfold hS at hj h1 ⊢
    by_cases h6 : S < 6
    · rw [if_pos h6] at hj h1 ⊢; omega
    · rw [if_neg h6] at hj h1 ⊢; omega
theorem hS_le (S : Nat) : hS S ≤ 6 := by
  unfold hS
  by_cases h6 : S < 6
  · rw [if_pos h6]; omega
  · rw [if_neg h6]; omega
