theorem rg_nn {x : Int32} {a b : Int} (h : rg x a b) (ha : 0 ≤ a) : ¬ x < 0 := fun z => by
  have := ii_lt.mp z
  have := h.1
  simp at *
  omega
theorem rg_le {v lo hi : Int32} {a b : Int} (ha : lo.toInt = a) (hb : hi.toInt = b) (h1 : lo ≤ v) (h2 : v ≤ hi) : rg v a b := ⟨by rw [← ha]; exact ii_le.mp h1, by rw [← hb]; exact ii_le.mp h2⟩
/-! one wheel's places -/
theorem upd_putw {σ : Nat → Int32} {w j : Nat} {v : Int32} (hj : j < 16) : upd σ (70 + 16 * w + j) v = putw σ w (upd (wl σ w) j v) := by
  refine putw_of (fun i hi => ?_) (fun i hi => upd_n (by omega))
  by_cases h : i = j
  · subst h; rw [upd_s, upd_s]
  · rw [upd_n (by omega), upd_n h]
    rfl
theorem putw_putw {σ ω ω' : Nat → Int32} {w : Nat} : putw (putw σ w ω) w ω' = putw σ w ω' := by
  funext i
  unfold putw
  by_cases h : 70 + 16 * w ≤ i ∧ i < 86 + 16 * w
  · rw [if_pos h, if_pos h]
  · rw [if_neg h, if_neg h, if_neg h]
theorem putw_at {σ ω : Nat → Int32} {w j : Nat} (hj : j < 16) : putw σ w ω (70 + 16 * w + j) = ω j := by
  have := wl_putw (σ := σ) (ω := ω) (w := w) (w' := w) hj
  rw [if_pos rfl] at this
  exact this
theorem putw_upd {σ ω : Nat → Int32} {w j : Nat} {v : Int32} (hj : j < 16) : upd (putw σ w ω) (70 + 16 * w + j) v = putw σ w (upd ω j v) := by
  refine putw_of (fun i hi => ?_) (fun i hi => ?_)
  · by_cases h : i = j
    · subst h; rw [upd_s, upd_s]
    · rw [upd_n (by omega), upd_n h]
      exact putw_at hi
  · rw [upd_n (by omega)]
    unfold putw
    rw [if_neg (by omega)]
theorem Whl.put {μ : Mem} {c j : Nat} {ω : Nat → Int32} {v : Int32} (h : Whl μ c ω) (hj : j = 0 ∨ j = 2 ∨ j = 3 ∨ j = 4) : Whl (um μ c (upd (μ c) j v)) c (upd ω j v) := by
  obtain ⟨c0, c1, c2, c3, c4, c5, csw, cgo⟩ := h
  unfold Whl
  simp only [um_s, um_n (by omega : c + 1 ≠ c), um_n (by omega : c + 2 ≠ c)]
  rcases hj with rfl | rfl | rfl | rfl
  all_goals
    refine ⟨by simp [upd, *], by simp [upd, *], by simp [upd, *], by simp [upd, *], by simp [upd, *], by simp [upd, *], fun k hk => ?_, fun hh => ?_⟩
    · rw [upd_n (by omega)] at hk
      rw [upd_n (by omega), upd_n (by omega)]
      exact csw k hk
    · rw [upd_n (by omega)] at hh
      rw [upd_n (by omega), upd_n (by omega), upd_n (by omega), upd_n (by omega)]
      exact cgo hh
theorem WfW.put {j : Nat} {ω : Nat → Int32} {v : Int32} (h : WfW ω) (hj : (j = 0 ∧ rg v 0 65535) ∨ (j = 2 ∧ rg v 0 3) ∨ (j = 3 ∧ rg v 0 16) ∨ (j = 4 ∧ zb v)) : WfW (upd ω j v) := by
  obtain ⟨h0, h1, h2, h3, h4, h5, hsw, hz, hgo⟩ := h
  have e : ∀ i, i ≠ j → upd ω j v i = ω i := fun i hi => upd_n hi
  have hjr : j ≠ 1 ∧ j ≠ 5 ∧ j < 6 := by omega
  refine ⟨?_, by rw [e 1 (by omega)]; exact h1, ?_, ?_, ?_, by rw [e 5 (by omega)]; exact h5, fun k hk => ?_, fun hh => ?_, fun hh => ?_⟩
  · rcases hj with ⟨rfl, r⟩ | ⟨rfl, r⟩ | ⟨rfl, r⟩ | ⟨rfl, r⟩
    · rw [upd_s]; exact r
    · rw [e 0 (by omega)]; exact h0
    · rw [e 0 (by omega)]; exact h0
    · rw [e 0 (by omega)]; exact h0
  · rcases hj with ⟨rfl, r⟩ | ⟨rfl, r⟩ | ⟨rfl, r⟩ | ⟨rfl, r⟩
    · rw [e 2 (by omega)]; exact h2
    · rw [upd_s]; exact r
    · rw [e 2 (by omega)]; exact h2
    · rw [e 2 (by omega)]; exact h2
  · rcases hj with ⟨rfl, r⟩ | ⟨rfl, r⟩ | ⟨rfl, r⟩ | ⟨rfl, r⟩
    · rw [e 3 (by omega)]; exact h3
    · rw [e 3 (by omega)]; exact h3
    · rw [upd_s]; exact r
    · rw [e 3 (by omega)]; exact h3
  · rcases hj with ⟨rfl, r⟩ | ⟨rfl, r⟩ | ⟨rfl, r⟩ | ⟨rfl, r⟩
    · rw [e 4 (by omega)]; exact h4
    · rw [e 4 (by omega)]; exact h4
    · rw [e 4 (by omega)]; exact h4
    · rw [upd_s]; exact r
  · rw [e 5 (by omega)] at hk
    rw [e _ (by omega), e _ (by omega)]
    exact hsw k hk
  · rw [e 5 (by omega)] at hh
    rw [e 6 (by omega)]
    exact hz hh
  · rw [e 5 (by omega)] at hh
    rw [e 6 (by omega), e 7 (by omega), e 9 (by omega)]
    exact hgo hh
