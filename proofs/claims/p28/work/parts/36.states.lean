/-! undo, save, restore -/
theorem upd_row {f : Nat → Int32} {i : Nat} {g : Nat → Int32} (h : ∀ j, j < i → f j = g j) : ∀ j, j < i + 1 → upd f i (g i) j = g j := by
  intro j hj
  by_cases hji : j = i
  · subst hji; rw [upd_s]
  · rw [upd_n hji]; exact h j (by omega)
theorem q0_back {ct : Nat} {μ : Mem} {S : Nat} {hl : Nat → Nat → Int32} {K : Mem → Prop} (hc : HC ct μ (S + 1) hl) (hS6 : S + 1 ≤ 6) (hf : Wf 999999 (hl S)) (hK : ∀ μ', HC ct μ' S hl → Snd μ' 1 (hl S) → (∀ q, (q < 1 ∨ 17 ≤ q) → q ≠ 33 → μ' q = μ q) → K μ') : x_X0_bringBack 1 μ K := by
  obtain ⟨nx, hnx, hSn, e1, e2, h4⟩ := hc
  obtain ⟨m, rfl⟩ : ∃ m, nx = m + 1 := ⟨nx - 1, by omega⟩
  unfold x_X0_bringBack
  rintro _ rfl _ rfl _ rfl
  rw [um_um, um_s, um_s, upd_n (by omega : 2 ≠ 1), e1, e2, show nI (m + 1) - 1 = nI m from nI_pred m, show nI (S + 1) - 1 = nI S from nI_pred S, upd_n (by omega : 1 ≠ 2), upd_s]
  have e0 : (if nI S < (0 : Int32) then (0 : Int32) else nI S) = nI S := if_neg (nI_nlt (a := S) (b := 0) (by omega) (by omega))
  rw [e0]
  apply qJ_fm6 (by omega)
  have hm6 : m % 6 < 6 := Nat.mod_lt _ (by omega)
  refine ⟨vp_in_nI hm6 (by omega), ?_⟩
  rw [nI_clamp (by omega)]
  refine q3_take (σ := hl S) (by omega) ?_ hf (fun μ1 hs1 hfr => ?_)
  · have := h4 S (by omega)
    rw [show (m + 1 + 6 - (S + 1) + S) % 6 = m % 6 by omega] at this
    exact this.fr (fun q q1 q2 => um_n (by omega))
  · have f33 : μ1 33 = upd (upd (μ 33) 1 (nI m)) 2 (nI S) := by rw [hfr 33 (by omega), um_s]
    refine hK μ1 ⟨m, by omega, by omega, ?_, ?_, fun j hj => ?_⟩ hs1 (fun q q1 q2 => ?_)
    · rw [f33, upd_n (by omega), upd_s]
    · rw [f33, upd_s]
    · have := h4 j (by omega)
      rw [show (m + 6 - S + j) % 6 = (m + 1 + 6 - (S + 1) + j) % 6 by omega]
      have hlt : (m + 1 + 6 - (S + 1) + j) % 6 < 6 := Nat.mod_lt _ (by omega)
      refine this.fr (fun q q1 q2 => ?_)
      rw [hfr q (by omega), um_n (by omega)]
    · rw [hfr q (by omega), um_n q2]
theorem nar_b1 : vp_nar .boolean 1 = 1 := by decide
