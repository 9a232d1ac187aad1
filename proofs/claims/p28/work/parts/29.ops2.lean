theorem if1 {A B : Prop} (h : B) : ((1 : Int32) = 0 → A) ∧ (¬ (1 : Int32) = 0 → B) := ⟨fun z => absurd z (by decide), fun _ => h⟩
theorem if0 {A B : Prop} (h : A) : ((0 : Int32) = 0 → A) ∧ (¬ (0 : Int32) = 0 → B) := ⟨fun _ => h, fun z => absurd rfl z⟩
/-- the step is changed -/
def stw (ω : Nat → Int32) (v : Int32) : Nat → Int32 := upd (upd (upd ω 1 v) 5 0) 6 0
theorem stw_wf {ω : Nat → Int32} {v : Int32} (h : WfW ω) (hv : rg v 0 65535) : WfW (stw ω v) := by
  obtain ⟨h0, h1, h2, h3, h4, h5, hsw, hz, hgo⟩ := h
  unfold stw
  refine ⟨by simp [upd]; exact h0, by simp [upd]; exact hv, by simp [upd]; exact h2, by simp [upd]; exact h3, by simp [upd]; exact h4, ?_, fun k hk => ?_, fun _ => by simp [upd], fun hh => ?_⟩
  · simp [upd]
    exact ⟨by simp, by simp⟩
  · rw [upd_n (by omega), upd_s] at hk
    simp at hk
    omega
  · rw [upd_n (by omega), upd_s] at hh
    exact absurd rfl hh
theorem q4_changeStep {c : Nat} {v : Int32} {μ : Mem} {K : Mem → Prop} {ω : Nat → Int32} (hc : Whl μ c ω) (hK : ∀ μ', Whl μ' c (stw ω v) → Fr c (c + 3) μ μ' → K μ') : x_X4_changeStep c v μ K := by
  obtain ⟨c0, c1, c2, c3, c4, c5, csw, cgo⟩ := hc
  unfold x_X4_changeStep
  rintro _ rfl _ rfl
  rw [um_s, um_um]
  refine hK _ ?_ (Fr.rfl.um (by omega) (by omega))
  unfold Whl stw
  simp only [um_s, um_n (by omega : c + 1 ≠ c), um_n (by omega : c + 2 ≠ c)]
  refine ⟨by simp [upd, c0], by simp [upd], by simp [upd, c2], by simp [upd, c3], by simp [upd, c4], by simp [upd], fun k hk => ?_, fun hh => ?_⟩
  · rw [upd_n (by omega), upd_s] at hk
    simp at hk
    omega
  · rw [upd_n (by omega), upd_s] at hh
    exact absurd rfl hh
/-! turn -/
def mskT (σ : Nat → Int32) : Nat → Int32
  | 0 => 0
  | i + 1 => mskT σ i ||| (wl σ i 4 <<< (nI i &&& 31))
theorem q3_mask {o : Nat} {n : Int} {μ : Mem} {σ : Nat → Int32} {K : Int32 → Mem → Prop} (hs : Snd μ o σ) (hf : Wf n σ) (hK : K (mskT σ 4) μ) : x_X3_maskOfOn o μ K := by
  have key : ∀ (k i : Nat), i + k = 4 → x_X3_maskOfOn_L4 K (k + 1) o (mskT σ i) (nI i) μ := by
    intro k
    induction k with
    | zero =>
      intro i hi
      obtain rfl : i = 4 := by omega
      show xb_X3_maskOfOn_L4 _ _ _ _ _ _
      unfold xb_X3_maskOfOn_L4
      exact ⟨fun _ => hK, fun h => absurd (nI_le (a := 4) (b := 4) (by omega) (by omega)) h⟩
    | succ k ih =>
      intro i hi
      have hi4 : i < 4 := by omega
      have hz := (hf.2.2.2.2.1 i hi4).2.2.2.2.1
      have hc := (hs.2.2.2.2.2.2.2 i hi4).2.2.2.2.1
      have := ih (i + 1) (by omega)
      unfold mskT at this
      rw [nI_succ] at this
      show xb_X3_maskOfOn_L4 _ _ _ _ _ _
      unfold xb_X3_maskOfOn_L4
      refine ⟨fun h => absurd h (nI_ge (a := i) (b := 4) (by omega) (by omega)), fun _ => ?_⟩
      simp (disch := omega) only [nI_clamp, vp_nI, true_and, hc]
      refine ⟨fun h => ?_, fun h => ?_⟩
      · unfold x_X3_maskOfOn_L27
        rintro _ rfl
        rw [h, (by decide : ∀ i, i < 4 → (0 : Int32) <<< (nI i &&& 31) = 0) i hi4, Int32.or_zero] at this
        exact this
      · rintro _ rfl
        unfold x_X3_maskOfOn_L27
        rintro _ rfl
        rw [hz.resolve_left h] at this
        exact this
  unfold x_X3_maskOfOn
  exact ⟨5, key 4 0 (by omega)⟩
