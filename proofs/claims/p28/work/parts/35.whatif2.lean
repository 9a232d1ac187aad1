/-! untilRound -/
theorem s4_gr {K : Int32 → Mem → Prop} {n o : Nat} {a : Int32} {μ : Mem} (h : xb_X4_goRound_L2 K (x_X4_goRound_L2 K n) o a μ) : x_X4_goRound_L2 K (n + 1) o a μ := h
def gwN (ω : Nat → Int32) : Nat → Nat → Int32
  | 0 => ω
  | k + 1 => gw (gwN ω k)
theorem gwN_wf {ω : Nat → Int32} (h : WfW ω) : ∀ k, WfW (gwN ω k)
  | 0 => h
  | k + 1 => gw_wf (gwN_wf h k)
/-- the phase has become less with the t-th sample -/
def LtP (ω : Nat → Int32) (t : Nat) : Prop := gwN ω t 0 < gwN ω (t - 1) 0
/-- behind the sweeps: from a on the step stays -/
theorem still {ω : Nat → Int32} (hf : WfW ω) {a s p : Nat} (h5 : gwN ω a 5 = 0) (h1 : gwN ω a 1 = nI s) (h0 : gwN ω a 0 = nI p) (hs : s ≤ 65535) : ∀ i, p + i * s ≤ 65535 → gwN ω (a + i) 5 = 0 ∧ gwN ω (a + i) 1 = nI s ∧ gwN ω (a + i) 0 = nI (p + i * s)
  | 0, _ => ⟨h5, h1, by rw [Nat.zero_mul]; exact h0⟩
  | i + 1, hi => by
    have hm : (i + 1) * s = i * s + s := Nat.succ_mul i s
    obtain ⟨b5, b1, b0⟩ := still hf h5 h1 h0 hs i (by omega)
    have e : ∀ j, gwN ω (a + (i + 1)) j = if j = 0 then gph (gwN ω (a + i)) else gwN ω (a + i) j := fun j => by
      show gw (gwN ω (a + i)) j = _
      unfold gw
      rw [if_pos b5]
    refine ⟨by rw [e]; exact b5, by rw [e]; exact b1, ?_⟩
    rw [e, if_pos rfl]
    unfold gph
    rw [b0, b1, n_65536]
    simp (disch := omega) only [nI_add, pk_div, pk_mul, pk_sub]
    congr 1
    omega
theorem wraps {ω : Nat → Int32} (hf : WfW ω) {a s p i : Nat} (h5 : gwN ω a 5 = 0) (h1 : gwN ω a 1 = nI s) (h0 : gwN ω a 0 = nI p) (hs : s ≤ 65535) (hi : p + i * s ≤ 65535) (hi2 : 65536 ≤ p + (i + 1) * s) : LtP ω (a + (i + 1)) := by
  have hm : (i + 1) * s = i * s + s := Nat.succ_mul i s
  obtain ⟨b5, b1, b0⟩ := still hf h5 h1 h0 hs i hi
  unfold LtP
  have e : gwN ω (a + (i + 1)) 0 = gph (gwN ω (a + i)) := by
    show gw (gwN ω (a + i)) 0 = _
    unfold gw
    rw [if_pos b5, if_pos rfl]
  rw [e, show a + (i + 1) - 1 = a + i by omega, b0]
  unfold gph
  rw [b0, b1, n_65536]
  simp (disch := omega) only [nI_add, pk_div, pk_mul, pk_sub]
  exact nI_lt (by omega) (by omega)
theorem nowrap {ω : Nat → Int32} (hf : WfW ω) {a s p i : Nat} (h5 : gwN ω a 5 = 0) (h1 : gwN ω a 1 = nI s) (h0 : gwN ω a 0 = nI p) (hs : s ≤ 65535) (hi2 : p + (i + 1) * s ≤ 65535) : ¬ LtP ω (a + (i + 1)) := by
  have hm : (i + 1) * s = i * s + s := Nat.succ_mul i s
  obtain ⟨-, -, b0⟩ := still hf h5 h1 h0 hs i (by omega)
  obtain ⟨-, -, d0⟩ := still hf h5 h1 h0 hs (i + 1) hi2
  unfold LtP
  rw [show a + (i + 1) - 1 = a + i by omega, b0, d0]
  exact nI_nlt (by omega) (by omega)
theorem q4_round {c : Nat} {μ : Mem} {ω : Nat → Int32} {K : Int32 → Mem → Prop} (hc : Whl μ c ω) (hf : WfW ω) (hK : ∀ r μ', FS (LtP ω) 70000 r → Fr c (c + 3) μ μ' → K r μ') : x_X4_goRound c μ K := by
  have l40 : ∀ (a : Nat) (μ1 : Mem), a ≤ 70000 → Whl μ1 c (gwN ω a) → Fr c (c + 3) μ μ1 → (∀ j, 1 ≤ j → j ≤ a → ¬ LtP ω j) → (gwN ω a 5 = 0 ∨ a = 70000) → x_X4_goRound_L40 K c (nI a) μ1 := by
    intro a μ1 ha hw hfr hj hend
    have hfa := gwN_wf hf a
    obtain ⟨s, hs, es⟩ := rg_nI (n := 65535) hfa.2.1
    obtain ⟨p, hp, ep⟩ := rg_nI (n := 65535) hfa.1
    unfold x_X4_goRound_L40
    rw [hw.1, hw.2.1, es, ep]
    rcases hend with h5 | h7
    · refine ⟨fun z => ?_, fun z => ?_⟩
      · have hs0 : s = 0 := (nI_eq (by omega) (by omega)).mp (show nI s = nI 0 from z)
        subst hs0
        refine hK _ μ1 (Or.inr ⟨fun j j1 j2 => ?_, rfl⟩) hfr
        rcases Nat.lt_or_ge a j with w | w
        · obtain ⟨i, rfl⟩ : ∃ i, j = a + (i + 1) := ⟨j - a - 1, by omega⟩
          exact nowrap hf h5 es ep (by omega) (by omega)
        · exact hj j j1 w
      · have hs0 : 0 < s := by
          rcases Nat.eq_zero_or_pos s with w | w
          · exact absurd (by rw [w]; rfl) z
          · exact w
        refine ⟨z, ?_⟩
        rw [show (65535 : Int32) = nI 65535 from rfl, pk_sub (by omega), pk_div (by omega) hs0 (by omega), nI_1, nI_add]
        rintro _ rfl
        obtain ⟨d, hd⟩ : ∃ d, d = (65535 - p) / s := ⟨_, rfl⟩
        have hd1 : d * s ≤ 65535 - p := by rw [hd]; exact Nat.div_mul_le_self _ _
        have hd2 : 65535 - p < (d + 1) * s := by
          have := Nat.lt_mul_of_div_lt (show (65535 - p) / s < d + 1 by omega) hs0
          first
            | exact this
            | (rw [Nat.mul_comm] at this; exact this)
        have hdb : d ≤ 65535 := by
          have : d * 1 ≤ d * s := Nat.mul_le_mul_left d hs0
          omega
        rw [← hd]
        have hwr : LtP ω (a + (d + 1)) := wraps hf h5 es ep (by omega) (by omega) (by omega)
        have hno : ∀ j, 1 ≤ j → j < a + (d + 1) → ¬ LtP ω j := by
          intro j j1 j2
          rcases Nat.lt_or_ge a j with w | w
          · obtain ⟨i, rfl⟩ : ∃ i, j = a + (i + 1) := ⟨j - a - 1, by omega⟩
            have : (i + 1) * s ≤ d * s := Nat.mul_le_mul_right s (by omega)
            exact nowrap hf h5 es ep (by omega) (by omega)
          · exact hj j j1 w
        refine ⟨fun w => ?_, fun w => ?_⟩
        · have hgt : 70000 < a + (d + 1) := (nI_ltI (a := 70000) (b := a + (d + 1)) (by omega) (by omega)).mp w
          exact hK _ μ1 (Or.inr ⟨fun j j1 j2 => hno j j1 (by omega), rfl⟩) hfr
        · have hle : a + (d + 1) ≤ 70000 := by
            rcases Nat.lt_or_ge 70000 (a + (d + 1)) with u | u
            · exact absurd (nI_lt u (by omega)) w
            · exact u
          exact hK _ μ1 (Or.inl ⟨a + (d + 1), by omega, hle, hwr, hno, rfl⟩) hfr
    · subst h7
      have hno : FS (LtP ω) 70000 (-6) := Or.inr ⟨hj, rfl⟩
      refine ⟨fun _ => hK _ μ1 hno hfr, fun z => ⟨z, ?_⟩⟩
      have hs0 : 0 < s := by
        rcases Nat.eq_zero_or_pos s with w | w
        · exact absurd (by rw [w]; rfl) z
        · exact w
      rw [show (65535 : Int32) = nI 65535 from rfl, pk_sub (by omega), pk_div (by omega) hs0 (by omega), nI_1, nI_add]
      rintro _ rfl
      have hdb : (65535 - p) / s ≤ 65535 := Nat.le_trans (Nat.div_le_self _ _) (by omega)
      obtain ⟨d, hd⟩ : ∃ d, d = (65535 - p) / s := ⟨_, rfl⟩
      rw [← hd] at hdb ⊢
      exact ⟨fun _ => hK _ μ1 hno hfr, fun w => absurd (nI_lt (a := 70000) (b := 70000 + (d + 1)) (by omega) (by omega)) w⟩
  have loop : ∀ (k a : Nat) (μ1 : Mem), a + k = 70000 → Whl μ1 c (gwN ω a) → Fr c (c + 3) μ μ1 → (∀ j, 1 ≤ j → j ≤ a → ¬ LtP ω j) → x_X4_goRound_L2 K (k + 1) c (nI a) μ1 := by
    intro k
    induction k with
    | zero =>
      intro a μ1 ha hw hfr hj
      refine s4_gr ?_
      unfold xb_X4_goRound_L2
      refine ⟨fun z => l40 a μ1 (by omega) hw hfr hj (Or.inr (by omega)), fun z => ⟨fun _ => l40 a μ1 (by omega) hw hfr hj (Or.inr (by omega)), fun w => absurd (nI_le (a := 70000) (b := a) (by omega) (by omega)) w⟩⟩
    | succ k ih =>
      intro a μ1 ha hw hfr hj
      have hfa := gwN_wf hf a
      refine s4_gr ?_
      unfold xb_X4_goRound_L2
      rw [hw.2.2.2.2.2.1]
      refine ⟨fun z => l40 a μ1 (by omega) hw hfr hj (Or.inl ?_), fun z => ⟨fun w => absurd w (nI_ge (a := a) (b := 70000) (by omega) (by omega)), fun _ => ?_⟩⟩
      · have := hfa.2.2.2.2.2.1.1
        have h' := ii_le.mp z
        exact ii_eq.mpr (by simp at h' ⊢; omega)
      · rintro _ rfl
        refine q4_goOn hw hfa (fun μ2 hw2 hfr2 => ?_)
        rintro _ rfl
        rw [hw.1, hw2.1, nI_1]
        refine ⟨fun z => ?_, fun z => ?_⟩
        · refine ih (a + 1) μ2 (by omega) hw2 (hfr.trans hfr2) (fun j j1 j2 => ?_)
          rcases Nat.lt_or_ge a j with w | w
          · obtain rfl : j = a + 1 := by omega
            exact fun hl => absurd z (Int32.not_le.mpr hl)
          · exact hj j j1 w
        · exact hK _ μ2 (Or.inl ⟨a + 1, by omega, by omega, Int32.not_le.mp z, fun j j1 j2 => hj j j1 (by omega), rfl⟩) (hfr.trans hfr2)
  unfold x_X4_goRound
  exact ⟨70001, loop 70000 0 μ (by omega) hc Fr.rfl (fun j j1 j2 => absurd j1 (by omega))⟩
