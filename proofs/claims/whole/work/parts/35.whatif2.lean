/-! bestStep -/
theorem s5_bs {K : Int32 → Mem → Prop} {n : Nat} {a b c d : Int32} {μ : Mem} (h : xb_X5_bestStep_L27 K (x_X5_bestStep_L27 K n) a b c d μ) : x_X5_bestStep_L27 K (n + 1) a b c d μ := h
theorem s6_bs {K : Int32 → Mem → Prop} {n : Nat} {a b c d e : Int32} {μ : Mem} (h : xb_X6_bestStep_L31 K (x_X6_bestStep_L31 K n) a b c d e μ) : x_X6_bestStep_L31 K (n + 1) a b c d e μ := h
def frr (s x : Int32) : Int32 := if 0 ≤ 65536 / x - s then 65536 / x - s else 0 - (65536 / x - s)
def bsT (s : Int32) : Nat → Int32
  | 0 => 1
  | i + 1 => if frr s (nI (2 ^ (i + 1))) < frr s (bsT s i) then nI (2 ^ (i + 1)) else bsT s i
theorem bsT_pow (s : Int32) : ∀ i, i ≤ 15 → ∃ j, j ≤ 15 ∧ bsT s i = nI (2 ^ j)
  | 0, _ => ⟨0, by omega, rfl⟩
  | i + 1, hi => by
    obtain ⟨j, hj, ej⟩ := bsT_pow s i (by omega)
    unfold bsT
    by_cases h : frr s (nI (2 ^ (i + 1))) < frr s (bsT s i)
    · rw [if_pos h]; exact ⟨i + 1, hi, rfl⟩
    · rw [if_neg h]; exact ⟨j, hj, ej⟩
theorem pw_lt {j : Nat} (h : j ≤ 16) : 0 < 2 ^ j ∧ 2 ^ j ≤ 65536 := ⟨Nat.two_pow_pos j, (Nat.pow_le_pow_right (n := 2) (by omega) h : 2 ^ j ≤ 2 ^ 16)⟩
theorem bsT_ne (s : Int32) {i : Nat} (h : i ≤ 15) : ¬ bsT s i = 0 := by
  obtain ⟨j, hj, ej⟩ := bsT_pow s i h
  have := pw_lt (j := j) (by omega)
  rw [ej]
  exact nI_ne0 this.1 (by omega)
theorem q5_best {s v : Int32} {μ : Mem} {K : Int32 → Mem → Prop} (hK : K (if v = 0 then bsT s 15 else 65536 / bsT s 15) μ) : ∃ n : Nat, x_X5_bestStep_L27 K n s v 1 2 μ := by
  have loop : ∀ (k i : Nat), i + k = 15 → x_X5_bestStep_L27 K (k + 1) s v (bsT s i) (nI (2 ^ (i + 1))) μ := by
    intro k
    induction k with
    | zero =>
      intro i hi
      obtain rfl : i = 15 := by omega
      refine s5_bs ?_
      unfold xb_X5_bestStep_L27
      refine ⟨fun _ => ⟨fun z => ?_, fun z => ⟨bsT_ne s (by omega), ?_⟩⟩, fun z => absurd (by decide) z⟩
      · rw [if_pos z] at hK; exact hK
      · rw [if_neg z] at hK; exact hK
    | succ k ih =>
      intro i hi
      have hp := pw_lt (j := i + 1) (by omega)
      have hp15 : 2 ^ (i + 1) ≤ 2 ^ 15 := Nat.pow_le_pow_right (by omega) (by omega)
      have hnx := ih (i + 1) (by omega)
      unfold bsT at hnx
      rw [show nI (2 ^ (i + 1 + 1)) = nI (2 ^ (i + 1)) * 2 by rw [n_2, pk_mul, Nat.pow_succ 2 (i + 1)]] at hnx
      refine s5_bs ?_
      unfold xb_X5_bestStep_L27
      refine ⟨fun z => absurd z (nI_nlt (a := 32768) (b := 2 ^ (i + 1)) (by omega) (by omega)), fun _ => ⟨nI_ne0 hp.1 (by omega), ?_⟩⟩
      rintro _ rfl
      refine ⟨bsT_ne s (by omega), ?_⟩
      rintro _ rfl
      refine ⟨fun z => ?_, fun z => ?_⟩
      · unfold x_X5_bestStep_L59
        rintro _ rfl
        rw [if_neg (show ¬ frr s (nI (2 ^ (i + 1))) < frr s (bsT s i) from Int32.not_lt.mpr z)] at hnx
        exact hnx
      · unfold x_X5_bestStep_L59
        rintro _ rfl
        rw [if_pos (show frr s (nI (2 ^ (i + 1))) < frr s (bsT s i) from Int32.not_le.mp z)] at hnx
        exact hnx
  exact ⟨16, loop 15 0 (by omega)⟩
theorem frr_neg {s x : Int32} (z : ¬ 0 ≤ 65536 / x - s) : -(65536 / x - s) = frr s x := by
  unfold frr
  rw [if_neg z, Int32.zero_sub]
theorem q6_best {s v : Int32} {μ : Mem} {K : Int32 → Mem → Prop} (h1 : (2 : Int32) ≤ s) (h2 : s ≤ 65536) (hK : K (if v = 0 then bsT s 15 else 65536 / bsT s 15) μ) : ∃ n : Nat, x_X6_bestStep_L31 K n s v 1 1000000 1 μ := by
  have step : ∀ (n : Nat) (b lst x : Int32), ¬ 32768 < x → ¬ x = 0 → x_X6_bestStep_L31 K n s v (if frr s x < lst then x else b) (if frr s x < lst then frr s x else lst) (x * 2) μ → x_X6_bestStep_L31 K (n + 1) s v b lst x μ := by
    intro n b lst x hx hx0 hn
    refine s6_bs ?_
    unfold xb_X6_bestStep_L31
    refine ⟨fun z => absurd z hx, fun _ => ⟨hx0, ?_⟩⟩
    have l60 : ∀ f : Int32, f = frr s x → x_X6_bestStep_L60 K (x_X6_bestStep_L31 K n) s v b lst x f μ := by
      rintro f rfl
      unfold x_X6_bestStep_L60
      refine ⟨fun z => ?_, fun z => ?_⟩
      · rw [if_neg (Int32.not_lt.mpr z), if_neg (Int32.not_lt.mpr z)] at hn
        unfold x_X6_bestStep_L75
        refine ⟨fun _ => ?_, fun w => absurd z w⟩
        unfold x_X6_bestStep_L90
        rintro _ rfl
        exact hn
      · rw [if_pos (Int32.not_le.mp z), if_pos (Int32.not_le.mp z)] at hn
        unfold x_X6_bestStep_L75
        refine ⟨fun w => absurd w z, fun _ => ?_⟩
        unfold x_X6_bestStep_L90
        rintro _ rfl
        exact hn
    rintro _ rfl
    refine ⟨fun z => l60 _ ?_, fun z => l60 _ (frr_neg z)⟩
    unfold frr
    rw [if_pos z]
  have loop : ∀ (k i : Nat), i + k = 15 → x_X6_bestStep_L31 K (k + 1) s v (bsT s i) (frr s (bsT s i)) (nI (2 ^ (i + 1))) μ := by
    intro k
    induction k with
    | zero =>
      intro i hi
      obtain rfl : i = 15 := by omega
      refine s6_bs ?_
      unfold xb_X6_bestStep_L31
      refine ⟨fun _ => ⟨fun z => ?_, fun z => ⟨bsT_ne s (by omega), ?_⟩⟩, fun z => absurd (by decide) z⟩
      · rw [if_pos z] at hK; exact hK
      · rw [if_neg z] at hK; exact hK
    | succ k ih =>
      intro i hi
      have hp := pw_lt (j := i + 1) (by omega)
      have hp15 : 2 ^ (i + 1) ≤ 2 ^ 15 := Nat.pow_le_pow_right (by omega) (by omega)
      have hnx := ih (i + 1) (by omega)
      unfold bsT at hnx
      rw [show nI (2 ^ (i + 1 + 1)) = nI (2 ^ (i + 1)) * 2 by rw [n_2, pk_mul, Nat.pow_succ 2 (i + 1)]] at hnx
      apply step _ _ _ _ (nI_nlt (a := 32768) (b := 2 ^ (i + 1)) (by omega) (by omega)) (nI_ne0 hp.1 (by omega))
      by_cases hc : frr s (nI (2 ^ (i + 1))) < frr s (bsT s i)
      · rw [if_pos hc] at hnx
        rw [if_pos hc, if_pos hc]
        exact hnx
      · rw [if_neg hc] at hnx
        rw [if_neg hc, if_neg hc]
        exact hnx
  refine ⟨17, step 16 1 1000000 1 (by decide) (by decide) ?_⟩
  have hr : rg s 2 65536 := rg_le rfl rfl h1 h2
  have ef : frr s 1 = 65536 - s := by
    unfold frr
    have e1 : (65536 : Int32) / 1 = 65536 := by decide
    rw [e1, if_pos]
    apply ii_le.mpr
    have := hr.1
    have := hr.2
    rw [ii_sub] <;> simp <;> omega
  have hlt : frr s 1 < 1000000 := by
    rw [ef]
    apply ii_lt.mpr
    have := hr.1
    have := hr.2
    rw [ii_sub] <;> simp <;> omega
  rw [if_pos hlt, if_pos hlt]
  exact loop 15 0 (by omega)
theorem op_bestStep {ct : Nat} {μ : Mem} {s v : Int32} (h : Inv ct μ) : x_X5_bestStep s v μ (fun r μ1 => x_X6_bestStep s v μ1 (fun r' μ2 => r = r' ∧ Inv ct μ2)) := by
  unfold x_X5_bestStep
  apply q5_out
  · intro l1 l2
    apply if0
    apply q5_out
    · intro k1 k2
      apply if0
      apply q5_best
      unfold x_X6_bestStep
      apply i6_in l1 l2
      apply if1
      apply i6_in k1 k2
      apply if1
      exact q6_best l1 l2 ⟨rfl, h⟩
    · intro k
      apply if1
      unfold x_X6_bestStep
      apply i6_in l1 l2
      apply if1
      apply i6_out k
      exact if0 ⟨rfl, h⟩
  · intro l
    apply if1
    unfold x_X6_bestStep
    apply i6_out l
    exact if0 ⟨rfl, h⟩
/-! untilRound -/
theorem s4_gr {K : Int32 → Mem → Prop} {n o : Nat} {a : Int32} {μ : Mem} (h : xb_X4_goRound_L2 K (x_X4_goRound_L2 K n) o a μ) : x_X4_goRound_L2 K (n + 1) o a μ := h
theorem s6_ur {K : Int32 → Mem → Prop} {n : Nat} {a b c : Int32} {μ : Mem} (h : xb_X6_untilRound_L17 K (x_X6_untilRound_L17 K n) a b c μ) : x_X6_untilRound_L17 K (n + 1) a b c μ := h
def gwN (ω : Nat → Int32) : Nat → Nat → Int32
  | 0 => ω
  | k + 1 => gw (gwN ω k)
theorem gwN_wf {ω : Nat → Int32} (h : WfW ω) : ∀ k, WfW (gwN ω k)
  | 0 => h
  | k + 1 => gw_wf (gwN_wf h k)
/-- the phase has become less with the t-th sample -/
def LtP (ω : Nat → Int32) (t : Nat) : Prop := gwN ω t 0 < gwN ω (t - 1) 0
/-- behind the sweeps: from a on the step stays -/
theorem still {ω : Nat → Int32} (hf : WfW ω) {a s p : Nat} (h5 : gwN ω a 5 = 0) (h1 : gwN ω a 1 = nI s) (h0 : gwN ω a 0 = nI p) (hs : s ≤ 65535) : ∀ i, p + i * s ≤ 65535 → gwN ω (a + i) 5 = 0 ∧ gwN ω (a + i) 1 = nI s ∧ gwN ω (a + i) 0 = nI (p + i * s)
  | 0, _ => ⟨h5, h1, by rw [Nat.zero_mul]; exact h0⟩
  | i + 1, hi => by
    have hm : (i + 1) * s = i * s + s := Nat.succ_mul i s
    obtain ⟨b5, b1, b0⟩ := still hf h5 h1 h0 hs i (by omega)
    have e : ∀ j, gwN ω (a + (i + 1)) j = if j = 0 then gph (gwN ω (a + i)) else gwN ω (a + i) j := fun j => by
      show gw (gwN ω (a + i)) j = _
      unfold gw
      rw [if_pos b5]
    refine ⟨by rw [e]; exact b5, by rw [e]; exact b1, ?_⟩
    rw [e, if_pos rfl]
    unfold gph
    rw [b0, b1, n_65536]
    simp (disch := omega) only [nI_add, pk_div, pk_mul, pk_sub]
    congr 1
    omega
theorem wraps {ω : Nat → Int32} (hf : WfW ω) {a s p i : Nat} (h5 : gwN ω a 5 = 0) (h1 : gwN ω a 1 = nI s) (h0 : gwN ω a 0 = nI p) (hs : s ≤ 65535) (hi : p + i * s ≤ 65535) (hi2 : 65536 ≤ p + (i + 1) * s) : LtP ω (a + (i + 1)) := by
  have hm : (i + 1) * s = i * s + s := Nat.succ_mul i s
  obtain ⟨b5, b1, b0⟩ := still hf h5 h1 h0 hs i hi
  unfold LtP
  have e : gwN ω (a + (i + 1)) 0 = gph (gwN ω (a + i)) := by
    show gw (gwN ω (a + i)) 0 = _
    unfold gw
    rw [if_pos b5, if_pos rfl]
  rw [e, show a + (i + 1) - 1 = a + i by omega, b0]
  unfold gph
  rw [b0, b1, n_65536]
  simp (disch := omega) only [nI_add, pk_div, pk_mul, pk_sub]
  exact nI_lt (by omega) (by omega)
theorem nowrap {ω : Nat → Int32} (hf : WfW ω) {a s p i : Nat} (h5 : gwN ω a 5 = 0) (h1 : gwN ω a 1 = nI s) (h0 : gwN ω a 0 = nI p) (hs : s ≤ 65535) (hi2 : p + (i + 1) * s ≤ 65535) : ¬ LtP ω (a + (i + 1)) := by
  have hm : (i + 1) * s = i * s + s := Nat.succ_mul i s
  obtain ⟨-, -, b0⟩ := still hf h5 h1 h0 hs i (by omega)
  obtain ⟨-, -, d0⟩ := still hf h5 h1 h0 hs (i + 1) hi2
  unfold LtP
  rw [show a + (i + 1) - 1 = a + i by omega, b0, d0]
  exact nI_nlt (by omega) (by omega)
theorem q4_round {c : Nat} {μ : Mem} {ω : Nat → Int32} {K : Int32 → Mem → Prop} (hc : Whl μ c ω) (hf : WfW ω) (hK : ∀ r μ', FS (LtP ω) 70000 r → Fr c (c + 3) μ μ' → K r μ') : x_X4_goRound c μ K := by
  have l40 : ∀ (a : Nat) (μ1 : Mem), a ≤ 70000 → Whl μ1 c (gwN ω a) → Fr c (c + 3) μ μ1 → (∀ j, 1 ≤ j → j ≤ a → ¬ LtP ω j) → (gwN ω a 5 = 0 ∨ a = 70000) → x_X4_goRound_L40 K c (nI a) μ1 := by
    intro a μ1 ha hw hfr hj hend
    have hfa := gwN_wf hf a
    obtain ⟨s, hs, es⟩ := rg_nI (n := 65535) hfa.2.1
    obtain ⟨p, hp, ep⟩ := rg_nI (n := 65535) hfa.1
    unfold x_X4_goRound_L40
    rw [hw.1, hw.2.1, es, ep]
    rcases hend with h5 | h7
    · refine ⟨fun z => ?_, fun z => ?_⟩
      · have hs0 : s = 0 := (nI_eq (by omega) (by omega)).mp (show nI s = nI 0 from z)
        subst hs0
        refine hK _ μ1 (Or.inr ⟨fun j j1 j2 => ?_, rfl⟩) hfr
        rcases Nat.lt_or_ge a j with w | w
        · obtain ⟨i, rfl⟩ : ∃ i, j = a + (i + 1) := ⟨j - a - 1, by omega⟩
          exact nowrap hf h5 es ep (by omega) (by omega)
        · exact hj j j1 w
      · have hs0 : 0 < s := by
          rcases Nat.eq_zero_or_pos s with w | w
          · exact absurd (by rw [w]; rfl) z
          · exact w
        refine ⟨z, ?_⟩
        rw [show (65535 : Int32) = nI 65535 from rfl, pk_sub (by omega), pk_div (by omega) hs0 (by omega), nI_1, nI_add]
        rintro _ rfl
        obtain ⟨d, hd⟩ : ∃ d, d = (65535 - p) / s := ⟨_, rfl⟩
        have hd1 : d * s ≤ 65535 - p := by rw [hd]; exact Nat.div_mul_le_self _ _
        have hd2 : 65535 - p < (d + 1) * s := by
          have := Nat.lt_mul_of_div_lt (show (65535 - p) / s < d + 1 by omega) hs0
          first
            | exact this
            | (rw [Nat.mul_comm] at this; exact this)
        have hdb : d ≤ 65535 := by
          have : d * 1 ≤ d * s := Nat.mul_le_mul_left d hs0
          omega
        rw [← hd]
        have hwr : LtP ω (a + (d + 1)) := wraps hf h5 es ep (by omega) (by omega) (by omega)
        have hno : ∀ j, 1 ≤ j → j < a + (d + 1) → ¬ LtP ω j := by
          intro j j1 j2
          rcases Nat.lt_or_ge a j with w | w
          · obtain ⟨i, rfl⟩ : ∃ i, j = a + (i + 1) := ⟨j - a - 1, by omega⟩
            have : (i + 1) * s ≤ d * s := Nat.mul_le_mul_right s (by omega)
            exact nowrap hf h5 es ep (by omega) (by omega)
          · exact hj j j1 w
        refine ⟨fun w => ?_, fun w => ?_⟩
        · have hgt : 70000 < a + (d + 1) := (nI_ltI (a := 70000) (b := a + (d + 1)) (by omega) (by omega)).mp w
          exact hK _ μ1 (Or.inr ⟨fun j j1 j2 => hno j j1 (by omega), rfl⟩) hfr
        · have hle : a + (d + 1) ≤ 70000 := by
            rcases Nat.lt_or_ge 70000 (a + (d + 1)) with u | u
            · exact absurd (nI_lt u (by omega)) w
            · exact u
          exact hK _ μ1 (Or.inl ⟨a + (d + 1), by omega, hle, hwr, hno, rfl⟩) hfr
    · subst h7
      have hno : FS (LtP ω) 70000 (-6) := Or.inr ⟨hj, rfl⟩
      refine ⟨fun _ => hK _ μ1 hno hfr, fun z => ⟨z, ?_⟩⟩
      have hs0 : 0 < s := by
        rcases Nat.eq_zero_or_pos s with w | w
        · exact absurd (by rw [w]; rfl) z
        · exact w
      rw [show (65535 : Int32) = nI 65535 from rfl, pk_sub (by omega), pk_div (by omega) hs0 (by omega), nI_1, nI_add]
      rintro _ rfl
      have hdb : (65535 - p) / s ≤ 65535 := Nat.le_trans (Nat.div_le_self _ _) (by omega)
      obtain ⟨d, hd⟩ : ∃ d, d = (65535 - p) / s := ⟨_, rfl⟩
      rw [← hd] at hdb ⊢
      exact ⟨fun _ => hK _ μ1 hno hfr, fun w => absurd (nI_lt (a := 70000) (b := 70000 + (d + 1)) (by omega) (by omega)) w⟩
  have loop : ∀ (k a : Nat) (μ1 : Mem), a + k = 70000 → Whl μ1 c (gwN ω a) → Fr c (c + 3) μ μ1 → (∀ j, 1 ≤ j → j ≤ a → ¬ LtP ω j) → x_X4_goRound_L2 K (k + 1) c (nI a) μ1 := by
    intro k
    induction k with
    | zero =>
      intro a μ1 ha hw hfr hj
      refine s4_gr ?_
      unfold xb_X4_goRound_L2
      refine ⟨fun z => l40 a μ1 (by omega) hw hfr hj (Or.inr (by omega)), fun z => ⟨fun _ => l40 a μ1 (by omega) hw hfr hj (Or.inr (by omega)), fun w => absurd (nI_le (a := 70000) (b := a) (by omega) (by omega)) w⟩⟩
    | succ k ih =>
      intro a μ1 ha hw hfr hj
      have hfa := gwN_wf hf a
      refine s4_gr ?_
      unfold xb_X4_goRound_L2
      rw [hw.2.2.2.2.2.1]
      refine ⟨fun z => l40 a μ1 (by omega) hw hfr hj (Or.inl ?_), fun z => ⟨fun w => absurd w (nI_ge (a := a) (b := 70000) (by omega) (by omega)), fun _ => ?_⟩⟩
      · have := hfa.2.2.2.2.2.1.1
        have h' := ii_le.mp z
        exact ii_eq.mpr (by simp at h' ⊢; omega)
      · rintro _ rfl
        refine q4_goOn hw hfa (fun μ2 hw2 hfr2 => ?_)
        rintro _ rfl
        rw [hw.1, hw2.1, nI_1]
        refine ⟨fun z => ?_, fun z => ?_⟩
        · refine ih (a + 1) μ2 (by omega) hw2 (hfr.trans hfr2) (fun j j1 j2 => ?_)
          rcases Nat.lt_or_ge a j with w | w
          · obtain rfl : j = a + 1 := by omega
            exact fun hl => absurd z (Int32.not_le.mpr hl)
          · exact hj j j1 w
        · exact hK _ μ2 (Or.inl ⟨a + 1, by omega, by omega, Int32.not_le.mp z, fun j j1 j2 => hj j j1 (by omega), rfl⟩) (hfr.trans hfr2)
  unfold x_X4_goRound
  exact ⟨70001, loop 70000 0 μ (by omega) hc Fr.rfl (fun j j1 j2 => absurd j1 (by omega))⟩
theorem op_untilRound {ct : Nat} {μ : Mem} {a : Int32} (h : Inv ct μ) : x_X5_untilRound a μ (fun r μ1 => x_X6_untilRound a μ1 (fun r' μ2 => r = r' ∧ Inv ct μ2)) := by
  obtain ⟨S, hl, sl, hx⟩ := id h
  obtain ⟨a1, a2, a3, a4, a5, a6, a7, a8⟩ := id hx
  obtain ⟨σ, hσ⟩ : ∃ σ, σ = μ 169 := ⟨_, rfl⟩
  rw [← hσ] at a1 a2
  unfold x_X5_untilRound
  apply q5_wheel
  · rintro w hw rfl
    apply if0
    refine q3_take (by omega) a1 a2 (fun μ0 hs0 hF0 => ?_)
    rw [nI_clamp (by omega)]
    refine ⟨vp_in_nI hw (by omega), ?_⟩
    have hfw := a2.2.2.2.2.1 w hw
    refine q4_round (ω := wl σ w) (hs0.2.2.2.2.2.2.2 w hw) hfw (fun r μ1 hr hfr => ?_)
    have hF : Fr 17 33 μ μ1 := hF0.trans (hfr.mono (by omega) (by omega))
    unfold x_X6_untilRound
    apply i6_one hw
    apply if1
    apply q6_keepTrial
    intro r1 hr1
    have e169 : μ1 169 = σ := by rw [hF _ (by omega), hσ]
    have l73 : ∀ (i : Nat) (b : Int32) (ρ : Nat → Int32), (if b = 0 then -6 else nI i) = r → x_X6_untilRound_L73 (fun r' μ2 => r = r' ∧ Inv ct μ2) (nI i) b (um (um μ1 171 r1) 169 ρ) := by
      intro i b ρ hb
      unfold x_X6_untilRound_L73
      apply q6_putBack
      intro r2 hr2
      rw [um_um]
      have hinv : Inv ct (um (um μ1 171 r1) 169 r2) := inv_what h hF (fun k hk => by rw [hr2 k hk, um_n (by omega), um_s, hr1 k hk, e169, hσ])
      refine ⟨fun z => ⟨?_, hinv⟩, fun z => ⟨?_, hinv⟩⟩
      · rw [if_pos z] at hb; exact hb.symm
      · rw [if_neg z] at hb; exact hb.symm
    have done : ∀ (n i : Nat) (ρ : Nat → Int32), i ≤ 70000 → nI i = r → x_X6_untilRound_L17 (fun r' μ2 => r = r' ∧ Inv ct μ2) (n + 1) (nI w) (nI i) 1 (um (um μ1 171 r1) 169 ρ) := by
      intro n i ρ hi hir
      refine s6_ur ?_
      unfold xb_X6_untilRound_L17
      have := l73 i 1 ρ (by rw [if_neg (by decide)]; exact hir)
      exact ⟨fun _ => this, fun _ => ⟨fun z => absurd z (by decide), fun _ => this⟩⟩
    have loop : ∀ (k i : Nat) (ρ : Nat → Int32), i + k = 70000 → (∀ j, j < 16 → wl ρ w j = gwN (wl σ w) i j) → (∀ j, 1 ≤ j → j ≤ i → ¬ LtP (wl σ w) j) → x_X6_untilRound_L17 (fun r' μ2 => r = r' ∧ Inv ct μ2) (k + 2) (nI w) (nI i) 0 (um (um μ1 171 r1) 169 ρ) := by
      intro k
      induction k with
      | zero =>
        intro i ρ hi hρ hj
        refine s6_ur ?_
        unfold xb_X6_untilRound_L17
        refine ⟨fun _ => l73 i 0 ρ ?_, fun z => absurd (nI_le (a := 70000) (b := i) (by omega) (by omega)) z⟩
        rw [if_pos rfl]
        exact FS.one (Or.inr ⟨fun j j1 j2 => hj j j1 (by omega), rfl⟩) hr
      | succ k ih =>
        intro i ρ hi hρ hj
        have hfi : WfW (wl ρ w) := (gwN_wf hfw i).congr hρ
        refine s6_ur ?_
        unfold xb_X6_untilRound_L17
        refine ⟨fun z => absurd z (nI_ge (a := i) (b := 70000) (by omega) (by omega)), fun _ => ⟨fun _ => ?_, fun z => absurd rfl z⟩⟩
        apply q6_w
        rw [n_0, nI_add]
        refine ⟨vp_in_nI (by omega) (by omega), ?_⟩
        rintro _ rfl
        refine q6_goesOn hw (by rw [um_s]; exact hfi) ?_
        rintro _ rfl
        apply q6_w
        rw [nI_add, nI_1]
        refine ⟨vp_in_nI (by omega) (by omega), ?_⟩
        rw [um_um, um_s, um_s, nI_clamp (by omega), putw_at (j := 0) (by omega)]
        have hρ' : ∀ j, j < 16 → wl (putw ρ w (gw (wl ρ w))) w j = gwN (wl σ w) (i + 1) j := by
          intro j hj16
          rw [wl_putw hj16, if_pos rfl]
          show gw (wl ρ w) j = gw (gwN (wl σ w) i) j
          unfold gw gph gsp
          have h0 := hρ 0 (by omega)
          have h1 := hρ 1 (by omega)
          have h5 := hρ 5 (by omega)
          have h6 := hρ 6 (by omega)
          have h7 := hρ 7 (by omega)
          have h8 := hρ 8 (by omega)
          have h9 := hρ 9 (by omega)
          rw [h0, h1, h5, h6, h7, h8, h9, hρ j hj16]
          by_cases hj8 : 8 ≤ j ∧ j < 14
          · rw [hρ (j + 2) (by omega)]
          · rw [if_neg hj8, if_neg hj8]
        have p0 : gw (wl ρ w) 0 = gwN (wl σ w) (i + 1) 0 := by
          have := hρ' 0 (by omega)
          rw [wl_putw (by omega), if_pos rfl] at this
          exact this
        have p1 : ρ (70 + 16 * w + 0) = gwN (wl σ w) i 0 := hρ 0 (by omega)
        rw [p0, p1]
        refine ⟨fun z => ?_, fun z => ?_⟩
        · unfold x_X6_untilRound_L69
          refine ih (i + 1) _ (by omega) hρ' (fun j j1 j2 => ?_)
          rcases Nat.lt_or_ge i j with u | u
          · obtain rfl : j = i + 1 := by omega
            exact fun hl => absurd z (Int32.not_le.mpr hl)
          · exact hj j j1 u
        · unfold x_X6_untilRound_L69
          refine done (k + 1) (i + 1) _ (by omega) ?_
          exact FS.one (Or.inl ⟨i + 1, by omega, by omega, Int32.not_le.mp z, fun j j1 j2 => hj j j1 (by omega), rfl⟩) hr
    have base : um (um μ1 171 r1) 169 σ = um μ1 171 r1 := by
      have : σ = um μ1 171 r1 169 := by rw [um_n (by omega), e169]
      rw [this, um_self]
    have := loop 70000 0 σ (by omega) (fun _ _ => rfl) (fun j j1 j2 => absurd j1 (by omega))
    rw [base] at this
    exact ⟨70002, this⟩
  · intro hv
    apply if1
    unfold x_X6_untilRound
    apply i6_no hv
    exact if0 ⟨rfl, h⟩
