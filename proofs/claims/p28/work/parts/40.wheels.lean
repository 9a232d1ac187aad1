/-! the law's together and areWheels -/
theorem l_tog {v : Nat} {μ : Mem} {K : Int32 → Mem → Prop} (hv : v < 65536) (hK : K (nI (Nat.gcd v 65536)) μ) : x_L_together 65536 (nI v) μ K := by
  have key : ∀ (n b s : Nat), s < n → s < 2 ^ 31 → b < 2 ^ 31 → K (nI (Nat.gcd s b)) μ → x_L_together_L4 K n (nI b) (nI s) μ := by
    intro n
    induction n with
    | zero => intro b s h; omega
    | succ n ih =>
      intro b s h hs hb hk
      show xb_L_together_L4 _ _ _ _ _
      unfold xb_L_together_L4
      rcases Nat.eq_zero_or_pos s with z | z
      · subst z
        rw [Nat.gcd_zero_left] at hk
        exact ⟨fun _ => hk, fun w => absurd (Int32.le_refl _) w⟩
      · refine ⟨fun w => absurd w (nI_nle z hs), fun _ => ⟨nI_ne0 z hs, ?_⟩⟩
        rintro _ rfl
        rw [pk_rem hb z hs]
        have hm : b % s < s := Nat.mod_lt _ z
        refine ih s (b % s) (by omega) (by omega) hs ?_
        rw [← Nat.gcd_rec]
        exact hk
  unfold x_L_together
  exact ⟨v + 1, key (v + 1) 65536 v (by omega) (by omega) (by omega) hK⟩
theorem ar_gcd {v : Nat} (hv : v < 65536) : 65536 / Nat.gcd v 65536 = arN v ∧ 0 < Nat.gcd v 65536 ∧ Nat.gcd v 65536 ≤ 65536 := by
  have h0 : 0 < Nat.gcd v 65536 := Nat.gcd_pos_of_pos_right _ (by omega)
  have h1 : Nat.gcd v 65536 ≤ 65536 := Nat.le_of_dvd (by omega) (Nat.gcd_dvd_right _ _)
  refine ⟨?_, h0, h1⟩
  rcases Nat.eq_zero_or_pos v with z | z
  · subst z
    decide +kernel
  · obtain ⟨k, m, rfl⟩ := odd_part v z
    obtain ⟨e, hk⟩ := arN_of hv
    have e2 : (65536 : Nat) = 2 ^ k * 2 ^ (16 - k) := by rw [← Nat.pow_add, show k + (16 - k) = 16 by omega]
    have ho : Nat.gcd (2 * m + 1) (2 ^ (16 - k)) = 1 := by
      refine Nat.Coprime.pow_right _ ?_
      show Nat.gcd (2 * m + 1) 2 = 1
      rw [Nat.gcd_comm, Nat.gcd_rec, show (2 * m + 1) % 2 = 1 by omega]
      decide
    have eg : Nat.gcd (2 ^ k * (2 * m + 1)) 65536 = 2 ^ k := by
      rw [e2, Nat.gcd_mul_left, ho, Nat.mul_one]
    rw [eg, e, e2, Nat.mul_div_cancel_left _ (Nat.two_pow_pos k)]
theorem mxT_on {σ : Nat → Int32} {i : Nat} (h : wl σ i 4 = 1) : mxT σ (i + 1) = mxT σ i + gv σ i := by
  show mxT σ i + (if wl σ i 4 = 1 then gv σ i else 0) = _
  rw [if_pos h]
theorem mxT_off {σ : Nat → Int32} {i : Nat} (h : ¬ wl σ i 4 = 1) : mxT σ (i + 1) = mxT σ i + 0 := by
  show mxT σ i + (if wl σ i 4 = 1 then gv σ i else 0) = _
  rw [if_neg h]
theorem mskT_on {σ : Nat → Int32} {i : Nat} (h : wl σ i 4 = 1) : mskT σ (i + 1) = mskT σ i ||| ((1 : Int32) <<< (nI i &&& 31)) := by
  show mskT σ i ||| (wl σ i 4 <<< (nI i &&& 31)) = _
  rw [h]
theorem mskT_off {σ : Nat → Int32} {i : Nat} (hi : i < 4) (h : wl σ i 4 = 0) : mskT σ (i + 1) = mskT σ i ||| 0 := by
  show mskT σ i ||| (wl σ i 4 <<< (nI i &&& 31)) = _
  rw [h, (by decide : ∀ i, i < 4 → (0 : Int32) <<< (nI i &&& 31) = 0) i hi]
theorem arT_on {σ : Nat → Int32} {i v : Nat} (h : wl σ i 4 = 1) (ev : wl σ i 1 = nI v) (hv : v < 65536) : arT σ (i + 1) = if arT σ i < nI (arN v) then nI (arN v) else arT σ i := by
  show (if wl σ i 4 = 1 then (if arT σ i < nI (arN (wl σ i 1).toNatClampNeg) then nI (arN (wl σ i 1).toNatClampNeg) else arT σ i) else arT σ i) = _
  rw [if_pos h, ev, nI_clamp (by omega)]
theorem arT_off {σ : Nat → Int32} {i : Nat} (h : ¬ wl σ i 4 = 1) : arT σ (i + 1) = arT σ i := by
  show (if wl σ i 4 = 1 then (if arT σ i < nI (arN (wl σ i 1).toNatClampNeg) then nI (arN (wl σ i 1).toNatClampNeg) else arT σ i) else arT σ i) = _
  rw [if_neg h]
/-- the samples of a wheel's sweeps -/
theorem st_rg {ω : Nat → Int32} {m : Nat} (hf : WfW ω) (em : ω 5 = nI m) (hm4 : m ≤ 4) : ∀ j, 1 ≤ j → j ≤ m → (stT ω j).toInt ≥ (ω 9).toInt + ((j : Int) - 1) ∧ (stT ω j).toInt ≤ 999 * (j : Int) := by
  have hsw := hf.2.2.2.2.2.2.1
  have g : ∀ k, k < m → rg (ω (9 + 2 * k)) 1 999 := fun k hk => (hsw k (by rw [em, nI_toInt (by omega)]; omega)).2
  intro j
  induction j with
  | zero => intro h; omega
  | succ j ih =>
    intro _ hj
    have g1 := (g j (by omega)).1
    have g2 := (g j (by omega)).2
    rcases Nat.eq_zero_or_pos j with z | z
    · subst z
      have e : stT ω 1 = ω 9 := by
        show (0 : Int32) + ω (9 + 2 * 0) = ω 9
        rw [Int32.zero_add]
      rw [e]
      have : ω (9 + 2 * 0) = ω 9 := rfl
      rw [this] at g1 g2
      exact ⟨by omega, by omega⟩
    · obtain ⟨i1, i2⟩ := ih z (by omega)
      have g0 := (g 0 (by omega)).1
      have e0 : ω (9 + 2 * 0) = ω 9 := rfl
      rw [e0] at g0
      have e : (stT ω (j + 1)).toInt = (stT ω j).toInt + (ω (9 + 2 * j)).toInt := by
        show (stT ω j + ω (9 + 2 * j)).toInt = _
        exact ii_add (by omega) (by omega)
      rw [e]
      exact ⟨by omega, by omega⟩
section AW
variable {ct : Nat} {μ : Mem} {S : Nat} {hl sl : Nat → Nat → Int32} {z : Nat → Int32} {σ : Nat → Int32} {K : Int32 → Mem → Prop}
theorem aw_beats {i : Nat} (h : CI ct μ S hl σ z sl) (hi : i < 4) {A1 A2 A3 : Int32} {B : Int32 → Int32 → Int32 → Int32 → Int32 → Mem → Prop} (hB : B A1 A2 A3 1 (nI (i + 1)) μ) : x_L_areWheels_L326 K B A1 A2 A3 (nI i) 1 μ := by
  have key : ∀ k u, u + k = 4 → x_L_areWheels_L331 K B (k + 1) A1 A2 A3 1 (nI i) (nI u) μ := by
    intro k
    induction k with
    | zero =>
      intro u hu
      obtain rfl : u = 4 := by omega
      show xb_L_areWheels_L331 _ _ _ _ _ _ _ _ _ _
      unfold xb_L_areWheels_L331
      refine ⟨fun _ => ?_, fun w => absurd (nI_le (a := 4) (b := 4) (by omega) (by omega)) w⟩
      unfold x_L_areWheels_L398
      rintro _ rfl
      rw [nI_1]
      exact hB
    | succ k ih =>
      intro u hu
      show xb_L_areWheels_L331 _ _ _ _ _ _ _ _ _ _
      unfold xb_L_areWheels_L331
      refine ⟨fun w => absurd w (nI_ge (a := u) (b := 4) (by omega) (by omega)), fun _ => ⟨fun w => absurd w (by decide), fun _ => ?_⟩⟩
      refine k_w7 h hi ?_
      refine k_w7 h (w := u) (by omega) ?_
      rintro _ rfl
      refine k_beat h hi (by omega) (fun r hr => ?_)
      have l390 : x_L_areWheels_L390 K B (x_L_areWheels_L331 K B (k + 1)) A1 A2 A3 (nI i) (nI u) 1 μ := by
        unfold x_L_areWheels_L390
        rintro _ rfl
        rw [nI_1]
        exact ih (u + 1) (by omega)
      refine ⟨fun w => ?_, fun w => ?_⟩
      · rw [if_pos w] at hr
        unfold x_L_areWheels_L382
        exact ⟨fun _ => l390, fun q => absurd hr q⟩
      · rw [if_neg w, Int32.zero_sub] at hr
        unfold x_L_areWheels_L382
        exact ⟨fun _ => l390, fun q => absurd hr q⟩
  unfold x_L_areWheels_L326
  exact ⟨5, key 4 0 (by omega)⟩
theorem aw_243 {i v : Nat} (h : CI ct μ S hl σ z sl) (hi : i < 4) (ev : wl σ i 1 = nI v) (hv : v < 65536) {A1 A2 A3 : Int32} {B : Int32 → Int32 → Int32 → Int32 → Int32 → Mem → Prop} (hB : B A1 A2 A3 1 (nI (i + 1)) μ) : x_L_areWheels_L243 K B A1 A2 A3 (nI i) (nI v) (nI (arN v)) (wl σ i 5) (imv (nI v)) (imv (nI v)) μ := by
  have hf := k_whl hi h
  obtain ⟨m, hm, em⟩ := rg_nI (n := 4) hf.2.2.2.2.2.1
  have l321 : x_L_areWheels_L321 K B A1 A2 A3 (nI i) μ := aw_beats h hi hB
  unfold x_L_areWheels_L243
  refine ⟨fun _ => ?_, fun w => absurd rfl w⟩
  refine k_w8 h hi ev hv ?_
  refine ⟨fun _ => ?_, fun w => absurd rfl w⟩
  rw [em]
  rcases Nat.eq_zero_or_pos m with hz | hp
  · subst hz
    refine ⟨fun _ => ?_, fun w => absurd rfl w⟩
    refine k_w9 h hi em (by omega) ?_
    have e9 : stT (wl σ i) 0 - wl σ i 6 = 0 := by
      rw [hf.2.2.2.2.2.2.2.1 em]
      show (0 : Int32) - 0 = 0
      decide
    rw [e9]
    refine ⟨fun _ => ?_, fun w => absurd rfl w⟩
    refine k_w10 h hi em (by omega) ?_
    rw [if_pos rfl, ev]
    exact ⟨fun _ => l321, fun w => absurd rfl w⟩
  · refine ⟨fun w => absurd w (nI_ne0 hp (by omega)), fun _ => ?_⟩
    obtain ⟨s1, s2⟩ := st_rg hf em hm m hp (Nat.le_refl _)
    have hne : ¬ wl σ i 5 = 0 := by rw [em]; exact nI_ne0 hp (by omega)
    obtain ⟨g1, g2, -⟩ := hf.2.2.2.2.2.2.2.2 hne
    have g9 := (hf.2.2.2.2.2.2.1 0 (by rw [em, nI_toInt (by omega)]; omega)).2
    have e0 : wl σ i (9 + 2 * 0) = wl σ i 9 := rfl
    rw [e0] at g9
    have g3 := g9.1
    have g4 := g9.2
    have ed : (stT (wl σ i) m - wl σ i 6).toInt = (stT (wl σ i) m).toInt - (wl σ i 6).toInt := ii_sub (by omega) (by omega)
    have hlt : ¬ (stT (wl σ i) m - wl σ i 6) < nI m := fun w => by
      have := ii_lt.mp w
      rw [nI_toInt (by omega)] at this
      omega
    have hgt : ¬ (999 : Int32) * nI m < (stT (wl σ i) m - wl σ i 6) := fun w => by
      have := ii_lt.mp w
      rw [n_999, pk_mul, nI_toInt (by omega)] at this
      omega
    refine k_w9 h hi em hm ?_
    refine ⟨fun w => absurd w hlt, fun _ => ?_⟩
    refine k_w9 h hi em hm ?_
    exact ⟨fun w => absurd w hgt, fun _ => l321⟩
theorem aw_step {i : Nat} (h : CI ct μ S hl σ z sl) (hi : i < 4) {B : Int32 → Int32 → Int32 → Int32 → Int32 → Mem → Prop} (hB : B (mxT σ (i + 1)) (mskT σ (i + 1)) (arT σ (i + 1)) 1 (nI (i + 1)) μ) : xb_L_areWheels_L38 K B (mxT σ i) (mskT σ i) (arT σ i) 1 (nI i) μ := by
  have hf := k_whl hi h
  obtain ⟨f, hfb, ef⟩ := rg_nI (n := 65535) hf.1
  obtain ⟨v, hvb, ev⟩ := rg_nI (n := 65535) hf.2.1
  obtain ⟨t, ht, et⟩ := rg_nI (n := 3) hf.2.2.1
  obtain ⟨ag1, ag2, ag3⟩ := ar_gcd (v := v) (by omega)
  obtain ⟨ar1, ar2⟩ := arN_rg (v := v) (by omega)
  have egv : σ (6 + (t * 16 + f / 4096)) * wl σ i 3 = gv σ i := by
    unfold gv
    rw [ef, et, nI_clamp (by omega), nI_clamp (by omega), show 6 + (t * 16 + f / 4096) = 6 + 16 * t + f / 4096 by omega]
  unfold xb_L_areWheels_L38
  refine ⟨fun w => absurd w (nI_ge (a := i) (b := 4) hi (by omega)), fun _ => ⟨fun w => absurd w (by decide), fun _ => ?_⟩⟩
  refine k_w0 h hi ?_
  refine k_w1 h hi ?_
  refine k_w2 h hi ?_
  rw [ef, ev, et, n_4096, pk_div (by omega) (by omega) (by omega)]
  refine k_valueOf h (by omega) (by omega) ?_
  refine k_w3 h hi ?_
  rintro _ rfl
  rw [egv]
  refine l_tog (by omega) ?_
  refine ⟨nI_ne0 ag2 (by omega), ?_⟩
  rintro _ rfl
  rw [n_65536, pk_div (by omega) ag2 (by omega), ag1]
  have l171 : x_L_areWheels_L171 K B (mxT σ (i + 1)) (mskT σ (i + 1)) (nI i) (nI f) (nI v) (gv σ i) (nI (arN v)) (arT σ (i + 1)) μ := by
    unfold x_L_areWheels_L171
    refine k_w5 h hi ?_
    refine ⟨fun w => absurd w (nI_nlt (a := f) (b := 0) (by omega) (by omega)), fun _ => ⟨fun w => absurd w (nI_ge (a := f) (b := 65536) (by omega) (by omega)), fun _ => ⟨fun w => absurd w (nI_nlt (a := v) (b := 0) (by omega) (by omega)), fun _ => ⟨fun w => absurd w (nI_ge (a := v) (b := 65536) (by omega) (by omega)), fun _ => ?_⟩⟩⟩⟩
    refine k_w6 h hi ?_
    refine ⟨fun _ => ?_, fun w => absurd rfl w⟩
    refine k_w7 h hi ?_
    have l243 := aw_243 (K := K) h hi ev (by omega) hB
    rw [ev]
    refine ⟨fun w => ?_, fun w => ?_⟩
    · have e : imv (nI v) = nI v := if_neg (Int32.not_lt.mpr w)
      rw [e] at l243 ⊢
      exact l243
    · have e : imv (nI v) = 65536 - nI v := if_pos (Int32.not_le.mp w)
      rw [e] at l243 ⊢
      exact l243
  refine k_w4 h hi ?_
  refine ⟨fun hon => ?_, fun hoff => ?_⟩
  · unfold x_L_areWheels_L122
    refine ⟨fun w => absurd w (by decide), fun _ => ?_⟩
    unfold x_L_areWheels_L136
    rintro _ rfl
    refine ⟨fun w => absurd w (by decide), fun _ => ?_⟩
    unfold x_L_areWheels_L152
    rintro _ rfl
    rw [← mxT_on hon, ← mskT_on hon]
    have ea := arT_on hon ev (by omega)
    refine ⟨fun w => absurd w (by decide), fun _ => ⟨fun w => ?_, fun w => ?_⟩⟩
    · unfold x_L_areWheels_L170
      rw [if_neg (Int32.not_lt.mpr w)] at ea
      rw [← ea]
      exact l171
    · rw [if_pos (Int32.not_le.mp w)] at ea
      rw [ea] at l171
      exact l171
  · have h0 : wl σ i 4 = 0 := hf.2.2.2.2.1.resolve_right hoff
    unfold x_L_areWheels_L122
    refine ⟨fun _ => ?_, fun w => absurd rfl w⟩
    unfold x_L_areWheels_L136
    rintro _ rfl
    refine ⟨fun _ => ?_, fun w => absurd rfl w⟩
    unfold x_L_areWheels_L152
    rintro _ rfl
    rw [← mxT_off hoff, ← mskT_off hi h0]
    refine ⟨fun _ => ?_, fun w => absurd rfl w⟩
    unfold x_L_areWheels_L170
    rw [← arT_off hoff]
    exact l171
theorem a_wheels (h : CI ct μ S hl σ z sl) (hK : K 1 μ) : x_L_areWheels μ K := by
  have l404 : x_L_areWheels_L404 K (mxT σ 4) (mskT σ 4) (arT σ 4) 1 μ := by
    unfold x_L_areWheels_L404
    refine ⟨fun w => absurd w (by decide), fun _ => ?_⟩
    refine k_c3 h ?_
    refine ⟨fun _ => ?_, fun w => absurd rfl w⟩
    refine k_c7 h ?_
    refine ⟨fun _ => ?_, fun w => absurd rfl w⟩
    refine k_c4 h ?_
    refine k_c0 h ?_
    refine ⟨fun w => ?_, fun w => ?_⟩
    · unfold x_L_areWheels_L451
      exact ⟨fun _ => hK, fun q => absurd (if_pos w) q⟩
    · refine k_c0 h ?_
      unfold x_L_areWheels_L451
      exact ⟨fun _ => hK, fun q => absurd (if_neg w) q⟩
  have key : ∀ k i, i + k = 4 → x_L_areWheels_L38 K (k + 1) (mxT σ i) (mskT σ i) (arT σ i) 1 (nI i) μ := by
    intro k
    induction k with
    | zero =>
      intro i hi
      obtain rfl : i = 4 := by omega
      show xb_L_areWheels_L38 _ _ _ _ _ _ _ _
      unfold xb_L_areWheels_L38
      exact ⟨fun _ => l404, fun w => absurd (nI_le (a := 4) (b := 4) (by omega) (by omega)) w⟩
    | succ k ih =>
      intro i hi
      show xb_L_areWheels_L38 _ _ _ _ _ _ _ _
      exact aw_step h (by omega) (ih (i + 1) (by omega))
  unfold x_L_areWheels
  refine k_wno ?_
  refine ⟨fun _ => ?_, fun w => absurd rfl w⟩
  refine k_wbad ?_
  refine ⟨fun _ => ?_, fun w => absurd rfl w⟩
  unfold x_L_areWheels_L33
  exact ⟨5, key 4 0 (by omega)⟩
end AW
