/-! the orders of a text, read by the class and by the reference -/
def Txt (t : Nat → Int32) (n : Nat) (c : Nat → Nat) : Prop := ∀ k, k < n → t k = nI (c k) ∧ 33 ≤ c k ∧ c k ≤ 126
def numL (n : Nat) (c : Nat → Nat) (mx : Nat) : Nat → Nat → Nat → Nat × Nat
  | 0, v, p => (v, p)
  | k + 1, v, p => if p < n ∧ 0 < v ∧ 48 ≤ c p ∧ c p ≤ 57 ∧ 10 * v + (c p - 48) ≤ mx then numL n c mx k (10 * v + (c p - 48)) (p + 1) else (v, p)
theorem numL_le {n mx : Nat} {c : Nat → Nat} : ∀ k v p, v ≤ mx → (numL n c mx k v p).1 ≤ mx ∧ v ≤ (numL n c mx k v p).1 ∧ p ≤ (numL n c mx k v p).2 ∧ (p ≤ n → (numL n c mx k v p).2 ≤ n)
  | 0, v, p, h => ⟨h, Nat.le_refl _, Nat.le_refl _, fun z => z⟩
  | k + 1, v, p, h => by
    unfold numL
    by_cases z : p < n ∧ 0 < v ∧ 48 ≤ c p ∧ c p ≤ 57 ∧ 10 * v + (c p - 48) ≤ mx
    · rw [if_pos z]
      obtain ⟨a, b, d, e⟩ := numL_le (n := n) (c := c) k (10 * v + (c p - 48)) (p + 1) z.2.2.2.2
      exact ⟨a, by omega, by omega, fun _ => e z.1⟩
    · rw [if_neg z]; exact ⟨h, Nat.le_refl _, Nat.le_refl _, fun z => z⟩
def nuB (n : Nat) (c : Nat → Nat) (mn mx p : Nat) : Prop := p < n ∧ 48 + mn ≤ c p ∧ c p ≤ 57 ∧ c p ≤ 48 + mx
def nuV (n : Nat) (c : Nat → Nat) (mx p : Nat) : Nat := (numL n c mx (n - (p + 1)) (c p - 48) (p + 1)).1
def nuP (n : Nat) (c : Nat → Nat) (mx p : Nat) : Nat := (numL n c mx (n - (p + 1)) (c p - 48) (p + 1)).2
theorem nu_rg {n mn mx p : Nat} {c : Nat → Nat} (h : nuB n c mn mx p) : nuV n c mx p ≤ mx ∧ mn ≤ nuV n c mx p ∧ p + 1 ≤ nuP n c mx p ∧ nuP n c mx p ≤ n := by
  obtain ⟨h1, h2, h3, h4⟩ := h
  obtain ⟨a, b, d, e⟩ := numL_le (n := n) (c := c) (mx := mx) (n - (p + 1)) (c p - 48) (p + 1) (by omega)
  exact ⟨a, by unfold nuV; omega, d, e h1⟩
theorem nu_3 {n p : Nat} {c : Nat → Nat} (h : c p ≤ 51) : nuV n c 3 p = c p - 48 ∧ nuP n c 3 p = p + 1 := by
  have : ∀ k v q, v ≤ 3 → numL n c 3 k v q = (v, q) := by
    intro k v q hv
    cases k with
    | zero => rfl
    | succ k =>
      unfold numL
      rw [if_neg]
      intro z
      omega
  unfold nuV nuP
  rw [this _ _ _ (by omega)]
  exact ⟨rfl, rfl⟩
/-- the class reads a sign, a digit, a number -/
theorem q1_sign {n p : Nat} {c : Nat → Nat} {μ : Mem} {K : Int32 → Mem → Prop} (hn : n ≤ 60) (hT : Txt (μ 167) n c) (e1 : μ 166 1 = nI n) (e2 : μ 166 2 = nI p) (hp : p ≤ n) (h1 : p < n → K (nI (c p)) μ) (h0 : ¬ p < n → K (-1) μ) : x_X1_signHere μ K := by
  unfold x_X1_signHere
  rw [e1, e2, nI_clamp (by omega)]
  refine ⟨fun z => absurd z (nI_nlt (a := p) (b := 0) (by omega) (by omega)), fun _ => ⟨fun z => ?_, fun z => ?_⟩⟩
  · exact h0 (fun w => absurd z (nI_ge w (by omega)))
  · have hlt : p < n := by
      rcases Nat.lt_or_ge p n with w | w
      · exact w
      · exact absurd (nI_le w (by omega)) z
    refine ⟨fun z => absurd z (nI_ge (a := p) (b := 60) (by omega) (by omega)), fun _ => ⟨vp_in_nI (by omega) (by omega), ?_⟩⟩
    rw [(hT p hlt).1]
    exact h1 hlt
theorem q1_pass {n p x : Nat} {c : Nat → Nat} {B : Mem} {ρ : Nat → Int32} {K : Int32 → Mem → Prop} (hn : n ≤ 60) (hT : Txt (B 167) n c) (e1 : ρ 1 = nI n) (e2 : ρ 2 = nI p) (hp : p ≤ n) (hx : x ≤ 126) (h1 : p < n ∧ c p = x → K 1 (um B 166 (upd ρ 2 (nI (p + 1))))) (h0 : ¬ (p < n ∧ c p = x) → K 0 (um B 166 ρ)) : x_X1_pass (nI x) (um B 166 ρ) K := by
  unfold x_X1_pass
  refine q1_sign hn (by rw [um_n (by omega)]; exact hT) (by rw [um_s]; exact e1) (by rw [um_s]; exact e2) hp (fun h => ⟨fun z => ?_, fun z => ?_⟩) (fun h => ⟨fun z => ?_, fun _ => h0 (fun w => h w.1)⟩)
  · have := (nI_eq (by have := hT p h; omega) (by omega)).mp z
    rintro _ rfl
    rw [um_s, e2, nI_1, um_um]
    exact h1 ⟨h, this⟩
  · exact h0 (fun w => z (by rw [w.2]))
  · exfalso
    have : (-1 : Int32) = nI 4294967295 := by decide
    rw [this] at z
    have := congrArg Int32.toInt z
    rw [nI_toInt (n := x) (by omega)] at this
    have e : (nI 4294967295).toInt = -1 := by decide
    omega
theorem q1_digit {n p : Nat} {c : Nat → Nat} {μ : Mem} {K : Int32 → Mem → Prop} (hn : n ≤ 60) (hT : Txt (μ 167) n c) (e1 : μ 166 1 = nI n) (e2 : μ 166 2 = nI p) (hp : p ≤ n) (h1 : p < n → 48 ≤ c p → c p ≤ 57 → K (nI (c p - 48)) μ) (h0 : ¬ (p < n ∧ 48 ≤ c p ∧ c p ≤ 57) → K (-1) μ) : x_X1_digitHere μ K := by
  unfold x_X1_digitHere
  refine q1_sign hn hT e1 e2 hp (fun h => ?_) (fun h => ?_)
  · have hc := hT p h
    apply q5_out
    · intro l1 l2
      have m1 := (nI_leI (a := 48) (by omega) (by omega)).mp l1
      have m2 := (nI_leI (b := 57) (by omega) (by omega)).mp l2
      refine ⟨fun _ => ?_, fun z => absurd rfl z⟩
      rw [show (48 : Int32) = nI 48 from rfl, pk_sub m1]
      exact h1 h m1 m2
    · intro l
      refine ⟨fun z => absurd z (by decide), fun _ => h0 (fun w => l ⟨nI_le (a := 48) w.2.1 (by omega), nI_le (b := 57) w.2.2 (by omega)⟩)⟩
  · apply q5_out
    · intro l1 _
      exact absurd l1 (by decide)
    · intro _
      exact ⟨fun z => absurd z (by decide), fun _ => h0 (fun w => h w.1)⟩
theorem s1_num {K : Int32 → Mem → Prop} {n : Nat} {a2 a4 : Int32} {μ : Mem} (h : xb_X1_readNumber_L29 K (x_X1_readNumber_L29 K n) a2 a4 μ) : x_X1_readNumber_L29 K (n + 1) a2 a4 μ := h
theorem q1_numL {n mx : Nat} {c : Nat → Nat} {B : Mem} {K : Int32 → Mem → Prop} (hn : n ≤ 60) (hT : Txt (B 167) n c) (hmx : mx ≤ 65535) : ∀ (k v p : Nat) (ρ : Nat → Int32), p + k = n → v ≤ mx → ρ 1 = nI n → ρ 2 = nI p → K (nI (numL n c mx k v p).1) (um B 166 (upd ρ 2 (nI (numL n c mx k v p).2))) → x_X1_readNumber_L29 K (k + 1) (nI mx) (nI v) (um B 166 ρ) := by
  intro k
  induction k with
  | zero =>
    intro v p ρ hk hv e1 e2 hK
    refine s1_num ?_
    unfold xb_X1_readNumber_L29
    rw [um_s, e1, e2]
    refine ⟨fun _ => ?_, fun z => absurd (nI_le (a := n) (b := p) (by omega) (by omega)) z⟩
    rw [show upd ρ 2 (nI (numL n c mx 0 v p).2) = ρ by
      funext j
      by_cases hj : j = 2
      · subst hj; rw [upd_s, e2]; rfl
      · rw [upd_n hj]] at hK
    exact hK
  | succ k ih =>
    intro v p ρ hk hv e1 e2 hK
    have hlt : p < n := by omega
    have hc := hT p hlt
    have self : upd ρ 2 (nI p) = ρ := by
      funext j
      by_cases hj : j = 2
      · subst hj; rw [upd_s, e2]
      · rw [upd_n hj]
    unfold numL at hK
    have stop : ¬ (p < n ∧ 0 < v ∧ 48 ≤ c p ∧ c p ≤ 57 ∧ 10 * v + (c p - 48) ≤ mx) → K (nI v) (um B 166 ρ) := by
      intro z
      rw [if_neg z] at hK
      dsimp only at hK
      rw [self] at hK
      exact hK
    refine s1_num ?_
    unfold xb_X1_readNumber_L29
    rw [um_s, e1, e2]
    have t : Txt (um B 166 ρ 167) n c := by rw [um_n (by omega)]; exact hT
    have f1 : um B 166 ρ 166 1 = nI n := by rw [um_s]; exact e1
    have f2 : um B 166 ρ 166 2 = nI p := by rw [um_s]; exact e2
    refine ⟨fun z => absurd z (nI_ge hlt (by omega)), fun _ => ⟨fun z => ?_, fun z => ?_⟩⟩
    · refine stop (fun w => absurd z (nI_ge (a := 0) (b := v) w.2.1 (by omega)))
    · have hv0 : 0 < v := by
        rcases Nat.eq_zero_or_pos v with w | w
        · exact absurd (nI_le (a := v) (b := 0) (by omega) (by omega)) z
        · exact w
      refine q1_digit hn t f1 f2 (by omega) (fun _ m1 m2 => ?_) (fun h => ?_)
      · refine ⟨fun z => absurd z (nI_nlt (a := c p - 48) (b := 0) (by omega) (by omega)), fun _ => ?_⟩
        refine q1_digit hn t f1 f2 (by omega) (fun _ _ _ => ?_) (fun h => absurd ⟨hlt, m1, m2⟩ h)
        rw [show (10 : Int32) = nI 10 from rfl, pk_mul, nI_add]
        refine ⟨fun z => ?_, fun z => ?_⟩
        · refine stop (fun w => ?_)
          have := (nI_ltI (by omega) (by omega)).mp z
          omega
        · have hle : 10 * v + (c p - 48) ≤ mx := by
            rcases Nat.lt_or_ge mx (10 * v + (c p - 48)) with w | w
            · exact absurd (nI_lt w (by omega)) z
            · exact w
          refine q1_digit hn t f1 f2 (by omega) (fun _ _ _ => ?_) (fun h => absurd ⟨hlt, m1, m2⟩ h)
          rintro _ rfl _ rfl
          rw [nI_add, um_um, um_s, e2, nI_1]
          rw [if_pos ⟨hlt, hv0, m1, m2, hle⟩] at hK
          refine ih _ (p + 1) _ (by omega) hle (by rw [upd_n (by omega)]; exact e1) (by rw [upd_s]) ?_
          rw [upd_upd]
          exact hK
      · refine ⟨fun _ => stop (fun w => h ⟨hlt, w.2.2.1, w.2.2.2.1⟩), fun z => absurd (by decide) z⟩
theorem q1_num {n p mn mx : Nat} {c : Nat → Nat} {B : Mem} {ρ : Nat → Int32} {K : Int32 → Mem → Prop} (hn : n ≤ 60) (hT : Txt (B 167) n c) (e1 : ρ 1 = nI n) (e2 : ρ 2 = nI p) (hp : p ≤ n) (hmx : mx ≤ 65535) (hmn : mn ≤ 1) (h1 : nuB n c mn mx p → K (nI (nuV n c mx p)) (um B 166 (upd ρ 2 (nI (nuP n c mx p))))) (h0 : ¬ nuB n c mn mx p → K (-1) (um B 166 ρ)) : x_X1_readNumber (nI mn) (nI mx) (um B 166 ρ) K := by
  unfold x_X1_readNumber
  have t : Txt (um B 166 ρ 167) n c := by rw [um_n (by omega)]; exact hT
  refine q1_digit hn t (by rw [um_s]; exact e1) (by rw [um_s]; exact e2) hp (fun hlt m1 m2 => ?_) (fun h => ?_)
  · have hc := hT p hlt
    apply q5_out
    · intro l1 l2
      have u1 := (nI_leI (by omega) (by omega)).mp l1
      have u2 := (nI_leI (by omega) (by omega)).mp l2
      refine ⟨fun _ => ?_, fun z => absurd rfl z⟩
      rintro _ rfl
      rw [um_s, e2, nI_1, um_um]
      refine ⟨n - (p + 1) + 1, q1_numL hn hT hmx (n - (p + 1)) (c p - 48) (p + 1) _ (by omega) u2 (by rw [upd_n (by omega)]; exact e1) (by rw [upd_s]) ?_⟩
      rw [upd_upd]
      exact h1 ⟨hlt, by omega, m2, by omega⟩
    · intro l
      refine ⟨fun z => absurd z (by decide), fun _ => h0 (fun w => l ⟨nI_le (by have := w.2.1; omega) (by omega), nI_le (by have := w.2.2.2; omega) (by omega)⟩)⟩
  · apply q5_out
    · intro l1 _
      have : ¬ nI mn ≤ -1 := by
        intro z
        have := Int32.le_iff_toInt_le.mp z
        rw [nI_toInt (by omega)] at this
        have e : (-1 : Int32).toInt = -1 := by decide
        omega
      exact absurd l1 this
    · intro _
      exact ⟨fun z => absurd z (by decide), fun _ => h0 (fun w => h ⟨w.1, by have := w.2.1; omega, w.2.2.1⟩)⟩
/-- what an order is: whether it is one, where the reading stands, its sign, its wheel, its numbers -/
def OR (n : Nat) (c : Nat → Nat) (p : Nat) (ok : Int32) (e : Nat → Nat) : Prop :=
  ((p < n ∧ c p = 46) ∧ ((nuB n c 1 999 (p + 1) ∧ ok = 1 ∧ e 0 = nuP n c 999 (p + 1) ∧ e 1 = 46 ∧ e 3 = nuV n c 999 (p + 1)) ∨ (¬ nuB n c 1 999 (p + 1) ∧ ok = 0 ∧ e 0 = p + 1)))
  ∨ ((¬ (p < n ∧ c p = 46)) ∧ ¬ (p < n ∧ 48 ≤ c p ∧ c p ≤ 51) ∧ ok = 0 ∧ e 0 = p)
  ∨ ((¬ (p < n ∧ c p = 46)) ∧ (p < n ∧ 48 ≤ c p ∧ c p ≤ 51) ∧ e 2 = c p - 48 ∧
     ((¬ (p + 1 < n ∧ (c (p + 1) = 62 ∨ c (p + 1) = 111 ∨ c (p + 1) = 115 ∨ c (p + 1) = 116 ∨ c (p + 1) = 118)) ∧ ok = 0 ∧ e 0 = p + 1)
      ∨ (∃ mx, p + 1 < n ∧ e 1 = c (p + 1) ∧ ((c (p + 1) = 115 ∧ mx = 65535) ∨ (c (p + 1) = 116 ∧ mx = 3) ∨ (c (p + 1) = 118 ∧ mx = 16)) ∧ ((nuB n c 0 mx (p + 2) ∧ ok = 1 ∧ e 0 = nuP n c mx (p + 2) ∧ e 3 = nuV n c mx (p + 2)) ∨ (¬ nuB n c 0 mx (p + 2) ∧ ok = 0 ∧ e 0 = p + 2)))
      ∨ (p + 1 < n ∧ c (p + 1) = 111 ∧ ok = 1 ∧ e 0 = p + 2 ∧ e 1 = 111)
      ∨ (p + 1 < n ∧ c (p + 1) = 62 ∧ ((nuB n c 0 65535 (p + 2) ∧ ((nuP n c 65535 (p + 2) < n ∧ c (nuP n c 65535 (p + 2)) = 58 ∧ ((nuB n c 1 999 (nuP n c 65535 (p + 2) + 1) ∧ ok = 1 ∧ e 0 = nuP n c 999 (nuP n c 65535 (p + 2) + 1) ∧ e 1 = 62 ∧ e 3 = nuV n c 65535 (p + 2) ∧ e 4 = nuV n c 999 (nuP n c 65535 (p + 2) + 1)) ∨ (¬ nuB n c 1 999 (nuP n c 65535 (p + 2) + 1) ∧ ok = 0 ∧ e 0 = nuP n c 65535 (p + 2) + 1))) ∨ (¬ (nuP n c 65535 (p + 2) < n ∧ c (nuP n c 65535 (p + 2)) = 58) ∧ ok = 0 ∧ e 0 = nuP n c 65535 (p + 2)))) ∨ (¬ nuB n c 0 65535 (p + 2) ∧ ok = 0 ∧ e 0 = p + 2)))))
/-- what an order that is one asks for -/
def ORG (e : Nat → Nat) : Prop := (e 1 = 46 ∧ 1 ≤ e 3 ∧ e 3 ≤ 999) ∨ (e 2 < 4 ∧ ((e 1 = 62 ∧ e 3 ≤ 65535 ∧ 1 ≤ e 4 ∧ e 4 ≤ 999) ∨ e 1 = 111 ∨ (e 1 = 115 ∧ e 3 ≤ 65535) ∨ (e 1 = 116 ∧ e 3 ≤ 3) ∨ (e 1 = 118 ∧ e 3 ≤ 16)))
theorem OR_rg {n p : Nat} {c : Nat → Nat} {ok : Int32} {e : Nat → Nat} (hp : p ≤ n) (h : OR n c p ok e) : (ok = 0 ∨ ok = 1) ∧ e 0 ≤ n ∧ (ok = 1 → p + 2 ≤ e 0 ∧ ORG e) := by
  have no : ∀ {P : Prop}, ok = 0 → ok = 1 → P := fun a b => absurd (a.symm.trans b) (by decide)
  unfold ORG
  rcases h with ⟨⟨h1, h2⟩, ⟨h3, h4, h5, h6, h7⟩ | ⟨h3, h4, h5⟩⟩ | ⟨h1, h2, h4, h5⟩ | ⟨h1, ⟨h2, h2b, h2c⟩, hw, ⟨h3, h4, h5⟩ | ⟨mx, h3, h3b, h3c, ⟨h4, h5, h6, h7⟩ | ⟨h4, h5, h6⟩⟩ | ⟨h3, h3b, h4, h5, h6⟩ | ⟨h3, h3b, ⟨h4, ⟨h5, h5b, ⟨h6, h7, h8, h9, h10, h11⟩ | ⟨h6, h7, h8⟩⟩ | ⟨h6, h7, h8⟩⟩ | ⟨h4, h5, h6⟩⟩⟩
  · have := nu_rg h3
    exact ⟨Or.inr h4, by omega, fun _ => ⟨by omega, Or.inl ⟨h6, by omega, by omega⟩⟩⟩
  · exact ⟨Or.inl h4, by omega, no h4⟩
  · exact ⟨Or.inl h4, by omega, no h4⟩
  · exact ⟨Or.inl h4, by omega, no h4⟩
  · have := nu_rg h4
    exact ⟨Or.inr h5, by omega, fun _ => ⟨by omega, Or.inr ⟨by omega, by omega⟩⟩⟩
  · exact ⟨Or.inl h5, by omega, no h5⟩
  · exact ⟨Or.inr h4, by omega, fun _ => ⟨by omega, Or.inr ⟨by omega, by omega⟩⟩⟩
  · have a := nu_rg h4
    have b := nu_rg h6
    exact ⟨Or.inr h7, by omega, fun _ => ⟨by omega, Or.inr ⟨by omega, by omega⟩⟩⟩
  · exact ⟨Or.inl h7, by omega, no h7⟩
  · have a := nu_rg h4
    exact ⟨Or.inl h7, by omega, no h7⟩
  · exact ⟨Or.inl h5, by omega, no h5⟩
theorem OR_ex (n : Nat) (c : Nat → Nat) (p : Nat) : ∃ ok e, OR n c p ok e := by
  have f4 : ∀ a b d w z : Nat, ∃ e : Nat → Nat, e 0 = a ∧ e 1 = b ∧ e 2 = w ∧ e 3 = d ∧ e 4 = z := fun a b d w z => ⟨fun j => if j = 0 then a else if j = 1 then b else if j = 2 then w else if j = 3 then d else z, rfl, rfl, rfl, rfl, rfl⟩
  by_cases h1 : p < n ∧ c p = 46
  · by_cases h2 : nuB n c 1 999 (p + 1)
    · obtain ⟨e, e0, e1, e2, e3, e4⟩ := f4 (nuP n c 999 (p + 1)) 46 (nuV n c 999 (p + 1)) 0 0
      exact ⟨1, e, Or.inl ⟨h1, Or.inl ⟨h2, rfl, e0, e1, e3⟩⟩⟩
    · obtain ⟨e, e0, e1, e2, e3, e4⟩ := f4 (p + 1) 0 0 0 0
      exact ⟨0, e, Or.inl ⟨h1, Or.inr ⟨h2, rfl, e0⟩⟩⟩
  · by_cases h2 : p < n ∧ 48 ≤ c p ∧ c p ≤ 51
    · by_cases h3 : p + 1 < n ∧ (c (p + 1) = 62 ∨ c (p + 1) = 111 ∨ c (p + 1) = 115 ∨ c (p + 1) = 116 ∨ c (p + 1) = 118)
      · obtain ⟨h3, h4⟩ := h3
        have num : ∀ mx, ((c (p + 1) = 115 ∧ mx = 65535) ∨ (c (p + 1) = 116 ∧ mx = 3) ∨ (c (p + 1) = 118 ∧ mx = 16)) → ∃ ok e, OR n c p ok e := by
          intro mx hmx
          by_cases h5 : nuB n c 0 mx (p + 2)
          · obtain ⟨e, e0, e1, e2, e3, e4⟩ := f4 (nuP n c mx (p + 2)) (c (p + 1)) (nuV n c mx (p + 2)) (c p - 48) 0
            exact ⟨1, e, Or.inr (Or.inr ⟨h1, h2, e2, Or.inr (Or.inl ⟨mx, h3, e1, hmx, Or.inl ⟨h5, rfl, e0, e3⟩⟩)⟩)⟩
          · obtain ⟨e, e0, e1, e2, e3, e4⟩ := f4 (p + 2) (c (p + 1)) 0 (c p - 48) 0
            exact ⟨0, e, Or.inr (Or.inr ⟨h1, h2, e2, Or.inr (Or.inl ⟨mx, h3, e1, hmx, Or.inr ⟨h5, rfl, e0⟩⟩)⟩)⟩
        rcases h4 with h4 | h4 | h4 | h4 | h4
        · by_cases h5 : nuB n c 0 65535 (p + 2)
          · by_cases h6 : nuP n c 65535 (p + 2) < n ∧ c (nuP n c 65535 (p + 2)) = 58
            · by_cases h7 : nuB n c 1 999 (nuP n c 65535 (p + 2) + 1)
              · obtain ⟨e, e0, e1, e2, e3, e4⟩ := f4 (nuP n c 999 (nuP n c 65535 (p + 2) + 1)) 62 (nuV n c 65535 (p + 2)) (c p - 48) (nuV n c 999 (nuP n c 65535 (p + 2) + 1))
                exact ⟨1, e, Or.inr (Or.inr ⟨h1, h2, e2, Or.inr (Or.inr (Or.inr ⟨h3, h4, Or.inl ⟨h5, Or.inl ⟨h6.1, h6.2, Or.inl ⟨h7, rfl, e0, e1, e3, e4⟩⟩⟩⟩))⟩)⟩
              · obtain ⟨e, e0, e1, e2, e3, e4⟩ := f4 (nuP n c 65535 (p + 2) + 1) 62 0 (c p - 48) 0
                exact ⟨0, e, Or.inr (Or.inr ⟨h1, h2, e2, Or.inr (Or.inr (Or.inr ⟨h3, h4, Or.inl ⟨h5, Or.inl ⟨h6.1, h6.2, Or.inr ⟨h7, rfl, e0⟩⟩⟩⟩))⟩)⟩
            · obtain ⟨e, e0, e1, e2, e3, e4⟩ := f4 (nuP n c 65535 (p + 2)) 62 0 (c p - 48) 0
              exact ⟨0, e, Or.inr (Or.inr ⟨h1, h2, e2, Or.inr (Or.inr (Or.inr ⟨h3, h4, Or.inl ⟨h5, Or.inr ⟨h6, rfl, e0⟩⟩⟩))⟩)⟩
          · obtain ⟨e, e0, e1, e2, e3, e4⟩ := f4 (p + 2) 62 0 (c p - 48) 0
            exact ⟨0, e, Or.inr (Or.inr ⟨h1, h2, e2, Or.inr (Or.inr (Or.inr ⟨h3, h4, Or.inr ⟨h5, rfl, e0⟩⟩))⟩)⟩
        · obtain ⟨e, e0, e1, e2, e3, e4⟩ := f4 (p + 2) 111 0 (c p - 48) 0
          exact ⟨1, e, Or.inr (Or.inr ⟨h1, h2, e2, Or.inr (Or.inr (Or.inl ⟨h3, h4, rfl, e0, e1⟩))⟩)⟩
        · exact num 65535 (Or.inl ⟨h4, rfl⟩)
        · exact num 3 (Or.inr (Or.inl ⟨h4, rfl⟩))
        · exact num 16 (Or.inr (Or.inr ⟨h4, rfl⟩))
      · obtain ⟨e, e0, e1, e2, e3, e4⟩ := f4 (p + 1) 0 0 (c p - 48) 0
        exact ⟨0, e, Or.inr (Or.inr ⟨h1, h2, e2, Or.inl ⟨h3, rfl, e0⟩⟩)⟩
    · obtain ⟨e, e0, e1, e2, e3, e4⟩ := f4 p 0 0 0 0
      exact ⟨0, e, Or.inr (Or.inl ⟨h1, h2, rfl, e0⟩)⟩
