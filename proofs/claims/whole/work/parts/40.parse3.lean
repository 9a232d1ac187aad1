/-! the reference reads an order -/
theorem um_sw {μ : Mem} {o o' : Nat} {a b : Nat → Int32} (h : o ≠ o') : um (um μ o a) o' b = um (um μ o' b) o a := by
  funext q
  by_cases q1 : q = o
  · subst q1; rw [um_n h, um_s, um_s]
  · rw [um_n q1]
    by_cases q2 : q = o'
    · subst q2; rw [um_s, um_s]
    · rw [um_n q2, um_n q2, um_n q1]
theorem um_3 {B : Mem} {f f' g : Nat → Int32} : um (um (um B 168 f) 175 g) 168 f' = um (um B 168 f') 175 g := by
  rw [um_sw (o := 168) (o' := 175) (by omega), um_um, um_sw (by omega)]
theorem m8 {B : Mem} {f g : Nat → Int32} : um (um B 168 f) 175 g 168 = f := by rw [um_n (by omega), um_s]
theorem m6 {B : Mem} {f g : Nat → Int32} : um (um B 168 f) 175 g 176 = B 176 := by rw [um_n (by omega), um_n (by omega)]
theorem m5 {B : Mem} {f g : Nat → Int32} : um (um B 168 f) 175 g 175 = g := um_s
theorem up_id {f : Nat → Int32} {k : Nat} {x : Int32} (h : f k = x) : upd f k x = f := by
  funext j
  by_cases hj : j = k
  · subst hj; rw [upd_s, h]
  · rw [upd_n hj]
theorem i_add0 (x : Int32) : x + 0 = x := Int32.add_zero x
theorem m_sign {n p lo hi : Nat} {c : Nat → Nat} {B : Mem} {f g : Nat → Int32} {K : Int32 → Mem → Prop} (hn : n ≤ 60) (hT : Txt (B 176) n c) (e8 : f 8 = nI n) (e11 : f 11 = nI p) (hp : p ≤ n) (hlo : lo ≤ 126) (hhi : hi ≤ 126) (h1 : p < n ∧ lo ≤ c p ∧ c p ≤ hi → K 1 (um (um B 168 f) 175 g)) (h0 : ¬ (p < n ∧ lo ≤ c p ∧ c p ≤ hi) → K 0 (um (um B 168 f) 175 g)) : x_X6_isSign (nI lo) (nI hi) (um (um B 168 f) 175 g) K := by
  unfold x_X6_isSign
  rw [m8, m6, e8, e11]
  refine ⟨fun z => h0 (fun w => absurd z (nI_ge w.1 (by omega))), fun z => ?_⟩
  have hlt : p < n := by
    rcases Nat.lt_or_ge p n with w | w
    · exact w
    · exact absurd (nI_le w (by omega)) z
  have hc := hT p hlt
  rw [nI_clamp (by omega), hc.1]
  refine ⟨vp_in_nI (by omega) (by omega), fun z => h0 (fun w => ?_), fun z => ⟨vp_in_nI (by omega) (by omega), fun z2 => h0 (fun w => ?_), fun z2 => h1 ⟨hlt, ?_, ?_⟩⟩⟩
  · have := (nI_ltI (by omega) (by omega)).mp z
    omega
  · have := (nI_ltI (by omega) (by omega)).mp z2
    omega
  · rcases Nat.lt_or_ge (c p) lo with w | w
    · exact absurd (nI_lt w (by omega)) z
    · exact w
  · rcases Nat.lt_or_ge hi (c p) with w | w
    · exact absurd (nI_lt w (by omega)) z2
    · exact w
theorem m_acc {n p x : Nat} {c : Nat → Nat} {B : Mem} {f g : Nat → Int32} {K : Int32 → Mem → Prop} (hn : n ≤ 60) (hT : Txt (B 176) n c) (e8 : f 8 = nI n) (e11 : f 11 = nI p) (hp : p ≤ n) (hx : x ≤ 126) (h1 : p < n ∧ c p = x → K 1 (um (um B 168 (upd f 11 (nI (p + 1)))) 175 g)) (h0 : ¬ (p < n ∧ c p = x) → K 0 (um (um B 168 f) 175 g)) : x_X6_accepts (nI x) (um (um B 168 f) 175 g) K := by
  unfold x_X6_accepts
  refine m_sign hn hT e8 e11 hp hx hx (fun h => ?_) (fun h => ?_)
  · refine ⟨fun z => absurd z (by decide), fun _ => ?_⟩
    rintro _ rfl
    rw [m8, um_3, e11, nI_1]
    exact ⟨Or.inr rfl, h1 ⟨h.1, by omega⟩⟩
  · refine ⟨fun _ => ?_, fun z => absurd rfl z⟩
    rintro _ rfl
    rw [m8, um_3, i_add0, up_id rfl]
    exact ⟨Or.inl rfl, h0 (fun w => h ⟨w.1, by omega⟩)⟩
theorem m_digit {n p m off : Nat} {c : Nat → Nat} {B : Mem} {f g : Nat → Int32} {K : Int32 → Mem → Prop} (hn : n ≤ 60) (hT : Txt (B 176) n c) (e8 : f 8 = nI n) (e10 : f 10 = nI m) (e11 : f 11 = nI p) (hp : p ≤ n) (hm : 4 * m + off < 84) (h1 : p < n ∧ 48 ≤ c p ∧ c p ≤ 51 → K 1 (um (um B 168 (upd f 11 (nI (p + 1)))) 175 (upd g (4 * m + off) (nI (c p - 48))))) (h0 : ¬ (p < n ∧ 48 ≤ c p ∧ c p ≤ 51) → K 0 (um (um B 168 f) 175 (upd g (4 * m + off) 0))) : x_X6_digit (nI off) (um (um B 168 f) 175 g) K := by
  unfold x_X6_digit
  refine m_sign (lo := 48) (hi := 51) hn hT e8 e11 hp (by omega) (by omega) (fun h => ?_) (fun h => ?_)
  · refine ⟨fun z => absurd z (by decide), fun _ => ?_⟩
    rw [m8, m6, e10, e11, nI_clamp (by omega), (hT p h.1).1, show (48 : Int32) = nI 48 from rfl, pk_sub h.2.1, show (4 : Int32) = nI 4 from rfl, pk_mul, nI_add]
    refine ⟨vp_in_nI (by omega) (by omega), ?_⟩
    unfold x_X6_digit_L41
    refine ⟨vp_in_nI hm (by omega), ?_⟩
    rintro _ rfl
    refine ⟨fun z => absurd z (by decide), fun _ => ?_⟩
    rintro _ rfl
    rw [m5, um_um, m8, um_3, e11, nI_1, nI_clamp (by omega)]
    exact ⟨Or.inr rfl, h1 h⟩
  · refine ⟨fun _ => ?_, fun z => absurd rfl z⟩
    rw [m8, e10, show (4 : Int32) = nI 4 from rfl, pk_mul, nI_add]
    unfold x_X6_digit_L41
    refine ⟨vp_in_nI hm (by omega), ?_⟩
    rintro _ rfl
    refine ⟨fun _ => ?_, fun z => absurd rfl z⟩
    rintro _ rfl
    rw [m5, um_um, m8, um_3, i_add0, up_id rfl, nI_clamp (by omega)]
    exact ⟨Or.inl rfl, h0 h⟩
theorem s6_num {K : Int32 → Mem → Prop} {n : Nat} {a3 a4 : Int32} {μ : Mem} (h : xb_X6_number_L69 K (x_X6_number_L69 K n) a3 a4 μ) : x_X6_number_L69 K (n + 1) a3 a4 μ := h
theorem m_numL {n mx a : Nat} {c : Nat → Nat} {B : Mem} {K : Int32 → Mem → Prop} (hn : n ≤ 60) (hT : Txt (B 176) n c) (hmx : mx ≤ 65535) (ha : a < 84) : ∀ (k v p : Nat) (f g : Nat → Int32), p + k = n → v ≤ mx → f 8 = nI n → f 11 = nI p → g a = nI v → K 1 (um (um B 168 (upd f 11 (nI (numL n c mx k v p).2))) 175 (upd g a (nI (numL n c mx k v p).1))) → x_X6_number_L69 K (k + 1) (nI mx) (nI a) (um (um B 168 f) 175 g) := by
  intro k
  induction k with
  | zero =>
    intro v p f g hk hv e8 e11 ea hK
    have hK' : K 1 (um (um B 168 f) 175 g) := by
      rw [show (numL n c mx 0 v p).1 = v from rfl, show (numL n c mx 0 v p).2 = p from rfl, up_id e11, up_id ea] at hK
      exact hK
    refine s6_num ?_
    unfold xb_X6_number_L69
    rw [m5, nI_clamp (by omega), ea]
    refine ⟨vp_in_nI ha (by omega), fun _ => hK', fun _ => ?_⟩
    refine m_sign (lo := 48) (hi := 57) hn hT e8 e11 (by omega) (by omega) (by omega) (fun h => absurd h.1 (by omega)) (fun h => ?_)
    exact ⟨fun _ => hK', fun z => absurd rfl z⟩
  | succ k ih =>
    intro v p f g hk hv e8 e11 ea hK
    have hlt : p < n := by omega
    have hc := hT p hlt
    unfold numL at hK
    have stop : ¬ (p < n ∧ 0 < v ∧ 48 ≤ c p ∧ c p ≤ 57 ∧ 10 * v + (c p - 48) ≤ mx) → K 1 (um (um B 168 f) 175 g) := by
      intro z
      rw [if_neg z] at hK
      dsimp only at hK
      rw [up_id e11, up_id ea] at hK
      exact hK
    refine s6_num ?_
    unfold xb_X6_number_L69
    rw [m5, nI_clamp (by omega), ea]
    refine ⟨vp_in_nI ha (by omega), fun z => stop (fun w => absurd z (nI_ge (a := 0) (b := v) w.2.1 (by omega))), fun z => ?_⟩
    have hv0 : 0 < v := by
      rcases Nat.eq_zero_or_pos v with w | w
      · exact absurd (nI_le (a := v) (b := 0) (by omega) (by omega)) z
      · exact w
    refine m_sign (lo := 48) (hi := 57) hn hT e8 e11 (by omega) (by omega) (by omega) (fun h => ?_) (fun h => ?_)
    · refine ⟨fun z => absurd z (by decide), fun _ => ?_⟩
      rw [m5, m6, m8, e11, nI_clamp (by omega), hc.1, ea, show (10 : Int32) = nI 10 from rfl, pk_mul, nI_add, show (48 : Int32) = nI 48 from rfl, pk_sub (by omega), show 10 * v + c p - 48 = 10 * v + (c p - 48) by omega]
      refine ⟨vp_in_nI ha (by omega), vp_in_nI (by omega) (by omega), fun z => stop (fun w => ?_), fun z => ⟨vp_in_nI ha (by omega), vp_in_nI (by omega) (by omega), vp_in_nI ha (by omega), ?_⟩⟩
      · have := (nI_ltI (by omega) (by omega)).mp z
        omega
      · have hle : 10 * v + (c p - 48) ≤ mx := by
          rcases Nat.lt_or_ge mx (10 * v + (c p - 48)) with w | w
          · exact absurd (nI_lt w (by omega)) z
          · exact w
        rintro _ rfl _ rfl
        rw [um_um, m8, um_3, e11, nI_1]
        rw [if_pos ⟨hlt, hv0, h.2.1, h.2.2, hle⟩] at hK
        refine ih _ (p + 1) _ _ (by omega) hle (by rw [upd_n (by omega)]; exact e8) (by rw [upd_s]) (by rw [upd_s]) ?_
        rw [upd_upd, upd_upd]
        exact hK
    · exact ⟨fun _ => stop (fun w => h ⟨hlt, w.2.2.1, w.2.2.2.1⟩), fun z => absurd rfl z⟩
theorem m_num {n p m off mn mx : Nat} {c : Nat → Nat} {B : Mem} {f g : Nat → Int32} {K : Int32 → Mem → Prop} (hn : n ≤ 60) (hT : Txt (B 176) n c) (e8 : f 8 = nI n) (e10 : f 10 = nI m) (e11 : f 11 = nI p) (hp : p ≤ n) (hm : 4 * m + off < 84) (h9 : 9 ≤ mx) (hmx : mx ≤ 65535) (hmn : mn ≤ 1) (h1 : nuB n c mn mx p → K 1 (um (um B 168 (upd f 11 (nI (nuP n c mx p)))) 175 (upd g (4 * m + off) (nI (nuV n c mx p))))) (h0 : ¬ nuB n c mn mx p → K 0 (um (um B 168 f) 175 (upd g (4 * m + off) 0))) : x_X6_number (nI off) (nI mn) (nI mx) (um (um B 168 f) 175 g) K := by
  unfold x_X6_number
  rintro _ rfl
  rw [m8, e10, show (4 : Int32) = nI 4 from rfl, pk_mul, nI_add]
  refine ⟨vp_in_nI hm (by omega), ?_⟩
  rintro _ rfl
  rw [m5, um_um, nI_clamp (by omega)]
  have main : ∀ lo : Nat, lo = 48 + mn → x_X6_number_L30 K (nI mx) (nI (4 * m + off)) (nI lo) (um (um B 168 f) 175 (upd g (4 * m + off) 0)) := by
    intro lo hlo
    unfold x_X6_number_L30
    refine m_sign (lo := lo) (hi := 57) hn hT e8 e11 (by omega) (by omega) (by omega) (fun h => ?_) (fun h => ?_)
    · refine ⟨fun z => absurd z (by decide), fun _ => ?_⟩
      rw [m6, m8, e11, nI_clamp (by omega), nI_clamp (by omega), (hT p h.1).1, show (48 : Int32) = nI 48 from rfl, pk_sub (by omega)]
      refine ⟨vp_in_nI (by omega) (by omega), vp_in_nI hm (by omega), ?_⟩
      rintro _ rfl _ rfl
      rw [m5, um_um, m8, um_3, e11, nI_1, upd_upd]
      refine ⟨n - (p + 1) + 1, m_numL hn hT hmx hm (n - (p + 1)) (c p - 48) (p + 1) _ _ (by omega) (by omega) (by rw [upd_n (by omega)]; exact e8) (by rw [upd_s]) (by rw [upd_s]) ?_⟩
      rw [upd_upd, upd_upd]
      exact h1 ⟨h.1, by omega, by omega, by omega⟩
    · exact ⟨fun _ => h0 (fun w => h ⟨w.1, by have := w.2.1; omega, w.2.2.1⟩), fun z => absurd rfl z⟩
  refine ⟨fun z => ?_, fun z => ?_⟩
  · have : mn = 0 := (nI_eq (by omega) (by omega)).mp (show nI mn = nI 0 from z)
    exact main 48 (by omega)
  · have : mn ≠ 0 := fun w => z (by rw [w]; rfl)
    exact main 49 (by omega)
theorem q6_order {n p m : Nat} {c : Nat → Nat} {B : Mem} {f g : Nat → Int32} {K : Int32 → Mem → Prop} {ok : Int32} {e : Nat → Nat} (hn : n ≤ 60) (hT : Txt (B 176) n c) (e8 : f 8 = nI n) (e10 : f 10 = nI m) (e11 : f 11 = nI p) (hp : p ≤ n) (hm : 4 * m + 3 < 84) (hO : OR n c p ok e) (hK : ∀ f' g', f' 8 = nI n → f' 9 = f 9 → f' 10 = nI (if ok = 1 then m + 1 else m) → f' 11 = nI (e 0) → (∀ k, k < 4 * m → g' k = g k) → (ok = 1 → ORM g' m e) → K ok (um (um B 168 f') 175 g')) : x_X6_readsOrder (um (um B 168 f) 175 g) K := by
  have no : ∀ {P : Prop}, (0 : Int32) = 1 → P := fun a => absurd a (by decide)
  have fin : ∀ f' g', f' 8 = nI n → f' 9 = f 9 → f' 10 = nI m → f' 11 = nI (e 0) → (∀ k, k < 4 * m → g' k = g k) → (ok = 1 → ORM g' m e) → (ok = 0 ∨ ok = 1) → x_X6_readsOrder_L56 K ok (um (um B 168 f') 175 g') := by
    intro f' g' a1 a2 a3 a4 a5 a6 a7
    unfold x_X6_readsOrder_L56
    rcases a7 with rfl | rfl
    · refine ⟨fun _ => ?_, fun z => absurd rfl z⟩
      rintro _ rfl
      rw [m8, um_3, i_add0, up_id rfl]
      exact ⟨Or.inl rfl, hK f' g' a1 a2 (by rw [if_neg (by decide)]; exact a3) a4 a5 a6⟩
    · refine ⟨fun z => absurd z (by decide), fun _ => ?_⟩
      rintro _ rfl
      rw [m8, um_3, a3, nI_1]
      exact ⟨Or.inr rfl, hK _ g' (by rw [upd_n (by omega)]; exact a1) (by rw [upd_n (by omega)]; exact a2) (by rw [upd_s, if_pos rfl]) (by rw [upd_n (by omega)]; exact a4) a5 a6⟩
  unfold x_X6_readsOrder
  refine m_acc (x := 46) hn hT e8 e11 hp (by omega) (fun h46 => ?_) (fun h46 => ?_)
  · have hA : (nuB n c 1 999 (p + 1) ∧ ok = 1 ∧ e 0 = nuP n c 999 (p + 1) ∧ e 1 = 46 ∧ e 3 = nuV n c 999 (p + 1)) ∨ (¬ nuB n c 1 999 (p + 1) ∧ ok = 0 ∧ e 0 = p + 1) := by
      rcases hO with ⟨-, hA⟩ | ⟨h1, -⟩ | ⟨h1, -⟩
      · exact hA
      · exact absurd h46 h1
      · exact absurd h46 h1
    refine ⟨fun z => absurd z (by decide), fun _ => ?_⟩
    rw [m8, upd_n (by omega : 10 ≠ 11), e10, show (4 : Int32) = nI 4 from rfl, pk_mul, nI_clamp (by omega)]
    refine ⟨vp_in_nI (by omega) (by omega), ?_⟩
    rintro _ rfl
    rw [m5, um_um]
    refine m_num (off := 2) (mn := 1) (mx := 999) (m := m) (p := p + 1) hn hT (by rw [upd_n (by omega)]; exact e8) (by rw [upd_n (by omega)]; exact e10) (by rw [upd_s]) (by omega) (by omega) (by omega) (by omega) (by omega) (fun hb => ?_) (fun hb => ?_)
    · rcases hA with ⟨a1, rfl, a3, a4, a5⟩ | ⟨a1, -⟩
      · refine fin _ _ (by simp [upd, e8]) (by simp [upd]) (by simp [upd, e10]) (by rw [upd_s, a3]) (fun k hk => by rw [upd_n (by omega), upd_n (by omega)]) (fun _ => ⟨by rw [upd_n (by omega), upd_s, a4]; rfl, fun _ => by rw [upd_s, a5], fun z => absurd a4 z, fun z => absurd a4 z, fun z => absurd z (by omega)⟩) (Or.inr rfl)
      · exact absurd hb a1
    · rcases hA with ⟨a1, -⟩ | ⟨a1, rfl, a3⟩
      · exact absurd a1 hb
      · exact fin _ _ (by simp [upd, e8]) (by simp [upd]) (by simp [upd, e10]) (by rw [upd_s, a3]) (fun k hk => by rw [upd_n (by omega), upd_n (by omega)]) no (Or.inl rfl)
  · refine ⟨fun _ => ?_, fun z => absurd rfl z⟩
    refine m_digit (off := 1) (m := m) hn hT e8 e10 e11 hp (by omega) (fun hd => ?_) (fun hd => ?_)
    · refine ⟨fun z => absurd z (by decide), fun _ => ?_⟩
      have hW : e 2 = c p - 48 ∧ ((¬ (p + 1 < n ∧ (c (p + 1) = 62 ∨ c (p + 1) = 111 ∨ c (p + 1) = 115 ∨ c (p + 1) = 116 ∨ c (p + 1) = 118)) ∧ ok = 0 ∧ e 0 = p + 1)
          ∨ (∃ mx, p + 1 < n ∧ e 1 = c (p + 1) ∧ ((c (p + 1) = 115 ∧ mx = 65535) ∨ (c (p + 1) = 116 ∧ mx = 3) ∨ (c (p + 1) = 118 ∧ mx = 16)) ∧ ((nuB n c 0 mx (p + 2) ∧ ok = 1 ∧ e 0 = nuP n c mx (p + 2) ∧ e 3 = nuV n c mx (p + 2)) ∨ (¬ nuB n c 0 mx (p + 2) ∧ ok = 0 ∧ e 0 = p + 2)))
          ∨ (p + 1 < n ∧ c (p + 1) = 111 ∧ ok = 1 ∧ e 0 = p + 2 ∧ e 1 = 111)
          ∨ (p + 1 < n ∧ c (p + 1) = 62 ∧ ((nuB n c 0 65535 (p + 2) ∧ ((nuP n c 65535 (p + 2) < n ∧ c (nuP n c 65535 (p + 2)) = 58 ∧ ((nuB n c 1 999 (nuP n c 65535 (p + 2) + 1) ∧ ok = 1 ∧ e 0 = nuP n c 999 (nuP n c 65535 (p + 2) + 1) ∧ e 1 = 62 ∧ e 3 = nuV n c 65535 (p + 2) ∧ e 4 = nuV n c 999 (nuP n c 65535 (p + 2) + 1)) ∨ (¬ nuB n c 1 999 (nuP n c 65535 (p + 2) + 1) ∧ ok = 0 ∧ e 0 = nuP n c 65535 (p + 2) + 1))) ∨ (¬ (nuP n c 65535 (p + 2) < n ∧ c (nuP n c 65535 (p + 2)) = 58) ∧ ok = 0 ∧ e 0 = nuP n c 65535 (p + 2)))) ∨ (¬ nuB n c 0 65535 (p + 2) ∧ ok = 0 ∧ e 0 = p + 2)))) := by
        rcases hO with ⟨h1, -⟩ | ⟨-, h1, -⟩ | ⟨-, -, h1, h2⟩
        · exact absurd h1 h46
        · exact absurd hd h1
        · exact ⟨h1, h2⟩
      obtain ⟨hw, hR⟩ := hW
      obtain ⟨f1, hf1⟩ : ∃ f1, f1 = upd f 11 (nI (p + 1)) := ⟨_, rfl⟩
      rw [← hf1]
      have d8 : f1 8 = nI n := by rw [hf1, upd_n (by omega)]; exact e8
      have d9 : f1 9 = f 9 := by rw [hf1, upd_n (by omega)]
      have d10 : f1 10 = nI m := by rw [hf1, upd_n (by omega)]; exact e10
      have d11 : f1 11 = nI (p + 1) := by rw [hf1, upd_s]
      have rest : ∀ x : Int32, (p + 1 < n → x = nI (c (p + 1))) → ∀ K' : Int32 → Mem → Prop, (∀ f' g', f' 8 = nI n → f' 9 = f 9 → f' 10 = nI m → f' 11 = nI (e 0) → (∀ k, k < 4 * m → g' k = g k) → (ok = 1 → ORM g' m e) → (ok = 0 ∨ ok = 1) → K' ok (um (um B 168 f') 175 g')) → x_X6_readsRest_L34 K' x (nI (4 * m)) (um (um B 168 f1) 175 (upd g (4 * m + 1) (nI (c p - 48)))) := by
        intro x hx' K' hK'
        unfold x_X6_readsRest_L34
        refine ⟨vp_in_nI (by omega) (by omega), ?_⟩
        rintro _ rfl
        rw [m5, um_um, nI_clamp (by omega)]
        obtain ⟨g1, hg1⟩ : ∃ g1, g1 = upd (upd g (4 * m + 1) (nI (c p - 48))) (4 * m) x := ⟨_, rfl⟩
        rw [← hg1]
        have gk : ∀ k, k < 4 * m → g1 k = g k := fun k hk => by rw [hg1, upd_n (by omega), upd_n (by omega)]
        have g0 : g1 (4 * m) = x := by rw [hg1, upd_s]
        have gw1 : g1 (4 * m + 1) = nI (c p - 48) := by rw [hg1, upd_n (by omega), upd_s]
        have num : ∀ mx : Nat, p + 1 < n → ((c (p + 1) = 115 ∧ mx = 65535) ∨ (c (p + 1) = 116 ∧ mx = 3) ∨ (c (p + 1) = 118 ∧ mx = 16)) → e 1 = c (p + 1) ∧ ((nuB n c 0 mx (p + 2) ∧ ok = 1 ∧ e 0 = nuP n c mx (p + 2) ∧ e 3 = nuV n c mx (p + 2)) ∨ (¬ nuB n c 0 mx (p + 2) ∧ ok = 0 ∧ e 0 = p + 2)) := by
          intro mx hlt hx
          rcases hR with ⟨h1, -⟩ | ⟨mx', -, h1, h2, h3⟩ | ⟨-, h1, -⟩ | ⟨-, h1, -⟩
          · exact absurd ⟨hlt, by omega⟩ h1
          · obtain rfl : mx' = mx := by omega
            exact ⟨h1, h3⟩
          · omega
          · omega
        have dn : ∀ mx : Nat, 9 ≤ mx → mx ≤ 65535 → p + 1 < n → ((c (p + 1) = 115 ∧ mx = 65535) ∨ (c (p + 1) = 116 ∧ mx = 3) ∨ (c (p + 1) = 118 ∧ mx = 16)) → x_X6_number (nI 2) (nI 0) (nI mx) (um (um B 168 (upd f1 11 (nI (p + 1 + 1)))) 175 g1) (fun r μ => zb r ∧ K' r μ) := by
          intro mx h9 h65 hlt hx
          obtain ⟨a0, hA⟩ := num mx hlt hx
          refine m_num (off := 2) (mn := 0) (mx := mx) (m := m) (p := p + 2) hn hT (by rw [upd_n (by omega)]; exact d8) (by rw [upd_n (by omega)]; exact d10) (by rw [upd_s]) (by omega) (by omega) h9 h65 (by omega) (fun hb => ?_) (fun hb => ?_)
          · rcases hA with ⟨a1, rfl, a2, a3⟩ | ⟨a1, -⟩
            · exact ⟨Or.inr rfl, hK' _ _ (by simp [upd, d8]) (by simp [upd, d9]) (by simp [upd, d10]) (by rw [upd_s, a2]) (fun k hk => by rw [upd_n (by omega)]; exact gk k hk) (fun _ => ⟨by rw [upd_n (by omega), g0, hx' hlt, a0], fun z => absurd z (by omega), fun _ => by rw [upd_n (by omega), gw1, hw], fun _ _ => by rw [upd_s, a3], fun z => absurd z (by omega)⟩) (Or.inr rfl)⟩
            · exact absurd hb a1
          · rcases hA with ⟨a1, -⟩ | ⟨a1, rfl, a2⟩
            · exact absurd a1 hb
            · exact ⟨Or.inl rfl, hK' _ _ (by simp [upd, d8]) (by simp [upd, d9]) (by simp [upd, d10]) (by rw [upd_s, a2]) (fun k hk => by rw [upd_n (by omega)]; exact gk k hk) no (Or.inl rfl)⟩
        refine m_acc (x := 115) hn hT d8 d11 (by omega) (by omega) (fun h115 => ⟨fun z => absurd z (by decide), fun _ => dn 65535 (by omega) (by omega) h115.1 (Or.inl ⟨h115.2, rfl⟩)⟩) (fun h115 => ⟨fun _ => ?_, fun z => absurd rfl z⟩)
        refine m_acc (x := 116) hn hT d8 d11 (by omega) (by omega) (fun h116 => ⟨fun z => absurd z (by decide), fun _ => ?_⟩) (fun h116 => ⟨fun _ => ?_, fun z => absurd rfl z⟩)
        · obtain ⟨a0, hA⟩ := num 3 h116.1 (Or.inr (Or.inl ⟨h116.2, rfl⟩))
          refine m_digit (off := 2) (m := m) (p := p + 2) hn hT (by rw [upd_n (by omega)]; exact d8) (by rw [upd_n (by omega)]; exact d10) (by rw [upd_s]) (by omega) (by omega) (fun hb => ?_) (fun hb => ?_)
          · rcases hA with ⟨a1, rfl, a2, a3⟩ | ⟨a1, -⟩
            · obtain ⟨v3, p3⟩ := nu_3 (n := n) hb.2.2
              exact ⟨Or.inr rfl, hK' _ _ (by simp [upd, d8]) (by simp [upd, d9]) (by simp [upd, d10]) (by rw [upd_s, a2, p3]) (fun k hk => by rw [upd_n (by omega)]; exact gk k hk) (fun _ => ⟨by rw [upd_n (by omega), g0, hx' h116.1, a0], fun z => absurd z (by omega), fun _ => by rw [upd_n (by omega), gw1, hw], fun _ _ => by rw [upd_s, a3, v3], fun z => absurd z (by omega)⟩) (Or.inr rfl)⟩
            · exact absurd ⟨hb.1, by omega, by omega, by omega⟩ a1
          · rcases hA with ⟨a1, -⟩ | ⟨a1, rfl, a2⟩
            · exact absurd ⟨a1.1, by have := a1.2.1; omega, by have := a1.2.2.2; omega⟩ hb
            · exact ⟨Or.inl rfl, hK' _ _ (by simp [upd, d8]) (by simp [upd, d9]) (by simp [upd, d10]) (by rw [upd_s, a2]) (fun k hk => by rw [upd_n (by omega)]; exact gk k hk) no (Or.inl rfl)⟩
        refine m_acc (x := 118) hn hT d8 d11 (by omega) (by omega) (fun h118 => ⟨fun z => absurd z (by decide), fun _ => dn 16 (by omega) (by omega) h118.1 (Or.inr (Or.inr ⟨h118.2, rfl⟩))⟩) (fun h118 => ⟨fun _ => ?_, fun z => absurd rfl z⟩)
        refine m_acc (x := 62) hn hT d8 d11 (by omega) (by omega) (fun h62 => ⟨fun z => absurd z (by decide), fun _ => ?_⟩) (fun h62 => ⟨fun _ => ?_, fun z => absurd rfl z⟩)
        · have hS : (nuB n c 0 65535 (p + 2) ∧ ((nuP n c 65535 (p + 2) < n ∧ c (nuP n c 65535 (p + 2)) = 58 ∧ ((nuB n c 1 999 (nuP n c 65535 (p + 2) + 1) ∧ ok = 1 ∧ e 0 = nuP n c 999 (nuP n c 65535 (p + 2) + 1) ∧ e 1 = 62 ∧ e 3 = nuV n c 65535 (p + 2) ∧ e 4 = nuV n c 999 (nuP n c 65535 (p + 2) + 1)) ∨ (¬ nuB n c 1 999 (nuP n c 65535 (p + 2) + 1) ∧ ok = 0 ∧ e 0 = nuP n c 65535 (p + 2) + 1))) ∨ (¬ (nuP n c 65535 (p + 2) < n ∧ c (nuP n c 65535 (p + 2)) = 58) ∧ ok = 0 ∧ e 0 = nuP n c 65535 (p + 2)))) ∨ (¬ nuB n c 0 65535 (p + 2) ∧ ok = 0 ∧ e 0 = p + 2) := by
            have hx := h62.2
            have hlt := h62.1
            rcases hR with ⟨h1, -⟩ | ⟨mx', -, h1, h2, h3⟩ | ⟨-, h1, -⟩ | ⟨-, -, h1⟩
            · exact absurd ⟨hlt, by omega⟩ h1
            · omega
            · omega
            · exact h1
          refine m_num (off := 2) (mn := 0) (mx := 65535) (m := m) (p := p + 2) hn hT (by rw [upd_n (by omega)]; exact d8) (by rw [upd_n (by omega)]; exact d10) (by rw [upd_s]) (by omega) (by omega) (by omega) (by omega) (by omega) (fun hb => ?_) (fun hb => ?_)
          · refine ⟨fun z => absurd z (by decide), fun _ => ?_⟩
            have hr := nu_rg hb
            rcases hS with ⟨-, hS⟩ | ⟨a1, -⟩
            · refine m_acc (x := 58) (p := nuP n c 65535 (p + 2)) hn hT (by simp [upd, d8]) (by rw [upd_s]) hr.2.2.2 (by omega) (fun h58 => ?_) (fun h58 => ?_)
              · refine ⟨fun z => absurd z (by decide), fun _ => ?_⟩
                rcases hS with ⟨-, -, hS⟩ | ⟨a1, -⟩
                · refine m_num (off := 3) (mn := 1) (mx := 999) (m := m) (p := nuP n c 65535 (p + 2) + 1) hn hT (by simp [upd, d8]) (by simp [upd, d10]) (by rw [upd_s]) (by omega) (by omega) (by omega) (by omega) (by omega) (fun hb2 => ?_) (fun hb2 => ?_)
                  · refine ⟨fun z => absurd z (by decide), fun _ => ?_⟩
                    rcases hS with ⟨a1, rfl, a3, a4, a5, a6⟩ | ⟨a1, -⟩
                    · exact hK' _ _ (by simp [upd, d8]) (by simp [upd, d9]) (by simp [upd, d10]) (by rw [upd_s, a3]) (fun k hk => by rw [upd_n (by omega), upd_n (by omega)]; exact gk k hk) (fun _ => ⟨by rw [upd_n (by omega), upd_n (by omega), g0, hx' h62.1, h62.2, a4], fun z => absurd z (by omega), fun _ => by rw [upd_n (by omega), upd_n (by omega), gw1, hw], fun _ _ => by rw [upd_n (by omega), upd_s, a5], fun _ => by rw [upd_s, a6]⟩) (Or.inr rfl)
                    · exact absurd hb2 a1
                  · refine ⟨fun _ => ?_, fun z => absurd rfl z⟩
                    rcases hS with ⟨a1, -⟩ | ⟨a1, rfl, a3⟩
                    · exact absurd a1 hb2
                    · exact hK' _ _ (by simp [upd, d8]) (by simp [upd, d9]) (by simp [upd, d10]) (by rw [upd_s, a3]) (fun k hk => by rw [upd_n (by omega), upd_n (by omega)]; exact gk k hk) no (Or.inl rfl)
                · exact absurd h58 a1
              · refine ⟨fun _ => ?_, fun z => absurd rfl z⟩
                rcases hS with ⟨a1, a2, -⟩ | ⟨a1, rfl, a3⟩
                · exact absurd ⟨a1, a2⟩ h58
                · exact hK' _ _ (by simp [upd, d8]) (by simp [upd, d9]) (by simp [upd, d10]) (by rw [upd_s, a3]) (fun k hk => by rw [upd_n (by omega)]; exact gk k hk) no (Or.inl rfl)
            · exact absurd hb a1
          · refine ⟨fun _ => ?_, fun z => absurd rfl z⟩
            rcases hS with ⟨a1, -⟩ | ⟨a1, rfl, a3⟩
            · exact absurd a1 hb
            · exact hK' _ _ (by simp [upd, d8]) (by simp [upd, d9]) (by simp [upd, d10]) (by rw [upd_s, a3]) (fun k hk => by rw [upd_n (by omega)]; exact gk k hk) no (Or.inl rfl)
        · refine m_acc (x := 111) hn hT d8 d11 (by omega) (by omega) (fun h111 => ?_) (fun h111 => ?_)
          · have hS : ok = 1 ∧ e 0 = p + 2 ∧ e 1 = 111 := by
              have hx := h111.2
              have hlt := h111.1
              rcases hR with ⟨h1, -⟩ | ⟨mx', -, h1, h2, h3⟩ | ⟨-, -, h1⟩ | ⟨-, h1, -⟩
              · exact absurd ⟨hlt, by omega⟩ h1
              · omega
              · exact h1
              · omega
            obtain ⟨rfl, a3, a4⟩ := hS
            exact ⟨Or.inr rfl, hK' _ _ (by simp [upd, d8]) (by simp [upd, d9]) (by simp [upd, d10]) (by rw [upd_s, a3]) gk (fun _ => ⟨by rw [g0, hx' h111.1, h111.2, a4], fun z => absurd z (by omega), fun _ => by rw [gw1, hw], fun _ z => absurd a4 z, fun z => absurd z (by omega)⟩) (Or.inr rfl)⟩
          · have hS : ok = 0 ∧ e 0 = p + 1 := by
              rcases hR with ⟨-, h1⟩ | ⟨mx', h0, h1, h2, h3⟩ | ⟨h0, h1, -⟩ | ⟨h0, h1, -⟩
              · exact h1
              · rcases h2 with ⟨h2, -⟩ | ⟨h2, -⟩ | ⟨h2, -⟩
                · exact absurd ⟨h0, h2⟩ h115
                · exact absurd ⟨h0, h2⟩ h116
                · exact absurd ⟨h0, h2⟩ h118
              · exact absurd ⟨h0, h1⟩ h111
              · exact absurd ⟨h0, h1⟩ h62
            obtain ⟨rfl, a3⟩ := hS
            exact ⟨Or.inl rfl, hK' _ _ d8 d9 d10 (by rw [d11, a3]) gk no (Or.inl rfl)⟩
      have fin2 : ∀ f' g', f' 8 = nI n → f' 9 = f 9 → f' 10 = nI m → f' 11 = nI (e 0) → (∀ k, k < 4 * m → g' k = g k) → (ok = 1 → ORM g' m e) → (ok = 0 ∨ ok = 1) → (ok = 0 → x_X6_readsOrder_L54 K (um (um B 168 f') 175 g')) ∧ (¬ ok = 0 → x_X6_readsOrder_L55 K 1 (um (um B 168 f') 175 g')) := by
        intro f' g' a1 a2 a3 a4 a5 a6 a7
        have := fin f' g' a1 a2 a3 a4 a5 a6 a7
        rcases a7 with rfl | rfl
        · exact ⟨fun _ => this, fun z => absurd rfl z⟩
        · exact ⟨fun z => absurd z (by decide), fun _ => this⟩
      unfold x_X6_readsRest
      rw [m8, d8, d10, d11, show (4 : Int32) = nI 4 from rfl, pk_mul]
      refine ⟨fun z => ?_, fun z => ?_⟩
      · exact rest 0 (fun w => absurd z (nI_ge w (by omega))) _ fin2
      · have hlt : p + 1 < n := by
          rcases Nat.lt_or_ge (p + 1) n with w | w
          · exact w
          · exact absurd (nI_le w (by omega)) z
        rw [m6, nI_clamp (by omega), (hT (p + 1) hlt).1]
        exact ⟨vp_in_nI (by omega) (by omega), rest _ (fun _ => rfl) _ fin2⟩
    · have hS : ok = 0 ∧ e 0 = p := by
        rcases hO with ⟨h1, -⟩ | ⟨-, -, h1⟩ | ⟨-, h1, -⟩
        · exact absurd h1 h46
        · exact h1
        · exact absurd h1 hd
      obtain ⟨rfl, a3⟩ := hS
      refine ⟨fun _ => ?_, fun z => absurd rfl z⟩
      exact fin _ _ e8 rfl e10 (by rw [e11, a3]) (fun k hk => by rw [upd_n (by omega)]) no (Or.inl rfl)
