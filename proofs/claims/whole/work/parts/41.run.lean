/-! the fault of a text -/
def fl (n : Nat) (c : Nat → Nat) (ok : Nat → Int32) (e : Nat → Nat → Nat) : Nat → Nat → Int32
  | 0, p => nI p
  | k + 1, p => if ok p = 0 then nI (e p 0) else if e p 0 = n then -6 else if c (e p 0) = 59 then fl n c ok e k (e p 0 + 1) else nI (e p 0)
theorem s1_fl {K : Int32 → Mem → Prop} {n : Nat} {a1 : Int32} {μ : Mem} (h : xb_X1_findFault_L7 K (x_X1_findFault_L7 K n) a1 μ) : x_X1_findFault_L7 K (n + 1) a1 μ := h
theorem s6_fl {K : Int32 → Mem → Prop} {n : Nat} {a1 : Int32} {μ : Mem} (h : xb_X6_faultOf_L15 K (x_X6_faultOf_L15 K n) a1 μ) : x_X6_faultOf_L15 K (n + 1) a1 μ := h
theorem q1_flL {n : Nat} {c : Nat → Nat} {ok : Nat → Int32} {e : Nat → Nat → Nat} {B : Mem} {K : Int32 → Mem → Prop} (hn : n ≤ 60) (hT : Txt (B 167) n c) (hF : ∀ p, OR n c p (ok p) (e p)) : ∀ (k i p : Nat) (ρ : Nat → Int32), i + k = 21 → 3 * i ≤ p → p ≤ n → ρ 1 = nI n → ρ 2 = nI p → (∀ ρ', ρ' 1 = nI n → K (fl n c ok e k p) (um B 166 ρ')) → x_X1_findFault_L7 K (k + 1) (nI i) (um B 166 ρ) := by
  intro k
  induction k with
  | zero => intro i p ρ hi h3 hp; omega
  | succ k ih =>
    intro i p ρ hi h3 hp e1 e2 hK
    obtain ⟨o1, o2, o3⟩ := OR_rg hp (hF p)
    unfold fl at hK
    refine s1_fl ?_
    unfold xb_X1_findFault_L7
    refine ⟨fun z => absurd z (nI_ge (a := i) (b := 60) (by omega) (by omega)), fun _ => ?_⟩
    refine q1_order hn hT e1 e2 hp (hF p) (fun ρ1 g1 g2 _ => ?_)
    rw [um_s, g1, g2]
    refine ⟨fun z => ?_, fun z => ⟨fun z2 => ?_, fun z2 => ?_⟩⟩
    · rw [if_pos z] at hK; exact hK ρ1 g1
    · rw [if_neg z, if_pos ((nI_eq (by omega) (by omega)).mp z2)] at hK
      exact hK ρ1 g1
    · have hne : e p 0 ≠ n := fun w => z2 (by rw [w])
      rw [if_neg z, if_neg hne] at hK
      refine q1_pass (x := 59) hn hT g1 g2 o2 (by omega) (fun h => ?_) (fun h => ?_)
      · rw [if_pos h.2] at hK
        refine ⟨fun z => absurd z (by decide), fun _ => ?_⟩
        rintro _ rfl
        rw [nI_1]
        have := o3 (o1.resolve_left z)
        exact ih (i + 1) (e p 0 + 1) _ (by omega) (by omega) (by omega) (by rw [upd_n (by omega)]; exact g1) (by rw [upd_s]) hK
      · rw [if_neg (fun w => h ⟨by omega, w⟩)] at hK
        refine ⟨fun _ => ?_, fun z => absurd rfl z⟩
        rw [um_s, g2]
        exact hK ρ1 g1
/-- the places of the orders -/
def po (e : Nat → Nat → Nat) : Nat → Nat
  | 0 => 0
  | i + 1 => e (po e i) 0 + 1
/-- the text is one of T orders -/
def LST (n : Nat) (c : Nat → Nat) (ok : Nat → Int32) (e : Nat → Nat → Nat) (T : Nat) : Prop := 1 ≤ T ∧ T ≤ 21 ∧ (∀ i, i < T → ok (po e i) = 1 ∧ po e i ≤ n) ∧ (∀ i, i + 1 < T → e (po e i) 0 < n ∧ c (e (po e i) 0) = 59) ∧ e (po e (T - 1)) 0 = n
theorem q6_flL {n : Nat} {c : Nat → Nat} {ok : Nat → Int32} {e : Nat → Nat → Nat} {B : Mem} {K : Int32 → Mem → Prop} {f9 : Int32} (hn : n ≤ 60) (hT : Txt (B 176) n c) (hF : ∀ p, OR n c p (ok p) (e p)) : ∀ (k m : Nat) (f g : Nat → Int32), m + k = 20 → 3 * m ≤ po e m → po e m ≤ n → f 8 = nI n → f 9 = f9 → f 10 = nI (if ok (po e m) = 1 then m + 1 else m) → f 11 = nI (e (po e m) 0) → (∀ i, i < m → ok (po e i) = 1 ∧ po e i ≤ n ∧ e (po e i) 0 < n ∧ c (e (po e i) 0) = 59 ∧ ORM g i (e (po e i))) → (ok (po e m) = 1 → ORM g m (e (po e m))) → (∀ r f' g', f' 8 = nI n → f' 9 = f9 → ((∃ q, q ≤ n ∧ fl n c ok e (k + 1) (po e m) = nI q ∧ r = nI q) ∨ (fl n c ok e (k + 1) (po e m) = -6 ∧ r = -1 ∧ ∃ T, LST n c ok e T ∧ f' 10 = nI T ∧ ∀ i, i < T → ORM g' i (e (po e i)))) → K r (um (um B 168 f') 175 g')) → x_X6_faultOf_L15 K (k + 2) (ok (po e m)) (um (um B 168 f) 175 g) := by
  intro k
  induction k with
  | zero =>
    intro m f g hm h3 hp e8 e9 e10 e11 hpre hm1 hK
    obtain ⟨o1, o2, o3⟩ := OR_rg hp (hF (po e m))
    have hz : ok (po e m) = 0 := by
      rcases o1 with w | w
      · exact w
      · have := (o3 w).1
        omega
    refine s6_fl ?_
    unfold xb_X6_faultOf_L15
    refine ⟨fun _ => ?_, fun z => absurd hz z⟩
    unfold x_X6_faultOf_L55
    refine ⟨fun _ => ?_, fun z => absurd hz z⟩
    rw [m8, e11]
    refine hK _ f g e8 e9 (Or.inl ⟨e (po e m) 0, o2, ?_, rfl⟩)
    unfold fl
    rw [if_pos hz]
  | succ k ih =>
    intro m f g hm h3 hp e8 e9 e10 e11 hpre hm1 hK
    obtain ⟨o1, o2, o3⟩ := OR_rg hp (hF (po e m))
    have l50 : ∀ f' g', f' 8 = nI n → f' 9 = f9 → f' 11 = nI (e (po e m) 0) → fl n c ok e (k + 1 + 1) (po e m) = nI (e (po e m) 0) → x_X6_faultOf_L15 K (k + 2) 0 (um (um B 168 f') 175 g') := by
      intro f' g' d8 d9 d11 hfl
      refine s6_fl ?_
      unfold xb_X6_faultOf_L15
      refine ⟨fun _ => ?_, fun z => absurd rfl z⟩
      unfold x_X6_faultOf_L55
      refine ⟨fun _ => ?_, fun z => absurd rfl z⟩
      rw [m8, d11]
      exact hK _ f' g' d8 d9 (Or.inl ⟨e (po e m) 0, o2, hfl, rfl⟩)
    refine s6_fl ?_
    unfold xb_X6_faultOf_L15
    refine ⟨fun z => ?_, fun z => ?_⟩
    · unfold x_X6_faultOf_L55
      refine ⟨fun _ => ?_, fun w => absurd z w⟩
      rw [m8, e11]
      refine hK _ f g e8 e9 (Or.inl ⟨e (po e m) 0, o2, ?_, rfl⟩)
      unfold fl
      rw [if_pos z]
    · have hok := o1.resolve_left z
      have hlo := (o3 hok).1
      rw [m8, e8, e11]
      refine ⟨fun z2 => ?_, fun z2 => ?_⟩
      · have hen : e (po e m) 0 = n := by
          rcases Nat.lt_or_ge (e (po e m) 0) n with w | w
          · exact absurd z2 (nI_ge w (by omega))
          · omega
        unfold x_X6_faultOf_L55
        refine ⟨fun w => absurd w z, fun _ => ?_⟩
        refine hK _ f g e8 e9 (Or.inr ⟨?_, rfl, m + 1, ⟨by omega, by omega, fun i hi => ?_, fun i hi => ?_, by rw [Nat.add_sub_cancel]; exact hen⟩, ?_, fun i hi => ?_⟩)
        · unfold fl
          rw [if_neg z, if_pos hen]
        · rcases Nat.lt_or_ge i m with w | w
          · exact ⟨(hpre i w).1, (hpre i w).2.1⟩
          · obtain rfl : i = m := by omega
            exact ⟨hok, hp⟩
        · exact ⟨(hpre i (by omega)).2.2.1, (hpre i (by omega)).2.2.2.1⟩
        · rw [e10, if_pos hok]
        · rcases Nat.lt_or_ge i m with w | w
          · exact (hpre i w).2.2.2.2
          · obtain rfl : i = m := by omega
            exact hm1 hok
      · have hlt : e (po e m) 0 < n := by
          rcases Nat.lt_or_ge (e (po e m) 0) n with w | w
          · exact w
          · exact absurd (nI_le w (by omega)) z2
        refine m_acc (x := 59) hn hT e8 e11 o2 (by omega) (fun h => ?_) (fun h => ?_)
        · refine ⟨fun z => absurd z (by decide), fun _ => ?_⟩
          have epo : po e (m + 1) = e (po e m) 0 + 1 := rfl
          have efl : fl n c ok e (k + 1 + 1) (po e m) = fl n c ok e (k + 1) (po e (m + 1)) := by
            rw [epo]
            conv => lhs; unfold fl
            rw [if_neg z, if_neg (by omega), if_pos h.2]
          rw [efl] at hK
          refine q6_order (m := m + 1) (p := po e (m + 1)) hn hT (by rw [upd_n (by omega)]; exact e8) (by rw [upd_n (by omega), e10, if_pos hok]) (by rw [upd_s, epo]) (by omega) (by omega) (hF _) (fun f' g' d8 d9 d10 d11 dk dm => ?_)
          obtain ⟨q1, q2, q3⟩ := OR_rg (by omega : po e (m + 1) ≤ n) (hF (po e (m + 1)))
          have next : x_X6_faultOf_L15 K (k + 2) (ok (po e (m + 1))) (um (um B 168 f') 175 g') := by
            refine ih (m + 1) f' g' (by omega) (by omega) (by omega) d8 (by rw [d9, upd_n (by omega)]; exact e9) d10 d11 (fun i hi => ?_) dm hK
            have keep : ∀ i, i ≤ m → ORM g i (e (po e i)) → ORM g' i (e (po e i)) := by
              intro i hi h
              unfold ORM
              rw [dk (4 * i) (by omega), dk (4 * i + 1) (by omega), dk (4 * i + 2) (by omega), dk (4 * i + 3) (by omega)]
              exact h
            rcases Nat.lt_or_ge i m with w | w
            · obtain ⟨a1, a2, a3, a4, a5⟩ := hpre i w
              exact ⟨a1, a2, a3, a4, keep i (by omega) a5⟩
            · obtain rfl : i = m := by omega
              exact ⟨hok, hp, hlt, h.2, keep i (by omega) (hm1 hok)⟩
          refine ⟨fun w => ?_, fun w => ?_⟩
          · rw [w] at next; exact next
          · rw [q1.resolve_left w] at next; exact next
        · refine ⟨fun _ => ?_, fun z => absurd rfl z⟩
          refine l50 f g e8 e9 e11 ?_
          unfold fl
          rw [if_neg z, if_neg (by omega), if_neg (fun w => h ⟨hlt, w⟩)]
/-- both faults -/
theorem q1_fault {n : Nat} {c : Nat → Nat} {ok : Nat → Int32} {e : Nat → Nat → Nat} {μ : Mem} {K : Int32 → Mem → Prop} (hn : n ≤ 60) (e1 : μ 166 1 = nI n) (hT : Txt (μ 167) n c) (hF : ∀ p, OR n c p (ok p) (e p)) (hK : ∀ ρ', ρ' 1 = nI n → K (fl n c ok e 21 0) (um μ 166 ρ')) : x_X1_findFault μ K := by
  unfold x_X1_findFault
  rintro _ rfl
  exact ⟨22, q1_flL hn hT hF 21 0 0 _ (by omega) (by omega) (by omega) (by rw [upd_n (by omega)]; exact e1) (by rw [upd_s]; rfl) hK⟩
theorem q6_fault {n : Nat} {c : Nat → Nat} {ok : Nat → Int32} {e : Nat → Nat → Nat} {μ : Mem} {K : Int32 → Mem → Prop} (hn : n ≤ 60) (e8 : μ 168 8 = nI n) (hT : Txt (μ 176) n c) (hF : ∀ p, OR n c p (ok p) (e p)) (hK : ∀ r f' g', f' 8 = nI n → f' 9 = μ 168 9 → ((∃ q, q ≤ n ∧ fl n c ok e 21 0 = nI q ∧ r = nI q) ∨ (fl n c ok e 21 0 = -6 ∧ r = -1 ∧ ∃ T, LST n c ok e T ∧ f' 10 = nI T ∧ ∀ i, i < T → ORM g' i (e (po e i)))) → K r (um (um μ 168 f') 175 g')) : x_X6_faultOf μ K := by
  unfold x_X6_faultOf
  rintro _ rfl _ rfl
  rw [um_s, um_um]
  have e5 : ∀ f, um μ 168 f = um (um μ 168 f) 175 (μ 175) := by
    intro f
    funext q
    by_cases q1 : q = 175
    · subst q1; rw [um_s, um_n (by omega)]
    · rw [um_n q1]
  rw [e5]
  refine q6_order (m := 0) (p := 0) hn hT (by simp [upd, e8]) (by simp [upd]; rfl) (by simp [upd]; rfl) (by omega) (by omega) (hF 0) (fun f' g' d8 d9 d10 d11 dk dm => ?_)
  exact ⟨22, q6_flL (f9 := μ 168 9) hn hT hF 20 0 f' g' (by omega) (by unfold po; omega) (by unfold po; omega) d8 (by rw [d9]; simp [upd]) d10 d11 (fun i hi => absurd hi (by omega)) dm hK⟩
theorem txt_of {μ : Mem} (h : PD μ) : ∃ n c, n ≤ 60 ∧ μ 166 1 = nI n ∧ μ 168 8 = nI n ∧ Txt (μ 167) n c ∧ Txt (μ 176) n c := by
  obtain ⟨n, a, b, d, t⟩ := h
  refine ⟨n, fun k => (μ 167 k).toNatClampNeg, a, b, d, fun k hk => ?_, fun k hk => ?_⟩
  · obtain ⟨t1, t2⟩ := t k hk
    have h0 : 0 ≤ (μ 167 k).toInt := by have := t2.1; omega
    have e := nI_tn h0
    have : ((μ 167 k).toNatClampNeg : Int) = (μ 167 k).toInt := by
      show (((μ 167 k).toInt.toNat : Nat) : Int) = _
      omega
    dsimp only
    exact ⟨e.symm, by have := t2.1; omega, by have := t2.2; omega⟩
  · obtain ⟨t1, t2⟩ := t k hk
    have h0 : 0 ≤ (μ 167 k).toInt := by have := t2.1; omega
    have e := nI_tn h0
    have : ((μ 167 k).toNatClampNeg : Int) = (μ 167 k).toInt := by
      show (((μ 167 k).toInt.toNat : Nat) : Int) = _
      omega
    dsimp only
    exact ⟨by rw [← t1]; exact e.symm, by have := t2.1; omega, by have := t2.2; omega⟩
theorem nI_m6 {q : Nat} (h : q ≤ 60) : ¬ nI q = -6 := by
  intro z
  have := congrArg Int32.toInt z
  rw [nI_toInt (n := q) (by omega)] at this
  have e : (-6 : Int32).toInt = -6 := by decide
  omega
theorem op_fault {ct : Nat} {μ : Mem} (h : Inv ct μ) : x_X5_fault μ (fun r μ1 => x_X6_fault μ1 (fun r' μ2 => r = r' ∧ Inv ct μ2)) := by
  obtain ⟨n, c, hn, e1, e8, t1, t2⟩ : ∃ n c, n ≤ 60 ∧ μ 166 1 = nI n ∧ μ 168 8 = nI n ∧ Txt (μ 167) n c ∧ Txt (μ 176) n c := by
    obtain ⟨S, hl, sl, a1, a2, a3, a4, a5, a6, a7, a8⟩ := h
    exact txt_of a8
  have hpd : PD μ := by
    obtain ⟨S, hl, sl, a1, a2, a3, a4, a5, a6, a7, a8⟩ := h
    exact a8
  obtain ⟨ok, e, hF⟩ : ∃ ok e, ∀ p, OR n c p (ok p) (e p) := ⟨fun p => Classical.choose (OR_ex n c p), fun p => Classical.choose (Classical.choose_spec (OR_ex n c p)), fun p => Classical.choose_spec (Classical.choose_spec (OR_ex n c p))⟩
  unfold x_X5_fault
  refine q1_fault hn e1 t1 hF (fun ρ' g1 => ?_)
  unfold x_X6_fault
  refine q6_fault (n := n) (c := c) (ok := ok) (e := e) hn (by rw [um_n (by omega)]; exact e8) (by rw [um_n (by omega)]; exact t2) hF (fun r f' g' d8 d9 hr => ?_)
  have hi : Inv ct (um (um (um μ 166 ρ') 168 f') 175 g') := by
    refine inv_pad h (fun q q1 q2 q3 q4 q5 q6 => by rw [um_n q4, um_n q3, um_n q1]) (by rw [um_n (by omega), um_s, d9, um_n (by omega)]) ?_
    obtain ⟨n', p1, p2, p3, p4⟩ := hpd
    refine ⟨n', p1, ?_, ?_, fun k hk => ?_⟩
    · rw [um_n (by omega), um_n (by omega), um_s, g1, ← e1]; exact p2
    · rw [um_n (by omega), um_s, d8, ← e8]; exact p3
    · rw [um_n (by omega : 167 ≠ 175), um_n (by omega : 167 ≠ 168), um_n (by omega : 167 ≠ 166), um_n (by omega : 176 ≠ 175), um_n (by omega : 176 ≠ 168), um_n (by omega : 176 ≠ 166)]
      exact p4 k hk
  rcases hr with ⟨q, h1, h2, rfl⟩ | ⟨h1, rfl, -⟩
  · exact ⟨fun _ => ⟨h2, hi⟩, fun z => absurd (nI_le (a := 0) (b := q) (by omega) (by omega)) z⟩
  · exact ⟨fun z => absurd z (by decide), fun _ => ⟨h1, hi⟩⟩
