/-! run -/
theorem s5_run {K : Int32 → Mem → Prop} {n : Nat} {a1 a2 : Int32} {μ : Mem} (h : xb_X5_run_L38 K (x_X5_run_L38 K n) a1 a2 μ) : x_X5_run_L38 K (n + 1) a1 a2 μ := h
theorem s6_run {K : Int32 → Mem → Prop} {n : Nat} {a1 a2 : Int32} {μ : Mem} (h : xb_X6_run_L18 K (x_X6_run_L18 K n) a1 a2 μ) : x_X6_run_L18 K (n + 1) a1 a2 μ := h
theorem run_ex {n T : Nat} {c : Nat → Nat} {ok : Nat → Int32} {e : Nat → Nat → Nat} (hn : n ≤ 60) (hF : ∀ p, OR n c p (ok p) (e p)) (hL : LST n c ok e T) : ∀ (k i : Nat) (σ : Nat → Int32), i + k = T → Wf 999999 σ → ∃ (σT : Nat → Int32) (d : Nat), Wf 999999 σT ∧ d ≤ k ∧
    (∀ (B : Mem) (ρ : Nat → Int32) (K : Int32 → Mem → Prop) (a : Nat), Snd B 1 σ → Txt (B 167) n c → ρ 1 = nI n → ρ 2 = nI (if i < T then po e i else n) → (∀ B' ρ', Snd B' 1 σT → Fr 1 17 B B' → ρ' 1 = 0 → K (nI (a + d)) (um B' 166 ρ')) → x_X5_run_L38 K (k + 1) (nI a) (nI i) (um B 166 ρ)) ∧
    (∀ (M : Mem) (K : Int32 → Mem → Prop) (a : Nat), M 169 = σ → M 168 10 = nI T → (∀ j, i ≤ j → j < T → ORM (M 175) j (e (po e j))) → x_X6_recorded (nI (a + d)) (um (um M 169 σT) 168 (upd (M 168) 8 0)) (fun r8 μ7 => K r8 μ7) → x_X6_run_L18 K (k + 1) (nI a) (nI i) M) := by
  obtain ⟨hT1, hT21, hok, hsep, hend⟩ := hL
  intro k
  induction k with
  | zero =>
    intro i σ hi hf
    obtain rfl : i = T := by omega
    refine ⟨σ, 0, hf, by omega, fun B ρ K a hs hT e1 e2 hK => ?_, fun M K a hM hM10 hO hK => ?_⟩
    · refine s5_run ?_
      unfold xb_X5_run_L38
      refine ⟨fun z => absurd z (nI_ge (a := i) (b := 60) (by omega) (by omega)), fun _ => ?_⟩
      rw [if_neg (by omega)] at e2
      obtain ⟨o1, o2, o3⟩ := OR_rg (Nat.le_refl n) (hF n)
      have hz : ok n = 0 := by
        rcases o1 with w | w
        · exact w
        · have := (o3 w).1
          omega
      refine q1_order hn hT e1 e2 (Nat.le_refl n) (hF n) (fun ρ' g1 g2 _ => ?_)
      rw [hz]
      refine ⟨fun _ => ?_, fun z => absurd rfl z⟩
      rintro _ rfl
      rw [um_s, um_um]
      exact hK B _ hs Fr.rfl (by rw [upd_s])
    · refine s6_run ?_
      unfold xb_X6_run_L18
      rw [hM10]
      refine ⟨fun _ => ?_, fun z => absurd (nI_le (a := i) (b := i) (by omega) (by omega)) z⟩
      rintro _ rfl
      rw [← hM, um_self] at hK
      exact hK
  | succ k ih =>
    intro i σ hi hf
    have hlt : i < T := by omega
    obtain ⟨k1, kp⟩ := hok i hlt
    obtain ⟨o1, o2, o3⟩ := OR_rg kp (hF (po e i))
    obtain ⟨b, σ', hf', hb, hC, hMd⟩ := do1 hf (o3 k1).2
    obtain ⟨σT, d, hfT, hd, ihC, ihM⟩ := ih (i + 1) σ' (by omega) hf'
    have hbn : ∃ bn : Nat, bn ≤ 1 ∧ b = nI bn := by
      rcases hb with rfl | rfl
      · exact ⟨0, by omega, rfl⟩
      · exact ⟨1, by omega, rfl⟩
    obtain ⟨bn, hbn1, rfl⟩ := hbn
    refine ⟨σT, bn + d, hfT, by omega, fun B ρ K a hs hT e1 e2 hK => ?_, fun M K a hM hM10 hO hK => ?_⟩
    · refine s5_run ?_
      unfold xb_X5_run_L38
      rw [if_pos hlt] at e2
      refine ⟨fun z => absurd z (nI_ge (a := i) (b := 60) (by omega) (by omega)), fun _ => ?_⟩
      refine q1_order hn hT e1 e2 kp (hF (po e i)) (fun ρ1 g1 g2 g3 => ?_)
      rw [k1]
      refine ⟨fun z => absurd z (by decide), fun _ => ?_⟩
      refine hC (um B 166 ρ1) _ (hs.fr (fun q q1 q2 => um_n (by omega))) (by rw [um_s]; exact g3 k1) (fun μ' hs' hfr => ?_)
      have e166 : μ' 166 = ρ1 := by rw [hfr 166 (by omega), um_s]
      have e167 : μ' 167 = B 167 := by rw [hfr 167 (by omega), um_n (by omega)]
      have eself : um μ' 166 ρ1 = μ' := by rw [← e166, um_self]
      have l64 : ∀ a' : Nat, a' + d = a + (bn + d) → x_X5_run_L64 K (x_X5_run_L38 K (k + 1)) (nI a') (nI i) μ' := by
        intro a' ha'
        unfold x_X5_run_L64
        have next : ∀ ρ2 : Nat → Int32, ρ2 1 = nI n → ρ2 2 = nI (if i + 1 < T then po e (i + 1) else n) → x_X5_run_L38 K (k + 1) (nI a') (nI (i + 1)) (um μ' 166 ρ2) := by
          intro ρ2 h1 h2
          refine ihC μ' ρ2 K a' hs' (by rw [e167]; exact hT) h1 h2 (fun B' ρ' u1 u2 u3 => ?_)
          rw [ha']
          have := hK (um B' 166 (B 166)) ρ' (u1.fr (fun q q1 q2 => um_n (by omega))) (fun q hq => ?_) u3
          · rw [um_um] at this
            exact this
          · by_cases q6 : q = 166
            · subst q6; rw [um_s]
            · rw [um_n q6, u2 q hq, hfr q hq, um_n q6]
        rw [← eself]
        refine q1_pass (x := 59) hn (by rw [e167]; exact hT) g1 g2 o2 (by omega) (fun h => ?_) (fun h => ?_)
        · rintro _ rfl
          rw [nI_1]
          refine next _ (by rw [upd_n (by omega)]; exact g1) ?_
          rw [upd_s]
          have : i + 1 < T := by
            rcases Nat.lt_or_ge (i + 1) T with w | w
            · exact w
            · obtain rfl : i = T - 1 := by omega
              have := h.1
              omega
          rw [if_pos this]
          rfl
        · rintro _ rfl
          rw [nI_1]
          refine next _ g1 ?_
          have : ¬ i + 1 < T := fun w => h (hsep i w)
          obtain rfl : i = T - 1 := by omega
          rw [g2, if_neg this, hend]
      have hb2 : bn = 0 ∨ bn = 1 := by omega
      rcases hb2 with rfl | rfl
      · exact ⟨fun _ => l64 a (by omega), fun z => absurd rfl z⟩
      · refine ⟨fun z => absurd z (by decide), fun _ => ?_⟩
        rintro _ rfl
        rw [nI_1]
        exact l64 (a + 1) (by omega)
    · refine s6_run ?_
      unfold xb_X6_run_L18
      rw [hM10]
      refine ⟨fun z => absurd z (nI_ge hlt (by omega)), fun _ => ?_⟩
      refine hMd M _ i hM (hO i (by omega) hlt) (by omega) (fun r r1 r2 => ?_)
      have l40 : ∀ x : Nat, a + x = a + bn → x_X6_run_L40 K (x_X6_run_L18 K (k + 1)) (nI i) (nI x) (nI a) (um M 169 σ') := by
        intro x hx
        unfold x_X6_run_L40
        rintro _ rfl _ rfl
        rw [nI_add, nI_1]
        refine ihM (um M 169 σ') K (a + x) um_s (by rw [um_n (by omega)]; exact hM10) (fun j j1 j2 => by rw [um_n (by omega)]; exact hO j (by omega) j2) ?_
        rw [um_um, um_n (by omega), show a + x + d = a + (bn + d) by omega]
        exact hK
      refine ⟨fun z => ?_, fun z => ?_⟩
      · have := r1 z
        have : bn = 0 := (nI_eq (by omega) (by omega)).mp (show nI bn = nI 0 from this)
        exact l40 0 (by omega)
      · have := r2 z
        have : bn = 1 := (nI_eq (by omega) (by omega)).mp (show nI bn = nI 1 from this)
        exact l40 1 (by omega)
theorem fl_LST {n : Nat} {c : Nat → Nat} {ok : Nat → Int32} {e : Nat → Nat → Nat} (hn : n ≤ 60) (hF : ∀ p, OR n c p (ok p) (e p)) : ∀ (k m : Nat), m + k = 21 → 3 * m ≤ po e m → po e m ≤ n → (∀ i, i < m → ok (po e i) = 1 ∧ po e i ≤ n ∧ e (po e i) 0 < n ∧ c (e (po e i) 0) = 59) → fl n c ok e k (po e m) = -6 → ∃ T, LST n c ok e T := by
  intro k
  induction k with
  | zero => intro m hm h3 hp; omega
  | succ k ih =>
    intro m hm h3 hp hpre hfl
    obtain ⟨o1, o2, o3⟩ := OR_rg hp (hF (po e m))
    unfold fl at hfl
    by_cases z : ok (po e m) = 0
    · rw [if_pos z] at hfl
      exact absurd hfl (nI_m6 (by omega))
    · have hok := o1.resolve_left z
      have hlo := (o3 hok).1
      rw [if_neg z] at hfl
      by_cases hen : e (po e m) 0 = n
      · refine ⟨m + 1, by omega, by omega, fun i hi => ?_, fun i hi => ?_, by rw [Nat.add_sub_cancel]; exact hen⟩
        · rcases Nat.lt_or_ge i m with w | w
          · exact ⟨(hpre i w).1, (hpre i w).2.1⟩
          · obtain rfl : i = m := by omega
            exact ⟨hok, hp⟩
        · exact ⟨(hpre i (by omega)).2.2.1, (hpre i (by omega)).2.2.2⟩
      · rw [if_neg hen] at hfl
        by_cases h59 : c (e (po e m) 0) = 59
        · rw [if_pos h59] at hfl
          have epo : po e (m + 1) = e (po e m) 0 + 1 := rfl
          refine ih (m + 1) (by omega) (by omega) (by omega) (fun i hi => ?_) hfl
          rcases Nat.lt_or_ge i m with w | w
          · exact hpre i w
          · obtain rfl : i = m := by omega
            exact ⟨hok, hp, by omega, h59⟩
        · rw [if_neg h59] at hfl
          exact absurd hfl (nI_m6 (by omega))
theorem LST_one {n T T' : Nat} {c : Nat → Nat} {ok : Nat → Int32} {e : Nat → Nat → Nat} (h : LST n c ok e T) (h' : LST n c ok e T') : T = T' := by
  obtain ⟨b1, b2, b3, b4, b5⟩ := h
  obtain ⟨d1, d2, d3, d4, d5⟩ := h'
  rcases Nat.lt_or_ge T T' with w | w
  · have := (d4 (T - 1) (by omega)).1
    omega
  · rcases Nat.lt_or_ge T' T with v | v
    · have := (b4 (T' - 1) (by omega)).1
      omega
    · omega
theorem op_run {ct : Nat} {μ : Mem} (h : Inv (ct + 1) μ) : x_X5_run μ (fun r μ1 => x_X6_run μ1 (fun r' μ2 => r = r' ∧ Inv ct μ2)) := by
  obtain ⟨S, hl, sl, hx⟩ := id h
  obtain ⟨a1, a2, a3, a4, ⟨a5, a5b⟩, a6, a7, a8⟩ := id hx
  obtain ⟨n, c, hn, e1, e8, t1, t2⟩ := txt_of a8
  obtain ⟨ok, e, hF⟩ : ∃ ok e, ∀ p, OR n c p (ok p) (e p) := ⟨fun p => Classical.choose (OR_ex n c p), fun p => Classical.choose (Classical.choose_spec (OR_ex n c p)), fun p => Classical.choose_spec (Classical.choose_spec (OR_ex n c p))⟩
  unfold x_X5_run
  refine q1_fault hn e1 t1 hF (fun ρ0 g1 => ?_)
  by_cases hfl : fl n c ok e 21 0 = -6
  · refine ⟨fun _ => ?_, fun z => absurd hfl z⟩
    -- the list of the orders is found with the reference's own reading
    obtain ⟨T, hL⟩ : ∃ T, LST n c ok e T := fl_LST hn hF 21 0 (by omega) (by unfold po; omega) (by unfold po; omega) (fun i hi => absurd hi (by omega)) hfl
    have hT1 := hL.1
    have hT21 := hL.2.1
    obtain ⟨σT, d, hfT, hd, hCl, hMl⟩ := run_ex hn hF hL T 0 (μ 169) (by omega) a2
    refine q0_keep (μ := um μ 166 ρ0) (S := S) (hl := hl) (σ := μ 169) (a4.fr (fun q _ q2 => um_n (by omega))) a3 (a1.fr (fun q _ q2 => um_n (by omega))) a2 (fun μ4 hH hs hFr => ?_)
    rintro _ rfl
    have e4 : μ4 166 = ρ0 := by rw [hFr 166 (by omega), um_s]
    have e47 : μ4 167 = μ 167 := by rw [hFr 167 (by omega), um_n (by omega)]
    refine ⟨T + 1, hCl μ4 _ _ 0 hs (by rw [e47]; exact t1) (by rw [upd_n (by omega), e4]; exact g1) (by rw [upd_s, if_pos (by omega)]; rfl) (fun B' ρ' u1 u2 u3 => ?_)⟩
    rw [Nat.zero_add]
    have eB : ∀ q, (q < 1 ∨ 131 ≤ q) → q ≠ 166 → B' q = μ q := fun q q1 q2 => by rw [u2 q (by omega), hFr q (by omega), um_n q2]
    show x_X6_run (um B' 166 ρ') _
    unfold x_X6_run
    refine q6_fault (n := n) (c := c) (ok := ok) (e := e) hn (by rw [um_n (by omega), eB _ (by omega) (by omega)]; exact e8) (by rw [um_n (by omega), eB _ (by omega) (by omega)]; exact t2) hF (fun r f' g' d8 d9 hr => ?_)
    rcases hr with ⟨q, h1, h2, -⟩ | ⟨-, rfl, T', hL', d10, hO⟩
    · exact absurd (h2.symm.trans hfl) (nI_m6 (by omega))
    · obtain rfl := LST_one hL hL'
      refine ⟨fun _ => ?_, fun z => absurd (by decide) z⟩
      apply q6_hold
      intro r hr
      obtain ⟨M, hM⟩ : ∃ M, M = um (um (um (um B' 166 ρ') 168 f') 175 g') 170 r := ⟨_, rfl⟩
      rw [← hM]
      have eM : ∀ q, (q < 1 ∨ 131 ≤ q) → q ≠ 166 → q ≠ 168 → q ≠ 175 → q ≠ 170 → M q = μ q := fun q q1 q2 q3 q4 q5 => by rw [hM, um_n q5, um_n q4, um_n q3, um_n q2]; exact eB q q1 q2
      have eM8 : M 168 = f' := by rw [hM, um_n (by omega), um_n (by omega), um_s]
      have eM5 : M 175 = g' := by rw [hM, um_n (by omega), um_s]
      have eM0 : M 170 = r := by rw [hM, um_s]
      have eM6 : M 166 = ρ' := by rw [hM, um_n (by omega), um_n (by omega), um_n (by omega), um_s]
      have eML : ∀ q, q < 166 → M q = B' q := fun q q1 => by rw [hM, um_n (by omega), um_n (by omega), um_n (by omega), um_n (by omega)]
      have d9' : f' 9 = nI S := by rw [d9, um_n (by omega), eB _ (by omega) (by omega)]; exact a5
      have r169 : ∀ k, k < 166 → r k = μ 169 k := fun k hk => by
        rw [hr k hk, um_n (by omega), um_n (by omega), um_n (by omega), eB _ (by omega) (by omega)]
      refine ⟨T + 1, hMl M _ 0 (eM _ (by omega) (by omega) (by omega) (by omega) (by omega)) (by rw [eM8]; exact d10) (fun j _ j2 => by rw [eM5]; exact hO j j2) ?_⟩
      rw [Nat.zero_add]
      refine q6_recorded (S := S) (hl := hl) (σ := μ 169) (by rw [um_s, upd_n (by omega), eM8]; exact d9') (by rw [um_n (by omega), um_n (by omega), eM _ (by omega) (by omega) (by omega) (by omega) (by omega)]; exact a5b) a3 (fun k hk => by rw [um_n (by omega), um_n (by omega), eM0]; exact r169 k hk) (nI_nlt (a := d) (b := 0) (by omega) (by omega)) (fun b' hb => ⟨rfl, ?_⟩)
      rw [um_s, eM8]
      obtain ⟨X, hX⟩ : ∃ X, X = um (um (um (um M 169 σT) 168 (upd f' 8 0)) 172 b') 168 (upd (upd f' 8 0) 9 (nI (hS S))) := ⟨_, rfl⟩
      rw [← hX]
      have eX : ∀ q, q ≠ 168 → q ≠ 169 → q ≠ 172 → X q = M q := fun q q1 q2 q3 => by rw [hX, um_n q1, um_n q3, um_n q1, um_n q2]
      have eX8 : X 168 = upd (upd f' 8 0) 9 (nI (hS S)) := by rw [hX, um_s]
      have eX9 : X 169 = σT := by rw [hX, um_n (by omega), um_n (by omega), um_n (by omega), um_s]
      have eX2 : X 172 = b' := by rw [hX, um_n (by omega), um_s]
      -- first with the pads as they were
      obtain ⟨V0, hV0⟩ : ∃ V0, V0 = um B' 166 (μ 166) := ⟨_, rfl⟩
      have eV0 : ∀ q, (q < 1 ∨ 131 ≤ q) → V0 q = μ q := fun q q1 => by
        rw [hV0]
        by_cases q6 : q = 166
        · subst q6; rw [um_s]
        · rw [um_n q6]; exact eB q q1 q6
      have eV0L : ∀ q, q ≠ 166 → V0 q = B' q := fun q q1 => by rw [hV0, um_n q1]
      obtain ⟨V, hV⟩ : ∃ V, V = um (um (um V0 169 σT) 172 b') 168 (upd (μ 168) 9 (nI (hS S))) := ⟨_, rfl⟩
      have eV : ∀ q, q ≠ 168 → q ≠ 169 → q ≠ 172 → V q = V0 q := fun q q1 q2 q3 => by rw [hV, um_n q1, um_n q3, um_n q2]
      have hIV : Inv ct V := by
        refine inv_put (μ1 := V0) (S' := hS S) (hl' := _root_.Jvm.Pilot.@@N@@.hL S hl (μ 169)) hx ?_ hfT ?_ (hS_le S) (hL_wf a3 a6 a2) eV0 (r := σT) (fun _ _ => rfl) (m := upd (μ 168) 9 (nI (hS S))) (by rw [upd_s]) (by rw [upd_n (by omega)]) (b := b') hb (fun q q1 => eV q (by omega) (by omega) (by omega)) (by rw [hV, um_s]) (by rw [hV, um_n (by omega), um_n (by omega), um_s]) (by rw [hV, um_n (by omega), um_s]) (eV _ (by omega) (by omega) (by omega)) (eV _ (by omega) (by omega) (by omega)) (eV _ (by omega) (by omega) (by omega))
        · exact u1.fr (fun q q1 q2 => eV0L q (by omega))
        · exact hH.fr (fun q q1 q2 => by rw [eV0L q (by omega), u2 q (by omega)])
      refine inv_pad hIV (fun q q1 q2 q3 q4 q5 q6 => ?_) ?_ ⟨0, by omega, ?_, ?_, fun k hk => absurd hk (by omega)⟩
      · by_cases q9 : q = 169
        · subst q9; rw [eX9, hV, um_n (by omega), um_n (by omega), um_s]
        · by_cases q2' : q = 172
          · subst q2'; rw [eX2, hV, um_n (by omega), um_s]
          · rw [eX q q3 q9 q2', eV q q3 q9 q2', eV0L q q1, hM, um_n q6, um_n q4, um_n q3, um_n q1]
      · rw [eX8, upd_s, hV, um_s, upd_s]
      · rw [eX _ (by omega) (by omega) (by omega), eM6, u3]; rfl
      · rw [eX8, upd_n (by omega), upd_s]; rfl
  · refine ⟨fun z => absurd z hfl, fun _ => ?_⟩
    unfold x_X6_run
    refine q6_fault (n := n) (c := c) (ok := ok) (e := e) hn (by rw [um_n (by omega)]; exact e8) (by rw [um_n (by omega)]; exact t2) hF (fun r f' g' d8 d9 hr => ?_)
    rcases hr with ⟨q, h1, h2, rfl⟩ | ⟨h1, -⟩
    · refine ⟨fun z => absurd z (nI_nlt (a := q) (b := 0) (by omega) (by omega)), fun _ => ⟨rfl, ?_⟩⟩
      refine inv_pad h.dn (fun q q1 q2 q3 q4 q5 q6 => by rw [um_n q4, um_n q3, um_n q1]) (by rw [um_n (by omega), um_s, d9, um_n (by omega)]) ?_
      obtain ⟨n', p1, p2, p3, p4⟩ := a8
      refine ⟨n', p1, ?_, ?_, fun k hk => ?_⟩
      · rw [um_n (by omega), um_n (by omega), um_s, g1, ← e1]; exact p2
      · rw [um_n (by omega), um_s, d8, ← e8]; exact p3
      · rw [um_n (by omega : 167 ≠ 175), um_n (by omega : 167 ≠ 168), um_n (by omega : 167 ≠ 166), um_n (by omega : 176 ≠ 175), um_n (by omega : 176 ≠ 168), um_n (by omega : 176 ≠ 166)]
        exact p4 k hk
    · exact absurd h1 hfl
