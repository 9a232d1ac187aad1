/-! one order, both readers -/
def ORC (ρ : Nat → Int32) (e : Nat → Nat) : Prop := ρ 3 = nI (e 1) ∧ (e 1 = 46 → ρ 6 = nI (e 3)) ∧ (e 1 ≠ 46 → ρ 4 = nI (e 2)) ∧ (e 1 ≠ 46 → e 1 ≠ 111 → ρ 5 = nI (e 3)) ∧ (e 1 = 62 → ρ 6 = nI (e 4))
def ORM (g : Nat → Int32) (m : Nat) (e : Nat → Nat) : Prop := g (4 * m) = nI (e 1) ∧ (e 1 = 46 → g (4 * m + 2) = nI (e 3)) ∧ (e 1 ≠ 46 → g (4 * m + 1) = nI (e 2)) ∧ (e 1 ≠ 46 → e 1 ≠ 111 → g (4 * m + 2) = nI (e 3)) ∧ (e 1 = 62 → g (4 * m + 3) = nI (e 4))
theorem q1_samples {n p : Nat} {c : Nat → Nat} {B : Mem} {ρ : Nat → Int32} {K : Int32 → Mem → Prop} (hn : n ≤ 60) (hT : Txt (B 167) n c) (e1 : ρ 1 = nI n) (e2 : ρ 2 = nI p) (hp : p ≤ n) (h1 : nuB n c 1 999 p → K 1 (um B 166 (upd (upd ρ 2 (nI (nuP n c 999 p))) 6 (nI (nuV n c 999 p))))) (h0 : ¬ nuB n c 1 999 p → K 0 (um B 166 (upd ρ 6 (-1)))) : x_X1_readSamples (um B 166 ρ) K := by
  unfold x_X1_readSamples
  refine q1_num (mn := 1) (mx := 999) hn hT e1 e2 hp (by omega) (by omega) (fun hb => ?_) (fun hb => ?_)
  · have := nu_rg hb
    rintro _ rfl
    rw [um_s, um_um, um_s, upd_s]
    exact ⟨fun z => absurd z (nI_nlt (b := 0) (by omega) (by omega)), fun _ => h1 hb⟩
  · rintro _ rfl
    rw [um_s, um_um, um_s, upd_s]
    exact ⟨fun _ => h0 hb, fun z => absurd (by decide) z⟩
theorem q1_behind {n p mx : Nat} {c : Nat → Nat} {B : Mem} {ρ : Nat → Int32} {K : Int32 → Mem → Prop} (hn : n ≤ 60) (hT : Txt (B 167) n c) (e1 : ρ 1 = nI n) (e2 : ρ 2 = nI p) (hp : p < n) (hmx : mx ≤ 65535) (h1 : nuB n c 0 mx (p + 1) → K 1 (um B 166 (upd (upd ρ 2 (nI (nuP n c mx (p + 1)))) 5 (nI (nuV n c mx (p + 1)))))) (h0 : ¬ nuB n c 0 mx (p + 1) → K 0 (um B 166 (upd (upd ρ 2 (nI (p + 1))) 5 (-1)))) : x_X1_readBehindSign (nI mx) (um B 166 ρ) K := by
  unfold x_X1_readBehindSign
  rintro _ rfl
  rw [um_s, um_um, e2, nI_1]
  refine q1_num (mn := 0) (mx := mx) hn hT (by rw [upd_n (by omega)]; exact e1) (by rw [upd_s]) (p := p + 1) (by omega) (by omega) (by omega) (fun hb => ?_) (fun hb => ?_)
  · have := nu_rg hb
    rintro _ rfl
    rw [um_s, um_um, um_s, upd_s, upd_upd]
    exact ⟨fun z => absurd z (nI_nlt (b := 0) (by omega) (by omega)), fun _ => h1 hb⟩
  · rintro _ rfl
    rw [um_s, um_um, um_s, upd_s]
    exact ⟨fun _ => h0 hb, fun z => absurd (by decide) z⟩
theorem q1_order {n p : Nat} {c : Nat → Nat} {B : Mem} {ρ : Nat → Int32} {K : Int32 → Mem → Prop} {ok : Int32} {e : Nat → Nat} (hn : n ≤ 60) (hT : Txt (B 167) n c) (e1 : ρ 1 = nI n) (e2 : ρ 2 = nI p) (hp : p ≤ n) (hO : OR n c p ok e) (hK : ∀ ρ', ρ' 1 = nI n → ρ' 2 = nI (e 0) → (ok = 1 → ORC ρ' e) → K ok (um B 166 ρ')) : x_X1_readOrder (um B 166 ρ) K := by
  have no : ∀ {P : Prop}, (0 : Int32) = 1 → P := fun a => absurd a (by decide)
  unfold x_X1_readOrder
  refine q1_pass (x := 46) hn hT e1 e2 hp (by omega) (fun h46 => ?_) (fun h46 => ?_)
  · have hA : (nuB n c 1 999 (p + 1) ∧ ok = 1 ∧ e 0 = nuP n c 999 (p + 1) ∧ e 1 = 46 ∧ e 3 = nuV n c 999 (p + 1)) ∨ (¬ nuB n c 1 999 (p + 1) ∧ ok = 0 ∧ e 0 = p + 1) := by
      rcases hO with ⟨-, hA⟩ | ⟨h1, -⟩ | ⟨h1, -⟩
      · exact hA
      · exact absurd h46 h1
      · exact absurd h46 h1
    refine ⟨fun z => absurd z (by decide), fun _ => ?_⟩
    rintro _ rfl
    rw [um_s, um_um]
    refine q1_samples hn hT (by simp [upd, e1]) (p := p + 1) (by simp [upd]) (by omega) (fun hb => ?_) (fun hb => ?_)
    · rcases hA with ⟨a1, rfl, a3, a4, a5⟩ | ⟨a1, -⟩
      · exact ⟨Or.inr rfl, hK _ (by simp [upd, e1]) (by simp [upd, a3]) (fun _ => ⟨by simp [upd, a4]; rfl, fun _ => by simp [upd, a5], fun z => absurd a4 z, fun z => absurd a4 z, fun z => absurd z (by omega)⟩)⟩
      · exact absurd hb a1
    · rcases hA with ⟨a1, -⟩ | ⟨a1, rfl, a3⟩
      · exact absurd a1 hb
      · exact ⟨Or.inl rfl, hK _ (by simp [upd, e1]) (by simp [upd, a3]) no⟩
  · refine ⟨fun _ => ?_, fun z => absurd rfl z⟩
    refine q1_num (mn := 0) (mx := 3) hn hT e1 e2 hp (by omega) (by omega) (fun hb => ?_) (fun hb => ?_)
    · have hd : p < n ∧ 48 ≤ c p ∧ c p ≤ 51 := ⟨hb.1, hb.2.1, hb.2.2.2⟩
      obtain ⟨v3, p3⟩ := nu_3 (n := n) hd.2.2
      rw [v3, p3]
      rintro _ rfl
      rw [um_s, um_um, um_s, upd_s]
      refine ⟨fun _ => ?_, fun z => absurd (nI_le (a := 0) (b := c p - 48) (by omega) (by omega)) z⟩
      obtain ⟨ρ1, hρ1⟩ : ∃ ρ1, ρ1 = upd (upd ρ 2 (nI (p + 1))) 4 (nI (c p - 48)) := ⟨_, rfl⟩
      rw [← hρ1]
      have g1 : ρ1 1 = nI n := by rw [hρ1]; simp [upd, e1]
      have g2 : ρ1 2 = nI (p + 1) := by rw [hρ1]; simp [upd]
      have g4 : ρ1 4 = nI (c p - 48) := by rw [hρ1]; simp [upd]
      have hW : e 2 = c p - 48 ∧ ((¬ (p + 1 < n ∧ (c (p + 1) = 62 ∨ c (p + 1) = 111 ∨ c (p + 1) = 115 ∨ c (p + 1) = 116 ∨ c (p + 1) = 118)) ∧ ok = 0 ∧ e 0 = p + 1)
          ∨ (∃ mx, p + 1 < n ∧ e 1 = c (p + 1) ∧ ((c (p + 1) = 115 ∧ mx = 65535) ∨ (c (p + 1) = 116 ∧ mx = 3) ∨ (c (p + 1) = 118 ∧ mx = 16)) ∧ ((nuB n c 0 mx (p + 2) ∧ ok = 1 ∧ e 0 = nuP n c mx (p + 2) ∧ e 3 = nuV n c mx (p + 2)) ∨ (¬ nuB n c 0 mx (p + 2) ∧ ok = 0 ∧ e 0 = p + 2)))
          ∨ (p + 1 < n ∧ c (p + 1) = 111 ∧ ok = 1 ∧ e 0 = p + 2 ∧ e 1 = 111)
          ∨ (p + 1 < n ∧ c (p + 1) = 62 ∧ ((nuB n c 0 65535 (p + 2) ∧ ((nuP n c 65535 (p + 2) < n ∧ c (nuP n c 65535 (p + 2)) = 58 ∧ ((nuB n c 1 999 (nuP n c 65535 (p + 2) + 1) ∧ ok = 1 ∧ e 0 = nuP n c 999 (nuP n c 65535 (p + 2) + 1) ∧ e 1 = 62 ∧ e 3 = nuV n c 65535 (p + 2) ∧ e 4 = nuV n c 999 (nuP n c 65535 (p + 2) + 1)) ∨ (¬ nuB n c 1 999 (nuP n c 65535 (p + 2) + 1) ∧ ok = 0 ∧ e 0 = nuP n c 65535 (p + 2) + 1))) ∨ (¬ (nuP n c 65535 (p + 2) < n ∧ c (nuP n c 65535 (p + 2)) = 58) ∧ ok = 0 ∧ e 0 = nuP n c 65535 (p + 2)))) ∨ (¬ nuB n c 0 65535 (p + 2) ∧ ok = 0 ∧ e 0 = p + 2)))) := by
        rcases hO with ⟨h1, -⟩ | ⟨-, h1, -⟩ | ⟨-, -, h1, h2⟩
        · exact absurd h1 h46
        · exact absurd hd h1
        · exact ⟨h1, h2⟩
      obtain ⟨hw, hR⟩ := hW
      refine q1_sign hn (p := p + 1) (by rw [um_n (by omega)]; exact hT) (by rw [um_s]; exact g1) (by rw [um_s]; exact g2) (by omega) (fun hlt => ?_) (fun hlt => ?_)
      · have hc := hT (p + 1) hlt
        have eqv : ∀ x : Nat, x ≤ 126 → (nI (c (p + 1)) = nI x ↔ c (p + 1) = x) := fun x hx => nI_eq (by omega) (by omega)
        rintro _ rfl
        rw [um_s, um_um, um_s, upd_s]
        obtain ⟨ρ2, hρ2⟩ : ∃ ρ2, ρ2 = upd ρ1 3 (nI (c (p + 1))) := ⟨_, rfl⟩
        rw [← hρ2]
        have k1 : ρ2 1 = nI n := by rw [hρ2]; simp [upd, g1]
        have k2 : ρ2 2 = nI (p + 1) := by rw [hρ2]; simp [upd, g2]
        have k3 : ρ2 3 = nI (c (p + 1)) := by rw [hρ2]; simp [upd]
        have k4 : ρ2 4 = nI (c p - 48) := by rw [hρ2]; simp [upd, g4]
        have num : ∀ mx : Nat, mx ≤ 65535 → ((c (p + 1) = 115 ∧ mx = 65535) ∨ (c (p + 1) = 116 ∧ mx = 3) ∨ (c (p + 1) = 118 ∧ mx = 16)) → x_X1_readBehindSign (nI mx) (um B 166 ρ2) (fun r μ => zb r ∧ K r μ) := by
          intro mx hmx hx
          have hN : e 1 = c (p + 1) ∧ ((nuB n c 0 mx (p + 2) ∧ ok = 1 ∧ e 0 = nuP n c mx (p + 2) ∧ e 3 = nuV n c mx (p + 2)) ∨ (¬ nuB n c 0 mx (p + 2) ∧ ok = 0 ∧ e 0 = p + 2)) := by
            rcases hR with ⟨h1, -⟩ | ⟨mx', -, h1, h2, h3⟩ | ⟨-, h1, -⟩ | ⟨-, h1, -⟩
            · exact absurd ⟨hlt, by omega⟩ h1
            · obtain rfl : mx' = mx := by omega
              exact ⟨h1, h3⟩
            · omega
            · omega
          obtain ⟨n1, n2⟩ := hN
          refine q1_behind hn hT k1 k2 hlt hmx (fun hb => ?_) (fun hb => ?_)
          · rcases n2 with ⟨a1, rfl, a3, a5⟩ | ⟨a1, -⟩
            · exact ⟨Or.inr rfl, hK _ (by simp [upd, k1]) (by simp [upd, a3]) (fun _ => ⟨by simp [upd, k3, n1], fun z => absurd z (by omega), fun _ => by simp [upd, k4, hw], fun _ _ => by simp [upd, a5], fun z => absurd z (by omega)⟩)⟩
            · exact absurd hb a1
          · rcases n2 with ⟨a1, -⟩ | ⟨a1, rfl, a3⟩
            · exact absurd a1 hb
            · exact ⟨Or.inl rfl, hK _ (by simp [upd, k1]) (by simp [upd, a3]) no⟩
        refine ⟨fun z => ?_, fun z62 => ⟨fun z => ?_, fun z111 => ⟨fun z => ?_, fun z115 => ⟨fun z => ?_, fun z116 => ⟨fun z => ?_, fun z118 => ?_⟩⟩⟩⟩⟩
        · have hx := (eqv 62 (by omega)).mp z
          have hS : (nuB n c 0 65535 (p + 2) ∧ ((nuP n c 65535 (p + 2) < n ∧ c (nuP n c 65535 (p + 2)) = 58 ∧ ((nuB n c 1 999 (nuP n c 65535 (p + 2) + 1) ∧ ok = 1 ∧ e 0 = nuP n c 999 (nuP n c 65535 (p + 2) + 1) ∧ e 1 = 62 ∧ e 3 = nuV n c 65535 (p + 2) ∧ e 4 = nuV n c 999 (nuP n c 65535 (p + 2) + 1)) ∨ (¬ nuB n c 1 999 (nuP n c 65535 (p + 2) + 1) ∧ ok = 0 ∧ e 0 = nuP n c 65535 (p + 2) + 1))) ∨ (¬ (nuP n c 65535 (p + 2) < n ∧ c (nuP n c 65535 (p + 2)) = 58) ∧ ok = 0 ∧ e 0 = nuP n c 65535 (p + 2)))) ∨ (¬ nuB n c 0 65535 (p + 2) ∧ ok = 0 ∧ e 0 = p + 2) := by
            rcases hR with ⟨h1, -⟩ | ⟨mx', -, h1, h2, h3⟩ | ⟨-, h1, -⟩ | ⟨-, -, h1⟩
            · exact absurd ⟨hlt, by omega⟩ h1
            · omega
            · omega
            · exact h1
          refine q1_behind (mx := 65535) hn hT k1 k2 hlt (by omega) (fun hb => ?_) (fun hb => ?_)
          · refine ⟨fun z => absurd z (by decide), fun _ => ?_⟩
            have hr := nu_rg hb
            rcases hS with ⟨-, hS⟩ | ⟨a1, -⟩
            · refine q1_pass (x := 58) (p := nuP n c 65535 (p + 2)) hn hT (by simp [upd, k1]) (by simp [upd]) hr.2.2.2 (by omega) (fun h58 => ?_) (fun h58 => ?_)
              · refine ⟨fun z => absurd z (by decide), fun _ => ?_⟩
                rcases hS with ⟨-, -, hS⟩ | ⟨a1, -⟩
                · refine q1_samples (p := nuP n c 65535 (p + 2) + 1) hn hT (by simp [upd, k1]) (by simp [upd]) (by omega) (fun hb2 => ?_) (fun hb2 => ?_)
                  · refine ⟨fun z => absurd z (by decide), fun _ => ?_⟩
                    rcases hS with ⟨a1, rfl, a3, a4, a5, a6⟩ | ⟨a1, -⟩
                    · exact hK _ (by simp [upd, k1]) (by simp [upd, a3]) (fun _ => ⟨by simp [upd, k3, a4, hx], fun z => absurd z (by omega), fun _ => by simp [upd, k4, hw], fun _ _ => by simp [upd, a5], fun _ => by simp [upd, a6]⟩)
                    · exact absurd hb2 a1
                  · refine ⟨fun _ => ?_, fun z => absurd rfl z⟩
                    rcases hS with ⟨a1, -⟩ | ⟨a1, rfl, a3⟩
                    · exact absurd a1 hb2
                    · exact hK _ (by simp [upd, k1]) (by simp [upd, a3]) no
                · exact absurd h58 a1
              · refine ⟨fun _ => ?_, fun z => absurd rfl z⟩
                rcases hS with ⟨a1, a2, -⟩ | ⟨a1, rfl, a3⟩
                · exact absurd ⟨a1, a2⟩ h58
                · exact hK _ (by simp [upd, k1]) (by simp [upd, a3]) no
            · exact absurd hb a1
          · refine ⟨fun _ => ?_, fun z => absurd rfl z⟩
            rcases hS with ⟨a1, -⟩ | ⟨a1, rfl, a3⟩
            · exact absurd a1 hb
            · exact hK _ (by simp [upd, k1]) (by simp [upd, a3]) no
        · have hx := (eqv 111 (by omega)).mp z
          have hS : ok = 1 ∧ e 0 = p + 2 ∧ e 1 = 111 := by
            rcases hR with ⟨h1, -⟩ | ⟨mx', -, h1, h2, h3⟩ | ⟨-, -, h1⟩ | ⟨-, h1, -⟩
            · exact absurd ⟨hlt, by omega⟩ h1
            · omega
            · exact h1
            · omega
          obtain ⟨rfl, a3, a4⟩ := hS
          rintro _ rfl
          rw [um_um, k2, nI_1]
          exact hK _ (by simp [upd, k1]) (by simp [upd, a3]) (fun _ => ⟨by simp [upd, k3, a4, hx], fun z => absurd z (by omega), fun _ => by simp [upd, k4, hw], fun _ z => absurd a4 z, fun z => absurd z (by omega)⟩)
        · exact num 65535 (by omega) (Or.inl ⟨(eqv 115 (by omega)).mp z, rfl⟩)
        · exact num 3 (by omega) (Or.inr (Or.inl ⟨(eqv 116 (by omega)).mp z, rfl⟩))
        · exact num 16 (by omega) (Or.inr (Or.inr ⟨(eqv 118 (by omega)).mp z, rfl⟩))
        · have ne : ∀ x : Nat, x ≤ 126 → ¬ nI (c (p + 1)) = nI x → c (p + 1) ≠ x := fun x hx z w => z (by rw [w])
          have n1 := ne 62 (by omega) z62
          have n2 := ne 111 (by omega) z111
          have n3 := ne 115 (by omega) z115
          have n4 := ne 116 (by omega) z116
          have n5 := ne 118 (by omega) z118
          have hS : ok = 0 ∧ e 0 = p + 1 := by
            rcases hR with ⟨-, h1⟩ | ⟨mx', -, h1, h2, h3⟩ | ⟨-, h1, -⟩ | ⟨-, h1, -⟩
            · exact h1
            · omega
            · omega
            · omega
          obtain ⟨rfl, a3⟩ := hS
          exact hK _ k1 (by rw [k2, a3]) no
      · have hS : ok = 0 ∧ e 0 = p + 1 := by
          rcases hR with ⟨-, h1⟩ | ⟨mx', h1, -⟩ | ⟨h1, -⟩ | ⟨h1, -⟩
          · exact h1
          · omega
          · omega
          · omega
        obtain ⟨rfl, a3⟩ := hS
        rintro _ rfl
        rw [um_s, um_um, um_s, upd_s]
        refine ⟨fun z => absurd z (by decide), fun _ => ⟨fun z => absurd z (by decide), fun _ => ⟨fun z => absurd z (by decide), fun _ => ⟨fun z => absurd z (by decide), fun _ => ⟨fun z => absurd z (by decide), fun _ => ?_⟩⟩⟩⟩⟩
        exact hK _ (by simp [upd, g1]) (by simp [upd, g2, a3]) no
    · have hS : ok = 0 ∧ e 0 = p := by
        rcases hO with ⟨h1, -⟩ | ⟨-, -, h1⟩ | ⟨-, h1, -⟩
        · exact absurd h1 h46
        · exact h1
        · exact absurd ⟨h1.1, h1.2.1, by omega, h1.2.2⟩ hb
      obtain ⟨rfl, a3⟩ := hS
      rintro _ rfl
      rw [um_s, um_um, um_s, upd_s]
      refine ⟨fun z => absurd z (by decide), fun _ => ?_⟩
      exact hK _ (by simp [upd, e1]) (by simp [upd, e2, a3]) no
