/-! the object is made; what holds at first -/
theorem g_toJ {p : Program} {l : Launch} {e : Env} {R : Room} {s : State} {m : MethodId} {args : Array Value} {below : List Frame} {meth : Method} {c : Code} {Q : State → Prop} {D : va_G} {Y : Nat → ClassId} {b : Nat} {kc ks nL : Nat} {pc : Nat} {lv : List (Nat × Value)} {st : List Value} {ad : Nat → Nat} {fw : Nat → va_E} {μ : Mem} (hk : ∀ q, q < 168 → Lk (fw q) (ce Y ad q (μ q))) (kk : adI ad → (∀ q, PA ad q → AB b q) → J p l e R s m args below meth c D Y ad (AB b) kc ks nL Q pc lv st μ) : G p l e R s m args below meth c D b kc ks nL Q pc lv st 168 ad fw := by
  intro ls H locs hl hP hD hS
  refine kk (fun i j hi hj hij => hD.1 i j _ _ (wgr_get hi) (wgr_get hj) hij) (fun q ⟨o, ho, hq⟩ => by rw [hq]; exact hD.2 o _ (wgr_get ho)) ls H locs hl (fun k q hk2 => ?_) hS
  obtain ⟨h1, rfl⟩ := ws1_inv hk2
  exact hk k h1 D vwCl (ad k) H (hP k _ (wgr_get h1))
def mstep (g : Nat → Int32) (i : Nat) : Nat → Int32 := upd (upd (upd g (6 + i) (nI i)) (22 + i) (if i < 8 then 2 * nI i else 30 - 2 * nI i)) (38 + i) (if i < 8 then 15 else 0)
def mtt : Nat → Nat → Int32
  | 0 => upd (upd (fun _ => 0) 0 400) 5 (-1)
  | i + 1 => mstep (mtt i) i
def mww : Nat → Nat → Int32
  | 0 => mtt 16
  | i + 1 => upd (upd (mww i) (70 + 16 * i + 1) 1024) (70 + 16 * i + 3) 8
def MR : Nat → Int32 := upd (mww 4) 74 1
theorem mr_a : MR 0 = 400 ∧ MR 1 = 0 ∧ MR 2 = 0 ∧ MR 3 = 0 ∧ MR 4 = 0 ∧ MR 5 = -1 := by decide +kernel
theorem mr_v : ∀ k, k < 64 → MR (6 + k) = vt 16 k := by decide +kernel
theorem mr_v2 : ∀ k, k < 64 → (0 ≤ (MR (6 + k)).toInt ∧ (MR (6 + k)).toInt ≤ 15) := by decide +kernel
theorem mr_l : ∀ k, k < 32 → MR (134 + k) = 0 := by decide +kernel
theorem mr_w : ∀ w, w < 4 → wl MR w 0 = 0 ∧ wl MR w 1 = 1024 ∧ wl MR w 2 = 0 ∧ wl MR w 3 = 8 ∧ wl MR w 4 = (if w = 0 then 1 else 0) ∧ wl MR w 5 = 0 ∧ wl MR w 6 = 0 := by decide +kernel
theorem ci_0 : CI 1000 MI 0 (fun _ _ => 0) MR (fun _ => 0) (fun _ _ => 0) := by
  have m0 : ∀ q, (q = 33 ∨ 131 ≤ q ∧ q < 134 ∨ 166 ≤ q) → MI q = fun _ => 0 := fun q h => by
    unfold MI
    rw [if_neg (by omega), if_neg (by omega), if_neg (by omega)]
  have m1 : ∀ d, d < 16 → MI (1 + d) = SM0 d := fun d h => by
    unfold MI
    rw [if_pos (by omega), show (1 + d - 1) % 16 = d by omega]
  obtain ⟨r0, r1, r2, r3, r4, r5⟩ := mr_a
  refine ⟨?_, ?_, by omega, ⟨0, by omega, by omega, ?_, ?_, fun j hj => absurd hj (by omega)⟩, fun j hj => absurd hj (by omega), fun j hj => ⟨?_, Or.inl rfl, fun z => absurd (show (0 : Int32) = 1 from z) (by decide)⟩⟩
  · have s0 : MI 1 = SM0 0 := m1 0 (by omega)
    refine ⟨by rw [s0, r0]; rfl, by rw [s0, r1]; rfl, by rw [s0, r2]; rfl, by rw [s0, r3]; rfl, by rw [s0, r4]; rfl, fun k hk => ?_, fun k hk => ?_, fun w hw => ?_⟩
    · rw [m1 1 (by omega), mr_v k hk]; rfl
    · rw [m1 3 (by omega), mr_l k hk]; rfl
    · obtain ⟨w0, w1, w2, w3, w4, w5, w6⟩ := mr_w w hw
      have hc : MI (1 + 4 + 3 * w) = SM0 (4 + 3 * w) := by rw [show 1 + 4 + 3 * w = 1 + (4 + 3 * w) by omega]; exact m1 _ (by omega)
      refine ⟨?_, ?_, ?_, ?_, ?_, ?_, fun k hk => ?_, fun z => absurd w5 z⟩
      · rw [hc, w0]
        rcases (by omega : w = 0 ∨ w = 1 ∨ w = 2 ∨ w = 3) with rfl | rfl | rfl | rfl <;> rfl
      · rw [hc, w1]
        rcases (by omega : w = 0 ∨ w = 1 ∨ w = 2 ∨ w = 3) with rfl | rfl | rfl | rfl <;> rfl
      · rw [hc, w2]
        rcases (by omega : w = 0 ∨ w = 1 ∨ w = 2 ∨ w = 3) with rfl | rfl | rfl | rfl <;> rfl
      · rw [hc, w3]
        rcases (by omega : w = 0 ∨ w = 1 ∨ w = 2 ∨ w = 3) with rfl | rfl | rfl | rfl <;> rfl
      · rw [hc, w4]
        rcases (by omega : w = 0 ∨ w = 1 ∨ w = 2 ∨ w = 3) with rfl | rfl | rfl | rfl <;> rfl
      · rw [hc, w5]
        rcases (by omega : w = 0 ∨ w = 1 ∨ w = 2 ∨ w = 3) with rfl | rfl | rfl | rfl <;> rfl
      · rw [w5] at hk
        exact absurd hk (by show ¬ (k : Int) < 0; omega)
  · refine ⟨by rw [r0]; exact ⟨by decide, by decide⟩, by rw [r1]; exact ⟨by decide, by decide⟩, by rw [r1, r2]; exact ⟨by decide, by decide⟩, fun k hk => mr_v2 k hk, fun w hw => ?_, fun _ => r5, fun z => absurd r1 z⟩
    obtain ⟨w0, w1, w2, w3, w4, w5, w6⟩ := mr_w w hw
    refine ⟨by rw [w0]; exact ⟨by decide, by decide⟩, by rw [w1]; exact ⟨by decide, by decide⟩, by rw [w2]; exact ⟨by decide, by decide⟩, by rw [w3]; exact ⟨by decide, by decide⟩, ?_, by rw [w5]; exact ⟨by decide, by decide⟩, fun k hk => ?_, fun _ => w6, fun z => absurd w5 z⟩
    · rw [w4]
      by_cases h : w = 0
      · rw [if_pos h]; exact Or.inr rfl
      · rw [if_neg h]; exact Or.inl rfl
    · rw [w5] at hk
      exact absurd hk (by show ¬ (k : Int) < 0; omega)
  · rw [m0 33 (by omega)]; rfl
  · rw [m0 33 (by omega)]; rfl
  · rw [m0 133 (by omega)]
theorem mr_msk : mskT MR 4 = 1 := by decide +kernel
