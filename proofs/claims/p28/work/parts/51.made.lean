/-! the constructors -/
def Lk (x y : va_E) : Prop := ∀ (D : va_G) (cl : List vw_C) (a : Nat) (H : Heap), va_at D cl (a, x) H → va_at D cl (a, y) H
theorem Lk.rfl {x : va_E} : Lk x x := fun _ _ _ _ h => h
theorem Lk.of {x y : va_E} (h : x = y) : Lk x y := h ▸ Lk.rfl
def BLK (Y : Nat → ClassId) (z : Nat) (ad : Nat → Nat) (fw : Nat → va_E) (μ : Mem) (a : Nat) : Prop := ∀ adF : Nat → Nat, (∀ r, r < z → adF r = ad r) → ∀ q, a ≤ q → q < z → Lk (fw q) (ce Y adF q (μ q))
def ag (z : Nat) (ad ad' : Nat → Nat) : Prop := ∀ r, r < z → ad' r = ad r
def fs4n : List Value := [.int 0, .int 0, .int 0, .int 0, .int 0, .int 0, .null, .null, .int 0, .int 0]
def fs4i (a b : Nat) : List Value := [.int 0, .int 1024, .int 0, .int 8, .int 0, .int 0, .ref a, .ref b, .int 0, .int 0]
theorem cell_i (ty : FieldType) (h : ∀ (cA : ClassId) (n : Nat), vp_cell cA (n, .inl (fun _ => (0 : Int32))) = arrV cA n (fun _ => defaultValue ty)) (N : Nat) : ∀ cA : ClassId, vp_cell cA (N, .inl (fun _ => 0)) = arrV cA N (fun _ => defaultValue ty) := fun cA => h cA N
abbrev rm_X4_init : Room := { frames := 1, cells := 2, slots := 8, locals := 20 }
theorem fw_X4_init : ∀ w ∈ wsX40, w ∈ wsX4_init := by decide +kernel
theorem c_X4_init {l : Launch} {D : va_G} {Y : Nat → ClassId} {b o : Nat} {ad : Nat → Nat} {fw : Nat → va_E} (hf : fw o = .inr (4, fs4n)) : ConG l yX4_init wsX4_init rm_X4_init [.ref (ad o)] D Y b (o + 1) ad fw (o + 3) (fun ad' fw' => ag (o + 1) ad ad' ∧ (∀ q, q < o → fw' q = fw q) ∧ fw' o = .inr (4, fs4i (ad' (o + 1)) (ad' (o + 2))) ∧ fw' (o + 1) = .inl (Y 1, 4, .inl (fun _ => 0)) ∧ fw' (o + 2) = .inl (Y 1, 4, .inl (fun _ => 0))) := by
  refine conG_of (cc := cX4_init) (maxL := 1) (own := RX4) [.ref (ad o)] (by decide +kernel) rfl rfl (Nat.le_of_ble_eq_true rfl) (fun p e s m args below meth c C0 hlk hret hnm => ?_)
  refine g_aload_n C0 0 dX4_init_0 rfl rfl rfl ?_
  refine g_obj C0 (by decide +kernel) (by decide +kernel) (List.mem_of_getElem? (i := 3) rfl) dX4_init_1 ⟨Nat.le_of_ble_eq_true rfl, Nat.le_of_ble_eq_true rfl⟩ rfl ?_
  refine g_aload_n C0 0 dX4_init_4 rfl rfl rfl ?_
  refine g_sipush C0 1024 dX4_init_5 (by decide) rfl ?_
  refine g_put C0 (o := o) (ci := 4) (C := RX4) (T := TX4) (N := 10) (Ft := tyX4) (ref := RX4) (fs := fs4n) 1 (v := .int 1024) (ty := .int) (by omega) rfl hf rfl fw_X4_init tyX4_ok nmX4 (by decide) (by decide +kernel) (fun _ h9 => h9) (Or.inl rfl) (by decide +kernel) rfl rfl (Nat.le_of_ble_eq_true rfl) dX4_init_8 rfl ?_
  refine g_aload_n C0 0 dX4_init_11 rfl rfl rfl ?_
  refine g_bipush C0 8 dX4_init_12 (by decide) rfl ?_
  refine g_put C0 (o := o) (ci := 4) (C := RX4) (T := TX4) (N := 10) (Ft := tyX4) (ref := RX4) (fs := fs4n.set 1 (.int 1024)) 3 (v := .int 8) (ty := .int) (by omega) rfl vu_s rfl fw_X4_init tyX4_ok nmX4 (by decide) (by decide +kernel) (fun _ h9 => h9) (Or.inl rfl) (by decide +kernel) rfl rfl (Nat.le_of_ble_eq_true rfl) dX4_init_14 rfl ?_
  refine g_aload_n C0 0 dX4_init_17 rfl rfl rfl ?_
  refine g_iconst C0 4 dX4_init_18 (by decide) rfl ?_
  refine g_newa C0 (atype := .int) (ty := .int) 4 1 rfl (by decide +kernel) rfl (fun cA => rfl) (by decide) rfl (by decide) ⟨Nat.le_of_ble_eq_true rfl, Nat.le_of_ble_eq_true rfl⟩ dX4_init_19 rfl (fun q1 => ?_)
  refine g_put C0 (o := o) (ci := 4) (C := RX4) (T := TX4) (N := 10) (Ft := tyX4) (ref := RX4) (fs := (fs4n.set 1 (.int 1024)).set 3 (.int 8)) 6 (v := .ref q1) (ty := .array .int) (by omega) (vu_n (by omega)) ((vu_n (by omega)).trans vu_s) rfl fw_X4_init tyX4_ok nmX4 (by decide) (by decide +kernel) (fun _ h9 => h9) (Or.inr ⟨rfl, hnm, rfl⟩) (by decide +kernel) rfl rfl (Nat.le_of_ble_eq_true rfl) dX4_init_21 rfl ?_
  refine g_aload_n C0 0 dX4_init_24 rfl rfl rfl ?_
  refine g_iconst C0 4 dX4_init_25 (by decide) rfl ?_
  refine g_newa C0 (atype := .int) (ty := .int) 4 1 rfl (by decide +kernel) rfl (fun cA => rfl) (by decide) rfl (by decide) ⟨Nat.le_of_ble_eq_true rfl, Nat.le_of_ble_eq_true rfl⟩ dX4_init_26 rfl (fun q2 => ?_)
  refine g_put C0 (o := o) (ci := 4) (C := RX4) (T := TX4) (N := 10) (Ft := tyX4) (ref := RX4) (fs := ((fs4n.set 1 (.int 1024)).set 3 (.int 8)).set 6 (.ref q1)) 7 (v := .ref q2) (ty := .array .int) (by omega) ((vu_n (by omega)).trans (vu_n (by omega))) ((vu_n (by omega)).trans vu_s) rfl fw_X4_init tyX4_ok nmX4 (by decide) (by decide +kernel) (fun _ h9 => h9) (Or.inr ⟨rfl, hnm, rfl⟩) (by decide +kernel) rfl rfl (Nat.le_of_ble_eq_true rfl) dX4_init_28 rfl ?_
  refine g_vret C0 hlk hret dX4_init_31 ⟨fun r hr => ?_, fun q hq => ?_, ?_, ?_, ?_⟩
  · rw [vu_n (by omega), vu_n (by omega)]
  · rw [vu_n (by omega), vu_n (by omega), vu_n (by omega), vu_n (by omega), vu_n (by omega), vu_n (by omega)]
  · rw [vu_s, vu_n (by omega : o + 1 ≠ o + 1 + 1), vu_s, show o + 2 = o + 1 + 1 from rfl, vu_s]
    rfl
  · rw [vu_n (by omega), vu_n (by omega), vu_n (by omega), vu_s]
  · rw [vu_n (by omega), show o + 2 = o + 1 + 1 from rfl, vu_s]
