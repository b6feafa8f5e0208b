set_option maxRecDepth 100000 in
set_option maxHeartbeats 4000000 in
/-- the reference's constructor -/
theorem ct_m_init (l : Launch) (dC : Nat → ClassId) (dI : Nat → Nat → Nat) (sz : Nat) (m0 : Nat) (z1 z2 z3 z4 : Int32) : Met l yXM_init wsXM_init ({ frames := 1, cells := 6, slots := 168, locals := 12 }) (wr_P (dC, dI) azCl [(m0, .inr (2, [.null, .int z1, .null, .null, .null, .null, .int z2, .int z3, .null, .int z4]))] [] sz [.ref m0]) (va_Qv (fun _ : Nat × Nat × Nat × Nat × Nat × Nat × ClassId × ClassId × ClassId × ClassId × ClassId × ClassId => True) (fun u t => va_P (dC, dI) azCl ((fun u : Nat × Nat × Nat × Nat × Nat × Nat × ClassId × ClassId × ClassId × ClassId × ClassId × ClassId => [(m0, .inr (2, [.ref u.1, .int z1, .ref u.2.1, .ref u.2.2.1, .ref u.2.2.2.1, .ref u.2.2.2.2.1, .int z2, .int z3, .ref u.2.2.2.2.2.1, .int z4])), (u.1, .inl (u.2.2.2.2.2.2.1, 60, .inl (fun _ => 0))), (u.2.1, .inl (u.2.2.2.2.2.2.2.1, 32, .inl (fun _ => 0))), (u.2.2.1, .inl (u.2.2.2.2.2.2.2.2.1, 2, .inl (upd (upd (fun _ => 0) 0 (nI 4)) 1 (nI 4)))), (u.2.2.2.1, .inl (u.2.2.2.2.2.2.2.2.2.1, 2, .inl (upd (upd (fun _ => 0) 0 (nI 32)) 1 (nI 32)))), (u.2.2.2.2.1, .inl (u.2.2.2.2.2.2.2.2.2.2.1, 8, .inl (fun _ => 0))), (u.2.2.2.2.2.1, .inl (u.2.2.2.2.2.2.2.2.2.2.2, 64, .inl (fun _ => 0)))]) u) t.heap ∧ va_K (dC, dI) azCl ((fun u : Nat × Nat × Nat × Nat × Nat × Nat × ClassId × ClassId × ClassId × ClassId × ClassId × ClassId => [(u.2.2.2.2.2.2.1, .int), (u.2.2.2.2.2.2.2.1, .int), (u.2.2.2.2.2.2.2.2.1, .int), (u.2.2.2.2.2.2.2.2.2.1, .int), (u.2.2.2.2.2.2.2.2.2.2.1, .int), (u.2.2.2.2.2.2.2.2.2.2.2, .int)]) u) t ∧ va_D (va_A [(m0, .inr (2, [.null, .int z1, .null, .null, .null, .null, .int z2, .int z3, .null, .int z4]))] sz) ((fun u : Nat × Nat × Nat × Nat × Nat × Nat × ClassId × ClassId × ClassId × ClassId × ClassId × ClassId => [(m0, .inr (2, [.ref u.1, .int z1, .ref u.2.1, .ref u.2.2.1, .ref u.2.2.2.1, .ref u.2.2.2.2.1, .int z2, .int z3, .ref u.2.2.2.2.2.1, .int z4])), (u.1, .inl (u.2.2.2.2.2.2.1, 60, .inl (fun _ => 0))), (u.2.1, .inl (u.2.2.2.2.2.2.2.1, 32, .inl (fun _ => 0))), (u.2.2.1, .inl (u.2.2.2.2.2.2.2.2.1, 2, .inl (upd (upd (fun _ => 0) 0 (nI 4)) 1 (nI 4)))), (u.2.2.2.1, .inl (u.2.2.2.2.2.2.2.2.2.1, 2, .inl (upd (upd (fun _ => 0) 0 (nI 32)) 1 (nI 32)))), (u.2.2.2.2.1, .inl (u.2.2.2.2.2.2.2.2.2.2.1, 8, .inl (fun _ => 0))), (u.2.2.2.2.2.1, .inl (u.2.2.2.2.2.2.2.2.2.2.2, 64, .inl (fun _ => 0)))]) u)) (va_A [(m0, .inr (2, [.null, .int z1, .null, .null, .null, .null, .int z2, .int z3, .null, .int z4]))] sz)) 6 168 (va_A [(m0, .inr (2, [.null, .int z1, .null, .null, .null, .null, .int z2, .int z3, .null, .int z4]))] sz) := by
  refine Met.ofW (cc := cXM_init) (maxL := 1) (ret := none) (by decide) rfl ?_
  intro p e s m args below meth c s₁ Bd hml hv
  obtain ⟨rfl, hsz, hP, hK, hD0⟩ := hv
  have hx := Bd.exec
  have hb := Bd.bytes
  have hr := Bd.returns
  have hts := atoms_spec (ws := wsXM_init) Bd.pre
  have hown : s.vm.findClass RXM = some m.cls := findClass_of_methodNamed Bd.named
  have hlocks := Bd.notSynchronized
  have hin : meth.name = "<init>" := (name_of_methodNamed Bd.named Bd.method).1
  subst hsz
  have hD := hD0.self (sz := s.heap.size)
  generalize hAe : va_A [(m0, .inr (2, [.null, .int z1, .null, .null, .null, .null, .int z2, .int z3, .null, .int z4]))] s.heap.size = A at hD ⊢
  have hA : ∀ q : Nat, s.heap.size ≤ q → A q := fun q h => by rw [← hAe]; exact Or.inr h
  have hS : va_S A s.heap s.heap [] := va_S.rf
  have hP : va_P (dC, dI) azCl [(m0, .inr (2, [.null, .int z1, .null, .null, .null, .null, .int z2, .int z3, .null, .int z4]))] s.heap := hP
  have hiXM : ∀ w ∈ wsXM0, w ∈ wsXM_init := by decide +kernel
  have hf7 := hts (.fieldLink RXM 7 "AddressTextsModel" "tape" "[I") (by decide +kernel)
  have hf13 := hts (.fieldLink RXM 13 "AddressTextsModel" "bytes" "[I") (by decide +kernel)
  have hf16 := hts (.fieldLink RXM 16 "AddressTextsModel" "family" "[I") (by decide +kernel)
  have hf19 := hts (.fieldLink RXM 19 "AddressTextsModel" "length" "[I") (by decide +kernel)
  have hf22 := hts (.fieldLink RXM 22 "AddressTextsModel" "parts" "[I") (by decide +kernel)
  have hf25 := hts (.fieldLink RXM 25 "AddressTextsModel" "out" "[I") (by decide +kernel)
  have hl := lv_entry ([.ref m0]) (n := 1) (Nat.le_of_ble_eq_true rfl)
  rw [lg_entry_eq]
  generalize (lg_sl ([.ref m0]) ++ List.replicate (1 - (lg_sl ([.ref m0])).length) Slot.unset).toArray = ls at hl ⊢
  have hl : lv_has ls 1 [(0, .ref m0)] := hl
  refine lv_aload_n hx hb dXM_init_0 rfl (lv_at hl 0 rfl) ?_
  refine W.objInit hx hb hown (hts (.methodLink RXM 1 objectInit) (by decide +kernel)) (hts (.instanceMethod objectInit) (by decide +kernel)) (hts (.code objectInit ⟨#[0xb1]⟩ 1 none) (by decide +kernel)) rfl (by rw [hml]; exact hl.1) rfl dXM_init_1 (Nat.le_of_ble_eq_true rfl) (Nat.le_of_ble_eq_true rfl) ?_
  refine W.eq (g2 := F0 m 4 ls []) rfl ?_
  refine lv_aload_n hx hb dXM_init_4 rfl (lv_at hl 0 rfl) ?_
  refine lv_bipush (v := nI 60) hx hb dXM_init_5 (by decide) ?_
  refine va_newa (atype := .int) (ty := .int) (N' := 60) (a0 := (60, .inl (fun _ => 0))) hx hb (hts (.arrayClass .int) (by decide +kernel)) rfl hK hP hD hS hA (fun _ => rfl) (by decide +kernel) (by decide +kernel) (by decide +kernel) (Nat.le_of_ble_eq_true rfl) (Nat.le_of_ble_eq_true rfl) dXM_init_7 (fun mt dT H hK hP hD hS => ?_)
  have hK : va_K (dC, dI) azCl [(dT, .int)] s := hK
  have hP : va_P (dC, dI) azCl [(m0, .inr (2, [.null, .int z1, .null, .null, .null, .null, .int z2, .int z3, .null, .int z4])), (mt, .inl (dT, 60, .inl (fun _ => 0)))] H := hP
  have hD : va_D A [(m0, .inr (2, [.null, .int z1, .null, .null, .null, .null, .int z2, .int z3, .null, .int z4])), (mt, .inl (dT, 60, .inl (fun _ => 0)))] := hD
  refine W.widen (k := 1) (n := 60) (Nat.le_of_ble_eq_true rfl) (Nat.le_of_ble_eq_true rfl) ?_
  refine va_putF (D := (dC, dI)) (ci := 2) (v := .ref mt) (ty := .array .int) (C := RXM) (T := TXM) (N := 10) hx hb hts hiXM tyXM tyXM_ok nmXM hown hK hP hD hS 0 rfl rfl 0 (by decide) hf7 (fun _ h9 => h9) rfl hin rfl (by decide +kernel) rfl rfl (Nat.le_of_ble_eq_true rfl) dXM_init_9 (fun H locs hP hD hS => ?_)
  have hP : va_P (dC, dI) azCl [(m0, .inr (2, [.ref mt, .int z1, .null, .null, .null, .null, .int z2, .int z3, .null, .int z4])), (mt, .inl (dT, 60, .inl (fun _ => 0)))] H := hP
  have hD : va_D A [(m0, .inr (2, [.ref mt, .int z1, .null, .null, .null, .null, .int z2, .int z3, .null, .int z4])), (mt, .inl (dT, 60, .inl (fun _ => 0)))] := hD
  refine lv_aload_n hx hb dXM_init_12 rfl (lv_at hl 0 rfl) ?_
  refine lv_bipush (v := nI 32) hx hb dXM_init_13 (by decide) ?_
  refine va_newa (atype := .int) (ty := .int) (N' := 32) (a0 := (32, .inl (fun _ => 0))) hx hb (hts (.arrayClass .int) (by decide +kernel)) rfl hK hP hD hS hA (fun _ => rfl) (by decide +kernel) (by decide +kernel) (by decide +kernel) (Nat.le_of_ble_eq_true rfl) (Nat.le_of_ble_eq_true rfl) dXM_init_15 (fun mb dB H hK hP hD hS => ?_)
  have hK : va_K (dC, dI) azCl [(dT, .int), (dB, .int)] s := hK
  have hP : va_P (dC, dI) azCl [(m0, .inr (2, [.ref mt, .int z1, .null, .null, .null, .null, .int z2, .int z3, .null, .int z4])), (mt, .inl (dT, 60, .inl (fun _ => 0))), (mb, .inl (dB, 32, .inl (fun _ => 0)))] H := hP
  have hD : va_D A [(m0, .inr (2, [.ref mt, .int z1, .null, .null, .null, .null, .int z2, .int z3, .null, .int z4])), (mt, .inl (dT, 60, .inl (fun _ => 0))), (mb, .inl (dB, 32, .inl (fun _ => 0)))] := hD
  refine W.widen (k := 2) (n := 92) (Nat.le_of_ble_eq_true rfl) (Nat.le_of_ble_eq_true rfl) ?_
  refine va_putF (D := (dC, dI)) (ci := 2) (v := .ref mb) (ty := .array .int) (C := RXM) (T := TXM) (N := 10) hx hb hts hiXM tyXM tyXM_ok nmXM hown hK hP hD hS 0 rfl rfl 2 (by decide) hf13 (fun _ h9 => h9) rfl hin rfl (by decide +kernel) rfl rfl (Nat.le_of_ble_eq_true rfl) dXM_init_17 (fun H locs hP hD hS => ?_)
  have hP : va_P (dC, dI) azCl [(m0, .inr (2, [.ref mt, .int z1, .ref mb, .null, .null, .null, .int z2, .int z3, .null, .int z4])), (mt, .inl (dT, 60, .inl (fun _ => 0))), (mb, .inl (dB, 32, .inl (fun _ => 0)))] H := hP
  have hD : va_D A [(m0, .inr (2, [.ref mt, .int z1, .ref mb, .null, .null, .null, .int z2, .int z3, .null, .int z4])), (mt, .inl (dT, 60, .inl (fun _ => 0))), (mb, .inl (dB, 32, .inl (fun _ => 0)))] := hD
  refine lv_aload_n hx hb dXM_init_20 rfl (lv_at hl 0 rfl) ?_
  refine lv_iconst (v := nI 2) hx hb dXM_init_21 (by decide) ?_
  refine va_newa (atype := .int) (ty := .int) (N' := 2) (a0 := (2, .inl (fun _ => 0))) hx hb (hts (.arrayClass .int) (by decide +kernel)) rfl hK hP hD hS hA (fun _ => rfl) (by decide +kernel) (by decide +kernel) (by decide +kernel) (Nat.le_of_ble_eq_true rfl) (Nat.le_of_ble_eq_true rfl) dXM_init_22 (fun mf dF H hK hP hD hS => ?_)
  have hK : va_K (dC, dI) azCl [(dT, .int), (dB, .int), (dF, .int)] s := hK
  have hP : va_P (dC, dI) azCl [(m0, .inr (2, [.ref mt, .int z1, .ref mb, .null, .null, .null, .int z2, .int z3, .null, .int z4])), (mt, .inl (dT, 60, .inl (fun _ => 0))), (mb, .inl (dB, 32, .inl (fun _ => 0))), (mf, .inl (dF, 2, .inl (fun _ => 0)))] H := hP
  have hD : va_D A [(m0, .inr (2, [.ref mt, .int z1, .ref mb, .null, .null, .null, .int z2, .int z3, .null, .int z4])), (mt, .inl (dT, 60, .inl (fun _ => 0))), (mb, .inl (dB, 32, .inl (fun _ => 0))), (mf, .inl (dF, 2, .inl (fun _ => 0)))] := hD
  refine W.widen (k := 3) (n := 94) (Nat.le_of_ble_eq_true rfl) (Nat.le_of_ble_eq_true rfl) ?_
  refine lv_dup hx hb dXM_init_24 rfl ?_
  refine lv_iconst (v := nI 0) hx hb dXM_init_25 (by decide) ?_
  refine lv_iconst (v := nI 4) hx hb dXM_init_26 (by decide) ?_
  refine st_i hx hb hK hP hD hS 3 2 rfl rfl (by omega) (by omega) dXM_init_27 (fun H locs hP hD hS => ?_)
  have hP : va_P (dC, dI) azCl [(m0, .inr (2, [.ref mt, .int z1, .ref mb, .null, .null, .null, .int z2, .int z3, .null, .int z4])), (mt, .inl (dT, 60, .inl (fun _ => 0))), (mb, .inl (dB, 32, .inl (fun _ => 0))), (mf, .inl (dF, 2, .inl (upd (fun _ => 0) 0 (nI 4))))] H := hP
  have hD : va_D A [(m0, .inr (2, [.ref mt, .int z1, .ref mb, .null, .null, .null, .int z2, .int z3, .null, .int z4])), (mt, .inl (dT, 60, .inl (fun _ => 0))), (mb, .inl (dB, 32, .inl (fun _ => 0))), (mf, .inl (dF, 2, .inl (upd (fun _ => 0) 0 (nI 4))))] := hD
  refine lv_dup hx hb dXM_init_28 rfl ?_
  refine lv_iconst (v := nI 1) hx hb dXM_init_29 (by decide) ?_
  refine lv_iconst (v := nI 4) hx hb dXM_init_30 (by decide) ?_
  refine st_i hx hb hK hP hD hS 3 2 rfl rfl (by omega) (by omega) dXM_init_31 (fun H locs hP hD hS => ?_)
  have hP : va_P (dC, dI) azCl [(m0, .inr (2, [.ref mt, .int z1, .ref mb, .null, .null, .null, .int z2, .int z3, .null, .int z4])), (mt, .inl (dT, 60, .inl (fun _ => 0))), (mb, .inl (dB, 32, .inl (fun _ => 0))), (mf, .inl (dF, 2, .inl (upd (upd (fun _ => 0) 0 (nI 4)) 1 (nI 4))))] H := hP
  have hD : va_D A [(m0, .inr (2, [.ref mt, .int z1, .ref mb, .null, .null, .null, .int z2, .int z3, .null, .int z4])), (mt, .inl (dT, 60, .inl (fun _ => 0))), (mb, .inl (dB, 32, .inl (fun _ => 0))), (mf, .inl (dF, 2, .inl (upd (upd (fun _ => 0) 0 (nI 4)) 1 (nI 4))))] := hD
  refine va_putF (D := (dC, dI)) (ci := 2) (v := .ref mf) (ty := .array .int) (C := RXM) (T := TXM) (N := 10) hx hb hts hiXM tyXM tyXM_ok nmXM hown hK hP hD hS 0 rfl rfl 3 (by decide) hf16 (fun _ h9 => h9) rfl hin rfl (by decide +kernel) rfl rfl (Nat.le_of_ble_eq_true rfl) dXM_init_32 (fun H locs hP hD hS => ?_)
  have hP : va_P (dC, dI) azCl [(m0, .inr (2, [.ref mt, .int z1, .ref mb, .ref mf, .null, .null, .int z2, .int z3, .null, .int z4])), (mt, .inl (dT, 60, .inl (fun _ => 0))), (mb, .inl (dB, 32, .inl (fun _ => 0))), (mf, .inl (dF, 2, .inl (upd (upd (fun _ => 0) 0 (nI 4)) 1 (nI 4))))] H := hP
  have hD : va_D A [(m0, .inr (2, [.ref mt, .int z1, .ref mb, .ref mf, .null, .null, .int z2, .int z3, .null, .int z4])), (mt, .inl (dT, 60, .inl (fun _ => 0))), (mb, .inl (dB, 32, .inl (fun _ => 0))), (mf, .inl (dF, 2, .inl (upd (upd (fun _ => 0) 0 (nI 4)) 1 (nI 4))))] := hD
  refine lv_aload_n hx hb dXM_init_35 rfl (lv_at hl 0 rfl) ?_
  refine lv_iconst (v := nI 2) hx hb dXM_init_36 (by decide) ?_
  refine va_newa (atype := .int) (ty := .int) (N' := 2) (a0 := (2, .inl (fun _ => 0))) hx hb (hts (.arrayClass .int) (by decide +kernel)) rfl hK hP hD hS hA (fun _ => rfl) (by decide +kernel) (by decide +kernel) (by decide +kernel) (Nat.le_of_ble_eq_true rfl) (Nat.le_of_ble_eq_true rfl) dXM_init_37 (fun ml dL H hK hP hD hS => ?_)
  have hK : va_K (dC, dI) azCl [(dT, .int), (dB, .int), (dF, .int), (dL, .int)] s := hK
  have hP : va_P (dC, dI) azCl [(m0, .inr (2, [.ref mt, .int z1, .ref mb, .ref mf, .null, .null, .int z2, .int z3, .null, .int z4])), (mt, .inl (dT, 60, .inl (fun _ => 0))), (mb, .inl (dB, 32, .inl (fun _ => 0))), (mf, .inl (dF, 2, .inl (upd (upd (fun _ => 0) 0 (nI 4)) 1 (nI 4)))), (ml, .inl (dL, 2, .inl (fun _ => 0)))] H := hP
  have hD : va_D A [(m0, .inr (2, [.ref mt, .int z1, .ref mb, .ref mf, .null, .null, .int z2, .int z3, .null, .int z4])), (mt, .inl (dT, 60, .inl (fun _ => 0))), (mb, .inl (dB, 32, .inl (fun _ => 0))), (mf, .inl (dF, 2, .inl (upd (upd (fun _ => 0) 0 (nI 4)) 1 (nI 4)))), (ml, .inl (dL, 2, .inl (fun _ => 0)))] := hD
  refine W.widen (k := 4) (n := 96) (Nat.le_of_ble_eq_true rfl) (Nat.le_of_ble_eq_true rfl) ?_
  refine lv_dup hx hb dXM_init_39 rfl ?_
  refine lv_iconst (v := nI 0) hx hb dXM_init_40 (by decide) ?_
  refine lv_bipush (v := nI 32) hx hb dXM_init_41 (by decide) ?_
  refine st_i hx hb hK hP hD hS 4 3 rfl rfl (by omega) (by omega) dXM_init_43 (fun H locs hP hD hS => ?_)
  have hP : va_P (dC, dI) azCl [(m0, .inr (2, [.ref mt, .int z1, .ref mb, .ref mf, .null, .null, .int z2, .int z3, .null, .int z4])), (mt, .inl (dT, 60, .inl (fun _ => 0))), (mb, .inl (dB, 32, .inl (fun _ => 0))), (mf, .inl (dF, 2, .inl (upd (upd (fun _ => 0) 0 (nI 4)) 1 (nI 4)))), (ml, .inl (dL, 2, .inl (upd (fun _ => 0) 0 (nI 32))))] H := hP
  have hD : va_D A [(m0, .inr (2, [.ref mt, .int z1, .ref mb, .ref mf, .null, .null, .int z2, .int z3, .null, .int z4])), (mt, .inl (dT, 60, .inl (fun _ => 0))), (mb, .inl (dB, 32, .inl (fun _ => 0))), (mf, .inl (dF, 2, .inl (upd (upd (fun _ => 0) 0 (nI 4)) 1 (nI 4)))), (ml, .inl (dL, 2, .inl (upd (fun _ => 0) 0 (nI 32))))] := hD
  refine lv_dup hx hb dXM_init_44 rfl ?_
  refine lv_iconst (v := nI 1) hx hb dXM_init_45 (by decide) ?_
  refine lv_bipush (v := nI 32) hx hb dXM_init_46 (by decide) ?_
  refine st_i hx hb hK hP hD hS 4 3 rfl rfl (by omega) (by omega) dXM_init_48 (fun H locs hP hD hS => ?_)
  have hP : va_P (dC, dI) azCl [(m0, .inr (2, [.ref mt, .int z1, .ref mb, .ref mf, .null, .null, .int z2, .int z3, .null, .int z4])), (mt, .inl (dT, 60, .inl (fun _ => 0))), (mb, .inl (dB, 32, .inl (fun _ => 0))), (mf, .inl (dF, 2, .inl (upd (upd (fun _ => 0) 0 (nI 4)) 1 (nI 4)))), (ml, .inl (dL, 2, .inl (upd (upd (fun _ => 0) 0 (nI 32)) 1 (nI 32))))] H := hP
  have hD : va_D A [(m0, .inr (2, [.ref mt, .int z1, .ref mb, .ref mf, .null, .null, .int z2, .int z3, .null, .int z4])), (mt, .inl (dT, 60, .inl (fun _ => 0))), (mb, .inl (dB, 32, .inl (fun _ => 0))), (mf, .inl (dF, 2, .inl (upd (upd (fun _ => 0) 0 (nI 4)) 1 (nI 4)))), (ml, .inl (dL, 2, .inl (upd (upd (fun _ => 0) 0 (nI 32)) 1 (nI 32))))] := hD
  refine va_putF (D := (dC, dI)) (ci := 2) (v := .ref ml) (ty := .array .int) (C := RXM) (T := TXM) (N := 10) hx hb hts hiXM tyXM tyXM_ok nmXM hown hK hP hD hS 0 rfl rfl 4 (by decide) hf19 (fun _ h9 => h9) rfl hin rfl (by decide +kernel) rfl rfl (Nat.le_of_ble_eq_true rfl) dXM_init_49 (fun H locs hP hD hS => ?_)
  have hP : va_P (dC, dI) azCl [(m0, .inr (2, [.ref mt, .int z1, .ref mb, .ref mf, .ref ml, .null, .int z2, .int z3, .null, .int z4])), (mt, .inl (dT, 60, .inl (fun _ => 0))), (mb, .inl (dB, 32, .inl (fun _ => 0))), (mf, .inl (dF, 2, .inl (upd (upd (fun _ => 0) 0 (nI 4)) 1 (nI 4)))), (ml, .inl (dL, 2, .inl (upd (upd (fun _ => 0) 0 (nI 32)) 1 (nI 32))))] H := hP
  have hD : va_D A [(m0, .inr (2, [.ref mt, .int z1, .ref mb, .ref mf, .ref ml, .null, .int z2, .int z3, .null, .int z4])), (mt, .inl (dT, 60, .inl (fun _ => 0))), (mb, .inl (dB, 32, .inl (fun _ => 0))), (mf, .inl (dF, 2, .inl (upd (upd (fun _ => 0) 0 (nI 4)) 1 (nI 4)))), (ml, .inl (dL, 2, .inl (upd (upd (fun _ => 0) 0 (nI 32)) 1 (nI 32))))] := hD
  refine lv_aload_n hx hb dXM_init_52 rfl (lv_at hl 0 rfl) ?_
  refine lv_bipush (v := nI 8) hx hb dXM_init_53 (by decide) ?_
  refine va_newa (atype := .int) (ty := .int) (N' := 8) (a0 := (8, .inl (fun _ => 0))) hx hb (hts (.arrayClass .int) (by decide +kernel)) rfl hK hP hD hS hA (fun _ => rfl) (by decide +kernel) (by decide +kernel) (by decide +kernel) (Nat.le_of_ble_eq_true rfl) (Nat.le_of_ble_eq_true rfl) dXM_init_55 (fun mp dP H hK hP hD hS => ?_)
  have hK : va_K (dC, dI) azCl [(dT, .int), (dB, .int), (dF, .int), (dL, .int), (dP, .int)] s := hK
  have hP : va_P (dC, dI) azCl [(m0, .inr (2, [.ref mt, .int z1, .ref mb, .ref mf, .ref ml, .null, .int z2, .int z3, .null, .int z4])), (mt, .inl (dT, 60, .inl (fun _ => 0))), (mb, .inl (dB, 32, .inl (fun _ => 0))), (mf, .inl (dF, 2, .inl (upd (upd (fun _ => 0) 0 (nI 4)) 1 (nI 4)))), (ml, .inl (dL, 2, .inl (upd (upd (fun _ => 0) 0 (nI 32)) 1 (nI 32)))), (mp, .inl (dP, 8, .inl (fun _ => 0)))] H := hP
  have hD : va_D A [(m0, .inr (2, [.ref mt, .int z1, .ref mb, .ref mf, .ref ml, .null, .int z2, .int z3, .null, .int z4])), (mt, .inl (dT, 60, .inl (fun _ => 0))), (mb, .inl (dB, 32, .inl (fun _ => 0))), (mf, .inl (dF, 2, .inl (upd (upd (fun _ => 0) 0 (nI 4)) 1 (nI 4)))), (ml, .inl (dL, 2, .inl (upd (upd (fun _ => 0) 0 (nI 32)) 1 (nI 32)))), (mp, .inl (dP, 8, .inl (fun _ => 0)))] := hD
  refine W.widen (k := 5) (n := 104) (Nat.le_of_ble_eq_true rfl) (Nat.le_of_ble_eq_true rfl) ?_
  refine va_putF (D := (dC, dI)) (ci := 2) (v := .ref mp) (ty := .array .int) (C := RXM) (T := TXM) (N := 10) hx hb hts hiXM tyXM tyXM_ok nmXM hown hK hP hD hS 0 rfl rfl 5 (by decide) hf22 (fun _ h9 => h9) rfl hin rfl (by decide +kernel) rfl rfl (Nat.le_of_ble_eq_true rfl) dXM_init_57 (fun H locs hP hD hS => ?_)
  have hP : va_P (dC, dI) azCl [(m0, .inr (2, [.ref mt, .int z1, .ref mb, .ref mf, .ref ml, .ref mp, .int z2, .int z3, .null, .int z4])), (mt, .inl (dT, 60, .inl (fun _ => 0))), (mb, .inl (dB, 32, .inl (fun _ => 0))), (mf, .inl (dF, 2, .inl (upd (upd (fun _ => 0) 0 (nI 4)) 1 (nI 4)))), (ml, .inl (dL, 2, .inl (upd (upd (fun _ => 0) 0 (nI 32)) 1 (nI 32)))), (mp, .inl (dP, 8, .inl (fun _ => 0)))] H := hP
  have hD : va_D A [(m0, .inr (2, [.ref mt, .int z1, .ref mb, .ref mf, .ref ml, .ref mp, .int z2, .int z3, .null, .int z4])), (mt, .inl (dT, 60, .inl (fun _ => 0))), (mb, .inl (dB, 32, .inl (fun _ => 0))), (mf, .inl (dF, 2, .inl (upd (upd (fun _ => 0) 0 (nI 4)) 1 (nI 4)))), (ml, .inl (dL, 2, .inl (upd (upd (fun _ => 0) 0 (nI 32)) 1 (nI 32)))), (mp, .inl (dP, 8, .inl (fun _ => 0)))] := hD
  refine lv_aload_n hx hb dXM_init_60 rfl (lv_at hl 0 rfl) ?_
  refine lv_bipush (v := nI 64) hx hb dXM_init_61 (by decide) ?_
  refine va_newa (atype := .int) (ty := .int) (N' := 64) (a0 := (64, .inl (fun _ => 0))) hx hb (hts (.arrayClass .int) (by decide +kernel)) rfl hK hP hD hS hA (fun _ => rfl) (by decide +kernel) (by decide +kernel) (by decide +kernel) (Nat.le_of_ble_eq_true rfl) (Nat.le_of_ble_eq_true rfl) dXM_init_63 (fun mo dO H hK hP hD hS => ?_)
  have hK : va_K (dC, dI) azCl [(dT, .int), (dB, .int), (dF, .int), (dL, .int), (dP, .int), (dO, .int)] s := hK
  have hP : va_P (dC, dI) azCl [(m0, .inr (2, [.ref mt, .int z1, .ref mb, .ref mf, .ref ml, .ref mp, .int z2, .int z3, .null, .int z4])), (mt, .inl (dT, 60, .inl (fun _ => 0))), (mb, .inl (dB, 32, .inl (fun _ => 0))), (mf, .inl (dF, 2, .inl (upd (upd (fun _ => 0) 0 (nI 4)) 1 (nI 4)))), (ml, .inl (dL, 2, .inl (upd (upd (fun _ => 0) 0 (nI 32)) 1 (nI 32)))), (mp, .inl (dP, 8, .inl (fun _ => 0))), (mo, .inl (dO, 64, .inl (fun _ => 0)))] H := hP
  have hD : va_D A [(m0, .inr (2, [.ref mt, .int z1, .ref mb, .ref mf, .ref ml, .ref mp, .int z2, .int z3, .null, .int z4])), (mt, .inl (dT, 60, .inl (fun _ => 0))), (mb, .inl (dB, 32, .inl (fun _ => 0))), (mf, .inl (dF, 2, .inl (upd (upd (fun _ => 0) 0 (nI 4)) 1 (nI 4)))), (ml, .inl (dL, 2, .inl (upd (upd (fun _ => 0) 0 (nI 32)) 1 (nI 32)))), (mp, .inl (dP, 8, .inl (fun _ => 0))), (mo, .inl (dO, 64, .inl (fun _ => 0)))] := hD
  refine W.widen (k := 6) (n := 168) (Nat.le_of_ble_eq_true rfl) (Nat.le_of_ble_eq_true rfl) ?_
  refine va_putF (D := (dC, dI)) (ci := 2) (v := .ref mo) (ty := .array .int) (C := RXM) (T := TXM) (N := 10) hx hb hts hiXM tyXM tyXM_ok nmXM hown hK hP hD hS 0 rfl rfl 8 (by decide) hf25 (fun _ h9 => h9) rfl hin rfl (by decide +kernel) rfl rfl (Nat.le_of_ble_eq_true rfl) dXM_init_65 (fun H locs hP hD hS => ?_)
  have hP : va_P (dC, dI) azCl [(m0, .inr (2, [.ref mt, .int z1, .ref mb, .ref mf, .ref ml, .ref mp, .int z2, .int z3, .ref mo, .int z4])), (mt, .inl (dT, 60, .inl (fun _ => 0))), (mb, .inl (dB, 32, .inl (fun _ => 0))), (mf, .inl (dF, 2, .inl (upd (upd (fun _ => 0) 0 (nI 4)) 1 (nI 4)))), (ml, .inl (dL, 2, .inl (upd (upd (fun _ => 0) 0 (nI 32)) 1 (nI 32)))), (mp, .inl (dP, 8, .inl (fun _ => 0))), (mo, .inl (dO, 64, .inl (fun _ => 0)))] H := hP
  have hD : va_D A [(m0, .inr (2, [.ref mt, .int z1, .ref mb, .ref mf, .ref ml, .ref mp, .int z2, .int z3, .ref mo, .int z4])), (mt, .inl (dT, 60, .inl (fun _ => 0))), (mb, .inl (dB, 32, .inl (fun _ => 0))), (mf, .inl (dF, 2, .inl (upd (upd (fun _ => 0) 0 (nI 4)) 1 (nI 4)))), (ml, .inl (dL, 2, .inl (upd (upd (fun _ => 0) 0 (nI 32)) 1 (nI 32)))), (mp, .inl (dP, 8, .inl (fun _ => 0))), (mo, .inl (dO, 64, .inl (fun _ => 0)))] := hD
  have hP9 := hP.sub (ws' := [(m0, .inr (2, [.ref mt, .int z1, .ref mb, .ref mf, .ref ml, .ref mp, .int z2, .int z3, .ref mo, .int z4])), (mt, .inl (dT, 60, .inl (fun _ => 0))), (mb, .inl (dB, 32, .inl (fun _ => 0))), (mf, .inl (dF, 2, .inl (upd (upd (fun _ => 0) 0 (nI 4)) 1 (nI 4)))), (ml, .inl (dL, 2, .inl (upd (upd (fun _ => 0) 0 (nI 32)) 1 (nI 32)))), (mp, .inl (dP, 8, .inl (fun _ => 0))), (mo, .inl (dO, 64, .inl (fun _ => 0)))]) [0, 1, 2, 3, 4, 5, 6] rfl
  have hD9 := hD.sub (ws' := [(m0, .inr (2, [.ref mt, .int z1, .ref mb, .ref mf, .ref ml, .ref mp, .int z2, .int z3, .ref mo, .int z4])), (mt, .inl (dT, 60, .inl (fun _ => 0))), (mb, .inl (dB, 32, .inl (fun _ => 0))), (mf, .inl (dF, 2, .inl (upd (upd (fun _ => 0) 0 (nI 4)) 1 (nI 4)))), (ml, .inl (dL, 2, .inl (upd (upd (fun _ => 0) 0 (nI 32)) 1 (nI 32)))), (mp, .inl (dP, 8, .inl (fun _ => 0))), (mo, .inl (dO, 64, .inl (fun _ => 0)))]) [0, 1, 2, 3, 4, 5, 6] (by decide) rfl
  exact W.vret hx hb hr (fun t ht2 hW => ⟨⟨(mt, mb, mf, ml, mp, mo, dT, dB, dF, dL, dP, dO), rfl, trivial, by rw [ht2]; exact hP9, va_K.moved hW.alike hK, hD9⟩, hS.F ht2⟩) hS.2.2 dXM_init_68 hlocks
