set_option maxRecDepth 100000 in
set_option maxHeartbeats 4000000 in
/-- Address() -/
theorem ct_a_init (l : Launch) (dC : Nat → ClassId) (dI : Nat → Nat → Nat) (sz : Nat) (a : Nat) (e1 e2 : Int32) (e3 e4 : Int64) : Met l yX0_init wsX0_init ({ frames := 1, cells := 0, slots := 0, locals := 12 }) (wr_P (dC, dI) azCl [(a, .inr (0, [.int e1, .int e2, .long e3, .long e4]))] [] sz [.ref a]) (va_Qv (fun _ => True) (wr_B (dC, dI) azCl [] (va_A [(a, .inr (0, [.int e1, .int e2, .long e3, .long e4]))] sz) (fun _ : Unit => [(a, .inr (0, [.int (nI 4), .int (nI 32), .long (lN (0 / 18446744073709551616)), .long (lN (0 % 18446744073709551616))]))])) (va_A [(a, .inr (0, [.int e1, .int e2, .long e3, .long e4]))] sz)) 0 0 (va_A [(a, .inr (0, [.int e1, .int e2, .long e3, .long e4]))] sz) := by
  refine Met.ofW (cc := cX0_init) (maxL := 1) (ret := none) (by decide) rfl ?_
  intro p e s m args below meth c s₁ Bd hml hv
  obtain ⟨rfl, hsz, hP, hK, hD0⟩ := hv
  have hx := Bd.exec
  have hb := Bd.bytes
  have hr := Bd.returns
  have hts := atoms_spec (ws := wsX0_init) Bd.pre
  have hown : s.vm.findClass RX0 = some m.cls := findClass_of_methodNamed Bd.named
  have hlocks := Bd.notSynchronized
  have hin : meth.name = "<init>" := (name_of_methodNamed Bd.named Bd.method).1
  subst hsz
  have hD := hD0.self (sz := s.heap.size)
  generalize hAe : va_A [(a, .inr (0, [.int e1, .int e2, .long e3, .long e4]))] s.heap.size = A at hD ⊢
  have hA : ∀ q : Nat, s.heap.size ≤ q → A q := fun q h => by rw [← hAe]; exact Or.inr h
  have hS : va_S A s.heap s.heap [] := va_S.rf
  have hP : va_P (dC, dI) azCl [(a, .inr (0, [.int e1, .int e2, .long e3, .long e4]))] s.heap := hP
  have hiX0 : ∀ w ∈ wsX00, w ∈ wsX0_init := by decide +kernel
  have hf9 := hts (.fieldLink RX0 9 "AddressTexts$Address" "family" "I") (by decide +kernel)
  have hf15 := hts (.fieldLink RX0 15 "AddressTexts$Address" "prefixLength" "I") (by decide +kernel)
  have hf18 := hts (.fieldLink RX0 18 "AddressTexts$Address" "upper" "J") (by decide +kernel)
  have hf22 := hts (.fieldLink RX0 22 "AddressTexts$Address" "lower" "J") (by decide +kernel)
  have hl := lv_entry ([.ref a]) (n := 1) (Nat.le_of_ble_eq_true rfl)
  rw [lg_entry_eq]
  generalize (lg_sl ([.ref a]) ++ List.replicate (1 - (lg_sl ([.ref a])).length) Slot.unset).toArray = ls at hl ⊢
  have hl : lv_has ls 1 [(0, .ref a)] := hl
  refine lv_aload_n hx hb dX0_init_0 rfl (lv_at hl 0 rfl) ?_
  refine W.objInit hx hb hown (hts (.methodLink RX0 3 objectInit) (by decide +kernel)) (hts (.instanceMethod objectInit) (by decide +kernel)) (hts (.code objectInit ⟨#[0xb1]⟩ 1 none) (by decide +kernel)) rfl (by rw [hml]; exact hl.1) rfl dX0_init_1 (Nat.le_of_ble_eq_true rfl) (Nat.le_of_ble_eq_true rfl) ?_
  refine W.eq (g2 := F0 m 4 ls []) rfl ?_
  refine lv_aload_n hx hb dX0_init_4 rfl (lv_at hl 0 rfl) ?_
  refine lv_iconst (v := nI 4) hx hb dX0_init_5 (by decide) ?_
  refine va_put (D := (dC, dI)) (ci := 0) (v := .int (nI 4)) (ty := .int) (C := RX0) (T := TX0) (N := 4) hx hb hts hiX0 tyX0 tyX0_ok nmX0 hown hK hP hD hS 0 rfl rfl 0 (by decide) hf9 (fun _ h9 => h9) rfl (by decide +kernel) rfl rfl (Nat.le_of_ble_eq_true rfl) dX0_init_6 (fun H locs hP hD hS => ?_)
  have hP : va_P (dC, dI) azCl [(a, .inr (0, [.int (nI 4), .int e2, .long e3, .long e4]))] H := hP
  have hD : va_D A [(a, .inr (0, [.int (nI 4), .int e2, .long e3, .long e4]))] := hD
  refine lv_aload_n hx hb dX0_init_9 rfl (lv_at hl 0 rfl) ?_
  refine lv_bipush (v := nI 32) hx hb dX0_init_10 (by decide) ?_
  refine va_put (D := (dC, dI)) (ci := 0) (v := .int (nI 32)) (ty := .int) (C := RX0) (T := TX0) (N := 4) hx hb hts hiX0 tyX0 tyX0_ok nmX0 hown hK hP hD hS 0 rfl rfl 1 (by decide) hf15 (fun _ h9 => h9) rfl (by decide +kernel) rfl rfl (Nat.le_of_ble_eq_true rfl) dX0_init_12 (fun H locs hP hD hS => ?_)
  have hP : va_P (dC, dI) azCl [(a, .inr (0, [.int (nI 4), .int (nI 32), .long e3, .long e4]))] H := hP
  have hD : va_D A [(a, .inr (0, [.int (nI 4), .int (nI 32), .long e3, .long e4]))] := hD
  refine lv_aload_n hx hb dX0_init_15 rfl (lv_at hl 0 rfl) ?_
  refine lv_lconst (v := lN 0) hx hb dX0_init_16 (by decide) ?_
  refine va_put (D := (dC, dI)) (ci := 0) (v := .long (lN 0)) (ty := .long) (C := RX0) (T := TX0) (N := 4) hx hb hts hiX0 tyX0 tyX0_ok nmX0 hown hK hP hD hS 0 rfl rfl 2 (by decide) hf18 (fun _ h9 => h9) rfl (by decide +kernel) rfl rfl (Nat.le_of_ble_eq_true rfl) dX0_init_17 (fun H locs hP hD hS => ?_)
  have hP : va_P (dC, dI) azCl [(a, .inr (0, [.int (nI 4), .int (nI 32), .long (lN 0), .long e4]))] H := hP
  have hD : va_D A [(a, .inr (0, [.int (nI 4), .int (nI 32), .long (lN 0), .long e4]))] := hD
  refine lv_aload_n hx hb dX0_init_20 rfl (lv_at hl 0 rfl) ?_
  refine lv_lconst (v := lN 0) hx hb dX0_init_21 (by decide) ?_
  refine va_put (D := (dC, dI)) (ci := 0) (v := .long (lN 0)) (ty := .long) (C := RX0) (T := TX0) (N := 4) hx hb hts hiX0 tyX0 tyX0_ok nmX0 hown hK hP hD hS 0 rfl rfl 3 (by decide) hf22 (fun _ h9 => h9) rfl (by decide +kernel) rfl rfl (Nat.le_of_ble_eq_true rfl) dX0_init_22 (fun H locs hP hD hS => ?_)
  have hP : va_P (dC, dI) azCl [(a, .inr (0, [.int (nI 4), .int (nI 32), .long (lN 0), .long (lN 0)]))] H := hP
  have hD : va_D A [(a, .inr (0, [.int (nI 4), .int (nI 32), .long (lN 0), .long (lN 0)]))] := hD
  exact wt_v hx hb hr (()) (trivial) (hP.sub [0] rfl) hK (hD.sub [0] (by decide) rfl) hS dX0_init_25 hlocks
