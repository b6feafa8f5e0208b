set_option maxRecDepth 100000 in
set_option maxHeartbeats 4000000 in
/-- writeByte(c) -/
theorem ct_writeByte (l : Launch) (dC : Nat → ClassId) (dI : Nat → Nat → Nat) (sz : Nat) (h0 ht hw a1 a2 a3 n w : Nat) (cW : ClassId) (g : Nat → Int32) (O : List Nat) (hg : az_ou g O w) (ch : Nat) (hc : ch < 128) (hw2 : w < 39) : Met l yX1_writeByte wsX1_writeByte ({ frames := 0, cells := 0, slots := 0, locals := 0 }) (wr_P (dC, dI) azCl [(h0, .inr (1, [.ref ht, .int (nI n), .ref hw, .int (nI w), .ref a1, .ref a2, .ref a3])), (hw, .inl (cW, 39, .inl g))] [(cW, .byte)] sz [.ref h0, .int (nI ch)]) (va_Qv (fun u => az_ou u.1 (O ++ [ch]) u.2) (wr_B (dC, dI) azCl [(cW, .byte)] (va_A [(h0, .inr (1, [.ref ht, .int (nI n), .ref hw, .int (nI w), .ref a1, .ref a2, .ref a3])), (hw, .inl (cW, 39, .inl g))] sz) (fun u : (Nat → Int32) × Nat => [(h0, .inr (1, [.ref ht, .int (nI n), .ref hw, .int (nI u.2), .ref a1, .ref a2, .ref a3])), (hw, .inl (cW, 39, .inl u.1))])) (va_A [(h0, .inr (1, [.ref ht, .int (nI n), .ref hw, .int (nI w), .ref a1, .ref a2, .ref a3])), (hw, .inl (cW, 39, .inl g))] sz)) 0 0 (va_A [(h0, .inr (1, [.ref ht, .int (nI n), .ref hw, .int (nI w), .ref a1, .ref a2, .ref a3])), (hw, .inl (cW, 39, .inl g))] sz) := by
  refine Met.ofW (cc := cX1_writeByte) (maxL := 2) (ret := none) (by decide) rfl ?_
  intro p e s m args below meth c s₁ Bd hml hv
  obtain ⟨rfl, hsz, hP, hK, hD0⟩ := hv
  have hx := Bd.exec
  have hb := Bd.bytes
  have hr := Bd.returns
  have hts := atoms_spec (ws := wsX1_writeByte) Bd.pre
  have hown : s.vm.findClass RX1 = some m.cls := findClass_of_methodNamed Bd.named
  have hlocks := Bd.notSynchronized
  subst hsz
  have hD := hD0.self (sz := s.heap.size)
  generalize hAe : va_A [(h0, .inr (1, [.ref ht, .int (nI n), .ref hw, .int (nI w), .ref a1, .ref a2, .ref a3])), (hw, .inl (cW, 39, .inl g))] s.heap.size = A at hD ⊢
  have hA : ∀ q : Nat, s.heap.size ≤ q → A q := fun q h => by rw [← hAe]; exact Or.inr h
  have hS : va_S A s.heap s.heap [] := va_S.rf
  have hP : va_P (dC, dI) azCl [(h0, .inr (1, [.ref ht, .int (nI n), .ref hw, .int (nI w), .ref a1, .ref a2, .ref a3])), (hw, .inl (cW, 39, .inl g))] s.heap := hP
  have hiX1 : ∀ w ∈ wsX10, w ∈ wsX1_writeByte := by decide +kernel
  have hf20 := hts (.fieldLink RX1 20 "AddressTexts" "writtenCount" "I") (by decide +kernel)
  have hf17 := hts (.fieldLink RX1 17 "AddressTexts" "written" "[B") (by decide +kernel)
  have hl := lv_entry ([.ref h0, .int (nI ch)]) (n := 2) (Nat.le_of_ble_eq_true rfl)
  rw [lg_entry_eq]
  generalize (lg_sl ([.ref h0, .int (nI ch)]) ++ List.replicate (2 - (lg_sl ([.ref h0, .int (nI ch)])).length) Slot.unset).toArray = ls at hl ⊢
  have hl : lv_has ls 2 [(0, .ref h0), (1, .int (nI ch))] := hl
  refine lv_aload_n hx hb dX1_writeByte_0 rfl (lv_at hl 0 rfl) ?_
  refine va_get (D := (dC, dI)) (ci := 1) (v := .int (nI w)) (C := RX1) (T := TX1) (N := 7) hx hb hts hiX1 hown hK hP 0 rfl rfl 3 (by decide) hf20 (fun _ h9 => h9) rfl dX1_writeByte_1 ?_
  refine lv_aload_n hx hb dX1_writeByte_4 rfl (lv_at hl 0 rfl) ?_
  refine va_get (D := (dC, dI)) (ci := 1) (v := .ref hw) (C := RX1) (T := TX1) (N := 7) hx hb hts hiX1 hown hK hP 0 rfl rfl 2 (by decide) hf17 (fun _ h9 => h9) rfl dX1_writeByte_5 ?_
  refine va_alen (v := nI 39) hx hb hK hP 1 0 rfl rfl rfl dX1_writeByte_8 ?_
  refine bn_ge (tgt := 33) hx hb dX1_writeByte_9 (by decide) (by omega) (by omega) (fun c9 => absurd c9 (by omega)) (fun c9 => ?_)
  refine lv_aload_n hx hb dX1_writeByte_12 rfl (lv_at hl 0 rfl) ?_
  refine va_get (D := (dC, dI)) (ci := 1) (v := .ref hw) (C := RX1) (T := TX1) (N := 7) hx hb hts hiX1 hown hK hP 0 rfl rfl 2 (by decide) hf17 (fun _ h9 => h9) rfl dX1_writeByte_13 ?_
  refine lv_aload_n hx hb dX1_writeByte_16 rfl (lv_at hl 0 rfl) ?_
  refine va_get (D := (dC, dI)) (ci := 1) (v := .int (nI w)) (C := RX1) (T := TX1) (N := 7) hx hb hts hiX1 hown hK hP 0 rfl rfl 3 (by decide) hf20 (fun _ h9 => h9) rfl dX1_writeByte_17 ?_
  refine lv_iload_n hx hb dX1_writeByte_20 rfl (lv_at hl 1 rfl) ?_
  refine lv_i2b (v := nI ch) hx hb dX1_writeByte_21 (az_i2b ch hc) ?_
  refine st_b hx hb hK hP hD hS 1 0 rfl rfl (by omega) (by omega) dX1_writeByte_22 (fun H locs hP hD hS => ?_)
  have hP : va_P (dC, dI) azCl [(h0, .inr (1, [.ref ht, .int (nI n), .ref hw, .int (nI w), .ref a1, .ref a2, .ref a3])), (hw, .inl (cW, 39, .inl (upd g w (vp_nar .byte (nI ch)))))] H := hP
  have hD : va_D A [(h0, .inr (1, [.ref ht, .int (nI n), .ref hw, .int (nI w), .ref a1, .ref a2, .ref a3])), (hw, .inl (cW, 39, .inl (upd g w (vp_nar .byte (nI ch)))))] := hD
  refine lv_aload_n hx hb dX1_writeByte_23 rfl (lv_at hl 0 rfl) ?_
  refine lv_dup hx hb dX1_writeByte_24 rfl ?_
  refine va_get (D := (dC, dI)) (ci := 1) (v := .int (nI w)) (C := RX1) (T := TX1) (N := 7) hx hb hts hiX1 hown hK hP 0 rfl rfl 3 (by decide) hf20 (fun _ h9 => h9) rfl dX1_writeByte_25 ?_
  refine lv_iconst (v := nI 1) hx hb dX1_writeByte_28 (by decide) ?_
  refine lv_iadd hx hb dX1_writeByte_29 ?_
  refine tp_i (nI (w + 1)) (nI_add _ _) ?_
  refine va_put (D := (dC, dI)) (ci := 1) (v := .int (nI (w + 1))) (ty := .int) (C := RX1) (T := TX1) (N := 7) hx hb hts hiX1 tyX1 tyX1_ok nmX1 hown hK hP hD hS 0 rfl rfl 3 (by decide) hf20 (fun _ h9 => h9) rfl (by decide +kernel) rfl rfl (Nat.le_of_ble_eq_true rfl) dX1_writeByte_30 (fun H locs hP hD hS => ?_)
  have hP : va_P (dC, dI) azCl [(h0, .inr (1, [.ref ht, .int (nI n), .ref hw, .int (nI (w + 1)), .ref a1, .ref a2, .ref a3])), (hw, .inl (cW, 39, .inl (upd g w (vp_nar .byte (nI ch)))))] H := hP
  have hD : va_D A [(h0, .inr (1, [.ref ht, .int (nI n), .ref hw, .int (nI (w + 1)), .ref a1, .ref a2, .ref a3])), (hw, .inl (cW, 39, .inl (upd g w (vp_nar .byte (nI ch)))))] := hD
  exact wt_v hx hb hr ((upd g w (vp_nar .byte (nI ch)), w + 1)) (az_ou_push hg hc) (hP.sub [0, 1] rfl) hK (hD.sub [0, 1] (by decide) rfl) hS dX1_writeByte_33 hlocks
set_option maxRecDepth 100000 in
set_option maxHeartbeats 4000000 in
/-- writeDigit(d) -/
theorem ct_writeDigit (l : Launch) (dC : Nat → ClassId) (dI : Nat → Nat → Nat) (sz : Nat) (h0 ht hw a1 a2 a3 n w : Nat) (cW : ClassId) (g : Nat → Int32) (O : List Nat) (hg : az_ou g O w) (d : Nat) (hd : d < 16) (hw2 : w < 39) : Met l yX1_writeDigit wsX1_writeDigit ({ frames := 1, cells := 0, slots := 0, locals := 21 }) (wr_P (dC, dI) azCl [(h0, .inr (1, [.ref ht, .int (nI n), .ref hw, .int (nI w), .ref a1, .ref a2, .ref a3])), (hw, .inl (cW, 39, .inl g))] [(cW, .byte)] sz [.ref h0, .int (nI d)]) (va_Qv (fun u => az_ou u.1 (O ++ [az_ch d]) u.2) (wr_B (dC, dI) azCl [(cW, .byte)] (va_A [(h0, .inr (1, [.ref ht, .int (nI n), .ref hw, .int (nI w), .ref a1, .ref a2, .ref a3])), (hw, .inl (cW, 39, .inl g))] sz) (fun u : (Nat → Int32) × Nat => [(h0, .inr (1, [.ref ht, .int (nI n), .ref hw, .int (nI u.2), .ref a1, .ref a2, .ref a3])), (hw, .inl (cW, 39, .inl u.1))])) (va_A [(h0, .inr (1, [.ref ht, .int (nI n), .ref hw, .int (nI w), .ref a1, .ref a2, .ref a3])), (hw, .inl (cW, 39, .inl g))] sz)) 0 0 (va_A [(h0, .inr (1, [.ref ht, .int (nI n), .ref hw, .int (nI w), .ref a1, .ref a2, .ref a3])), (hw, .inl (cW, 39, .inl g))] sz) := by
  refine Met.ofW (cc := cX1_writeDigit) (maxL := 2) (ret := none) (by decide) rfl ?_
  intro p e s m args below meth c s₁ Bd hml hv
  obtain ⟨rfl, hsz, hP, hK, hD0⟩ := hv
  have hx := Bd.exec
  have hb := Bd.bytes
  have hr := Bd.returns
  have hts := atoms_spec (ws := wsX1_writeDigit) Bd.pre
  have hown : s.vm.findClass RX1 = some m.cls := findClass_of_methodNamed Bd.named
  have hlocks := Bd.notSynchronized
  subst hsz
  have hD := hD0.self (sz := s.heap.size)
  generalize hAe : va_A [(h0, .inr (1, [.ref ht, .int (nI n), .ref hw, .int (nI w), .ref a1, .ref a2, .ref a3])), (hw, .inl (cW, 39, .inl g))] s.heap.size = A at hD ⊢
  have hA : ∀ q : Nat, s.heap.size ≤ q → A q := fun q h => by rw [← hAe]; exact Or.inr h
  have hS : va_S A s.heap s.heap [] := va_S.rf
  have hP : va_P (dC, dI) azCl [(h0, .inr (1, [.ref ht, .int (nI n), .ref hw, .int (nI w), .ref a1, .ref a2, .ref a3])), (hw, .inl (cW, 39, .inl g))] s.heap := hP
  have hl := lv_entry ([.ref h0, .int (nI d)]) (n := 2) (Nat.le_of_ble_eq_true rfl)
  rw [lg_entry_eq]
  generalize (lg_sl ([.ref h0, .int (nI d)]) ++ List.replicate (2 - (lg_sl ([.ref h0, .int (nI d)])).length) Slot.unset).toArray = ls at hl ⊢
  have hl : lv_has ls 2 [(0, .ref h0), (1, .int (nI d))] := hl
  refine lv_aload_n hx hb dX1_writeDigit_0 rfl (lv_at hl 0 rfl) ?_
  refine lv_iload_n hx hb dX1_writeDigit_1 rfl (lv_at hl 1 rfl) ?_
  refine lv_bipush (v := nI 10) hx hb dX1_writeDigit_2 (by decide) ?_
  refine bn_ge (tgt := 14) hx hb dX1_writeDigit_4 (by decide) (by omega) (by omega) (fun c4 => ?_) (fun c4 => ?_)
  · refine lv_bipush (v := nI 97) hx hb dX1_writeDigit_14 (by decide) ?_
    refine lv_iload_n hx hb dX1_writeDigit_16 rfl (lv_at hl 1 rfl) ?_
    refine lv_iadd hx hb dX1_writeDigit_17 ?_
    refine tp_i (nI (97 + d)) (nI_add _ _) ?_
    refine lv_bipush (v := nI 10) hx hb dX1_writeDigit_18 (by decide) ?_
    refine lv_isub hx hb dX1_writeDigit_20 ?_
    refine tp_i (nI ((97 + d) - 10)) (pk_sub (by omega)) ?_
    refine wc_Vv (As := [.int (nI ((97 + d) - 10))]) (rest := []) (wr := []) ⟨hx, hb, hml, hown, hts⟩ (ct_writeByte l dC dI s.heap.size h0 ht hw a1 a2 a3 n w cW g O hg ((97 + d) - 10) (by omega) hw2) (cwV 1 hts gX1_writeDigit_X1_writeByte rfl rfl rfl (by decide +kernel) ⟨Nat.le_of_ble_eq_true rfl, Nat.le_of_ble_eq_true rfl⟩) hP hD hK hS hA [0, 1] [] [0] rfl rfl (by decide) (by decide) (by decide) rfl 0 rfl rfl rfl hl.1 rfl (Nat.le_of_ble_eq_true rfl) dX1_writeDigit_21 ⟨(Nat.zero_le _), (Nat.zero_le _)⟩ (fun u H locs hg1 hP hD hS => ?_)
    obtain ⟨u1, w1⟩ := u
    try dsimp only at hg1
    have hP : va_P (dC, dI) azCl [(h0, .inr (1, [.ref ht, .int (nI n), .ref hw, .int (nI w1), .ref a1, .ref a2, .ref a3])), (hw, .inl (cW, 39, .inl u1))] H := hP
    have hD : va_D A [(h0, .inr (1, [.ref ht, .int (nI n), .ref hw, .int (nI w1), .ref a1, .ref a2, .ref a3])), (hw, .inl (cW, 39, .inl u1))] := hD
    have hq1 := hg1.1
    try simp only [List.length_append, List.length_cons, List.length_nil] at hq1
    exact wt_v hx hb hr ((u1, w1)) (by first | (rw [az_ch_a c4]; exact hg1) | (rw [az_ch_b c4]; exact hg1)) (hP.sub [0, 1] rfl) hK (hD.sub [0, 1] (by decide) rfl) hS dX1_writeDigit_24 hlocks
  · refine lv_bipush (v := nI 48) hx hb dX1_writeDigit_7 (by decide) ?_
    refine lv_iload_n hx hb dX1_writeDigit_9 rfl (lv_at hl 1 rfl) ?_
    refine lv_iadd hx hb dX1_writeDigit_10 ?_
    refine tp_i (nI (48 + d)) (nI_add _ _) ?_
    refine lv_goto (tgt := 21) hx hb dX1_writeDigit_11 (by decide) ?_
    refine wc_Vv (As := [.int (nI (48 + d))]) (rest := []) (wr := []) ⟨hx, hb, hml, hown, hts⟩ (ct_writeByte l dC dI s.heap.size h0 ht hw a1 a2 a3 n w cW g O hg (48 + d) (by omega) hw2) (cwV 1 hts gX1_writeDigit_X1_writeByte rfl rfl rfl (by decide +kernel) ⟨Nat.le_of_ble_eq_true rfl, Nat.le_of_ble_eq_true rfl⟩) hP hD hK hS hA [0, 1] [] [0] rfl rfl (by decide) (by decide) (by decide) rfl 0 rfl rfl rfl hl.1 rfl (Nat.le_of_ble_eq_true rfl) dX1_writeDigit_21 ⟨(Nat.zero_le _), (Nat.zero_le _)⟩ (fun u H locs hg1 hP hD hS => ?_)
    obtain ⟨u1, w1⟩ := u
    try dsimp only at hg1
    have hP : va_P (dC, dI) azCl [(h0, .inr (1, [.ref ht, .int (nI n), .ref hw, .int (nI w1), .ref a1, .ref a2, .ref a3])), (hw, .inl (cW, 39, .inl u1))] H := hP
    have hD : va_D A [(h0, .inr (1, [.ref ht, .int (nI n), .ref hw, .int (nI w1), .ref a1, .ref a2, .ref a3])), (hw, .inl (cW, 39, .inl u1))] := hD
    have hq1 := hg1.1
    try simp only [List.length_append, List.length_cons, List.length_nil] at hq1
    exact wt_v hx hb hr ((u1, w1)) (by first | (rw [az_ch_a c4]; exact hg1) | (rw [az_ch_b c4]; exact hg1)) (hP.sub [0, 1] rfl) hK (hD.sub [0, 1] (by decide) rfl) hS dX1_writeDigit_24 hlocks
set_option maxRecDepth 100000 in
set_option maxHeartbeats 4000000 in
/-- writeDecimal(v) -/
theorem ct_writeDecimal (l : Launch) (dC : Nat → ClassId) (dI : Nat → Nat → Nat) (sz : Nat) (h0 ht hw a1 a2 a3 n w : Nat) (cW : ClassId) (g : Nat → Int32) (O : List Nat) (hg : az_ou g O w) (v : Nat) (hv : v < 256) (hw2 : w + 3 ≤ 39) : Met l yX1_writeDecimal wsX1_writeDecimal ({ frames := 2, cells := 0, slots := 0, locals := 42 }) (wr_P (dC, dI) azCl [(h0, .inr (1, [.ref ht, .int (nI n), .ref hw, .int (nI w), .ref a1, .ref a2, .ref a3])), (hw, .inl (cW, 39, .inl g))] [(cW, .byte)] sz [.ref h0, .int (nI v)]) (va_Qv (fun u => az_ou u.1 (O ++ az_dec v) u.2) (wr_B (dC, dI) azCl [(cW, .byte)] (va_A [(h0, .inr (1, [.ref ht, .int (nI n), .ref hw, .int (nI w), .ref a1, .ref a2, .ref a3])), (hw, .inl (cW, 39, .inl g))] sz) (fun u : (Nat → Int32) × Nat => [(h0, .inr (1, [.ref ht, .int (nI n), .ref hw, .int (nI u.2), .ref a1, .ref a2, .ref a3])), (hw, .inl (cW, 39, .inl u.1))])) (va_A [(h0, .inr (1, [.ref ht, .int (nI n), .ref hw, .int (nI w), .ref a1, .ref a2, .ref a3])), (hw, .inl (cW, 39, .inl g))] sz)) 0 0 (va_A [(h0, .inr (1, [.ref ht, .int (nI n), .ref hw, .int (nI w), .ref a1, .ref a2, .ref a3])), (hw, .inl (cW, 39, .inl g))] sz) := by
  refine Met.ofW (cc := cX1_writeDecimal) (maxL := 2) (ret := none) (by decide) rfl ?_
  intro p e s m args below meth c s₁ Bd hml hv
  obtain ⟨rfl, hsz, hP, hK, hD0⟩ := hv
  have hx := Bd.exec
  have hb := Bd.bytes
  have hr := Bd.returns
  have hts := atoms_spec (ws := wsX1_writeDecimal) Bd.pre
  have hown : s.vm.findClass RX1 = some m.cls := findClass_of_methodNamed Bd.named
  have hlocks := Bd.notSynchronized
  subst hsz
  have hD := hD0.self (sz := s.heap.size)
  generalize hAe : va_A [(h0, .inr (1, [.ref ht, .int (nI n), .ref hw, .int (nI w), .ref a1, .ref a2, .ref a3])), (hw, .inl (cW, 39, .inl g))] s.heap.size = A at hD ⊢
  have hA : ∀ q : Nat, s.heap.size ≤ q → A q := fun q h => by rw [← hAe]; exact Or.inr h
  have hS : va_S A s.heap s.heap [] := va_S.rf
  have hP : va_P (dC, dI) azCl [(h0, .inr (1, [.ref ht, .int (nI n), .ref hw, .int (nI w), .ref a1, .ref a2, .ref a3])), (hw, .inl (cW, 39, .inl g))] s.heap := hP
  have hl := lv_entry ([.ref h0, .int (nI v)]) (n := 2) (Nat.le_of_ble_eq_true rfl)
  rw [lg_entry_eq]
  generalize (lg_sl ([.ref h0, .int (nI v)]) ++ List.replicate (2 - (lg_sl ([.ref h0, .int (nI v)])).length) Slot.unset).toArray = ls at hl ⊢
  have hl : lv_has ls 2 [(0, .ref h0), (1, .int (nI v))] := hl
  have hq0 := hg.1
  refine lv_iload_n hx hb dX1_writeDecimal_0 rfl (lv_at hl 1 rfl) ?_
  refine lv_bipush (v := nI 100) hx hb dX1_writeDecimal_1 (by decide) ?_
  refine bn_lt (tgt := 14) hx hb dX1_writeDecimal_3 (by decide) (by omega) (by omega) (fun c3 => ?_) (fun c3 => ?_)
  · refine lv_iload_n hx hb dX1_writeDecimal_14 rfl (lv_at hl 1 rfl) ?_
    refine lv_bipush (v := nI 10) hx hb dX1_writeDecimal_15 (by decide) ?_
    refine bn_lt (tgt := 31) hx hb dX1_writeDecimal_17 (by decide) (by omega) (by omega) (fun c17 => ?_) (fun c17 => ?_)
    · refine lv_aload_n hx hb dX1_writeDecimal_31 rfl (lv_at hl 0 rfl) ?_
      refine lv_iload_n hx hb dX1_writeDecimal_32 rfl (lv_at hl 1 rfl) ?_
      refine lv_bipush (v := nI 10) hx hb dX1_writeDecimal_33 (by decide) ?_
      refine lv_irem hx hb dX1_writeDecimal_35 (by decide) ?_
      refine tp_i (nI (v % 10)) (pk_rem (by omega) (by omega) (by omega)) ?_
      refine wc_Vv (As := [.int (nI (v % 10))]) (rest := []) (wr := []) ⟨hx, hb, hml, hown, hts⟩ (ct_writeDigit l dC dI s.heap.size h0 ht hw a1 a2 a3 n w cW g O hg (v % 10) (by omega) (by omega)) (cwV 1 hts gX1_writeDecimal_X1_writeDigit rfl rfl rfl (by decide +kernel) ⟨Nat.le_of_ble_eq_true rfl, Nat.le_of_ble_eq_true rfl⟩) hP hD hK hS hA [0, 1] [] [0] rfl rfl (by decide) (by decide) (by decide) rfl 0 rfl rfl rfl hl.1 rfl (Nat.le_of_ble_eq_true rfl) dX1_writeDecimal_36 ⟨(Nat.zero_le _), (Nat.zero_le _)⟩ (fun u H locs hg1 hP hD hS => ?_)
      obtain ⟨u1, w1⟩ := u
      try dsimp only at hg1
      have hP : va_P (dC, dI) azCl [(h0, .inr (1, [.ref ht, .int (nI n), .ref hw, .int (nI w1), .ref a1, .ref a2, .ref a3])), (hw, .inl (cW, 39, .inl u1))] H := hP
      have hD : va_D A [(h0, .inr (1, [.ref ht, .int (nI n), .ref hw, .int (nI w1), .ref a1, .ref a2, .ref a3])), (hw, .inl (cW, 39, .inl u1))] := hD
      have hq1 := hg1.1
      try simp only [List.length_append, List.length_cons, List.length_nil] at hq1
      exact wt_v hx hb hr ((u1, w1)) (by have h := hg1; unfold az_dec; (first | rw [if_pos c3, if_pos c17] | rw [if_pos c3, if_neg (Nat.not_le.mpr c17)] | rw [if_neg (Nat.not_le.mpr c3), if_pos c17] | rw [if_neg (Nat.not_le.mpr c3), if_neg (Nat.not_le.mpr c17)]); all_goals simpa only [List.append_assoc, List.nil_append] using h) (hP.sub [0, 1] rfl) hK (hD.sub [0, 1] (by decide) rfl) hS dX1_writeDecimal_39 hlocks
    · refine lv_aload_n hx hb dX1_writeDecimal_20 rfl (lv_at hl 0 rfl) ?_
      refine lv_iload_n hx hb dX1_writeDecimal_21 rfl (lv_at hl 1 rfl) ?_
      refine lv_bipush (v := nI 10) hx hb dX1_writeDecimal_22 (by decide) ?_
      refine lv_idiv hx hb dX1_writeDecimal_24 (by decide) ?_
      refine tp_i (nI (v / 10)) (pk_div (by omega) (by omega) (by omega)) ?_
      refine lv_bipush (v := nI 10) hx hb dX1_writeDecimal_25 (by decide) ?_
      refine lv_irem hx hb dX1_writeDecimal_27 (by decide) ?_
      refine tp_i (nI ((v / 10) % 10)) (pk_rem (by omega) (by omega) (by omega)) ?_
      refine wc_Vv (As := [.int (nI ((v / 10) % 10))]) (rest := []) (wr := []) ⟨hx, hb, hml, hown, hts⟩ (ct_writeDigit l dC dI s.heap.size h0 ht hw a1 a2 a3 n w cW g O hg ((v / 10) % 10) (by omega) (by omega)) (cwV 1 hts gX1_writeDecimal_X1_writeDigit rfl rfl rfl (by decide +kernel) ⟨Nat.le_of_ble_eq_true rfl, Nat.le_of_ble_eq_true rfl⟩) hP hD hK hS hA [0, 1] [] [0] rfl rfl (by decide) (by decide) (by decide) rfl 0 rfl rfl rfl hl.1 rfl (Nat.le_of_ble_eq_true rfl) dX1_writeDecimal_28 ⟨(Nat.zero_le _), (Nat.zero_le _)⟩ (fun u H locs hg1 hP hD hS => ?_)
      obtain ⟨u1, w1⟩ := u
      try dsimp only at hg1
      have hP : va_P (dC, dI) azCl [(h0, .inr (1, [.ref ht, .int (nI n), .ref hw, .int (nI w1), .ref a1, .ref a2, .ref a3])), (hw, .inl (cW, 39, .inl u1))] H := hP
      have hD : va_D A [(h0, .inr (1, [.ref ht, .int (nI n), .ref hw, .int (nI w1), .ref a1, .ref a2, .ref a3])), (hw, .inl (cW, 39, .inl u1))] := hD
      have hq1 := hg1.1
      try simp only [List.length_append, List.length_cons, List.length_nil] at hq1
      refine lv_aload_n hx hb dX1_writeDecimal_31 rfl (lv_at hl 0 rfl) ?_
      refine lv_iload_n hx hb dX1_writeDecimal_32 rfl (lv_at hl 1 rfl) ?_
      refine lv_bipush (v := nI 10) hx hb dX1_writeDecimal_33 (by decide) ?_
      refine lv_irem hx hb dX1_writeDecimal_35 (by decide) ?_
      refine tp_i (nI (v % 10)) (pk_rem (by omega) (by omega) (by omega)) ?_
      refine wc_Vv (As := [.int (nI (v % 10))]) (rest := []) (wr := []) ⟨hx, hb, hml, hown, hts⟩ (ct_writeDigit l dC dI H.size h0 ht hw a1 a2 a3 n w1 cW u1 (O ++ [az_ch ((v / 10) % 10)]) hg1 (v % 10) (by omega) (by omega)) (cwV 1 hts gX1_writeDecimal_X1_writeDigit rfl rfl rfl (by decide +kernel) ⟨Nat.le_of_ble_eq_true rfl, Nat.le_of_ble_eq_true rfl⟩) hP hD hK hS hA [0, 1] [] [0] rfl rfl (by decide) (by decide) (by decide) rfl 0 rfl rfl rfl hl.1 rfl (Nat.le_of_ble_eq_true rfl) dX1_writeDecimal_36 ⟨(Nat.zero_le _), (Nat.zero_le _)⟩ (fun u H locs hg2 hP hD hS => ?_)
      obtain ⟨u2, w2⟩ := u
      try dsimp only at hg2
      have hP : va_P (dC, dI) azCl [(h0, .inr (1, [.ref ht, .int (nI n), .ref hw, .int (nI w2), .ref a1, .ref a2, .ref a3])), (hw, .inl (cW, 39, .inl u2))] H := hP
      have hD : va_D A [(h0, .inr (1, [.ref ht, .int (nI n), .ref hw, .int (nI w2), .ref a1, .ref a2, .ref a3])), (hw, .inl (cW, 39, .inl u2))] := hD
      have hq2 := hg2.1
      try simp only [List.length_append, List.length_cons, List.length_nil] at hq2
      exact wt_v hx hb hr ((u2, w2)) (by have h := hg2; unfold az_dec; (first | rw [if_pos c3, if_pos c17] | rw [if_pos c3, if_neg (Nat.not_le.mpr c17)] | rw [if_neg (Nat.not_le.mpr c3), if_pos c17] | rw [if_neg (Nat.not_le.mpr c3), if_neg (Nat.not_le.mpr c17)]); all_goals simpa only [List.append_assoc, List.nil_append] using h) (hP.sub [0, 1] rfl) hK (hD.sub [0, 1] (by decide) rfl) hS dX1_writeDecimal_39 hlocks
  · refine lv_aload_n hx hb dX1_writeDecimal_6 rfl (lv_at hl 0 rfl) ?_
    refine lv_iload_n hx hb dX1_writeDecimal_7 rfl (lv_at hl 1 rfl) ?_
    refine lv_bipush (v := nI 100) hx hb dX1_writeDecimal_8 (by decide) ?_
    refine lv_idiv hx hb dX1_writeDecimal_10 (by decide) ?_
    refine tp_i (nI (v / 100)) (pk_div (by omega) (by omega) (by omega)) ?_
    refine wc_Vv (As := [.int (nI (v / 100))]) (rest := []) (wr := []) ⟨hx, hb, hml, hown, hts⟩ (ct_writeDigit l dC dI s.heap.size h0 ht hw a1 a2 a3 n w cW g O hg (v / 100) (by omega) (by omega)) (cwV 1 hts gX1_writeDecimal_X1_writeDigit rfl rfl rfl (by decide +kernel) ⟨Nat.le_of_ble_eq_true rfl, Nat.le_of_ble_eq_true rfl⟩) hP hD hK hS hA [0, 1] [] [0] rfl rfl (by decide) (by decide) (by decide) rfl 0 rfl rfl rfl hl.1 rfl (Nat.le_of_ble_eq_true rfl) dX1_writeDecimal_11 ⟨(Nat.zero_le _), (Nat.zero_le _)⟩ (fun u H locs hg1 hP hD hS => ?_)
    obtain ⟨u1, w1⟩ := u
    try dsimp only at hg1
    have hP : va_P (dC, dI) azCl [(h0, .inr (1, [.ref ht, .int (nI n), .ref hw, .int (nI w1), .ref a1, .ref a2, .ref a3])), (hw, .inl (cW, 39, .inl u1))] H := hP
    have hD : va_D A [(h0, .inr (1, [.ref ht, .int (nI n), .ref hw, .int (nI w1), .ref a1, .ref a2, .ref a3])), (hw, .inl (cW, 39, .inl u1))] := hD
    have hq1 := hg1.1
    try simp only [List.length_append, List.length_cons, List.length_nil] at hq1
    refine lv_iload_n hx hb dX1_writeDecimal_14 rfl (lv_at hl 1 rfl) ?_
    refine lv_bipush (v := nI 10) hx hb dX1_writeDecimal_15 (by decide) ?_
    refine bn_lt (tgt := 31) hx hb dX1_writeDecimal_17 (by decide) (by omega) (by omega) (fun c17 => ?_) (fun c17 => ?_)
    · refine lv_aload_n hx hb dX1_writeDecimal_31 rfl (lv_at hl 0 rfl) ?_
      refine lv_iload_n hx hb dX1_writeDecimal_32 rfl (lv_at hl 1 rfl) ?_
      refine lv_bipush (v := nI 10) hx hb dX1_writeDecimal_33 (by decide) ?_
      refine lv_irem hx hb dX1_writeDecimal_35 (by decide) ?_
      refine tp_i (nI (v % 10)) (pk_rem (by omega) (by omega) (by omega)) ?_
      refine wc_Vv (As := [.int (nI (v % 10))]) (rest := []) (wr := []) ⟨hx, hb, hml, hown, hts⟩ (ct_writeDigit l dC dI H.size h0 ht hw a1 a2 a3 n w1 cW u1 (O ++ [az_ch (v / 100)]) hg1 (v % 10) (by omega) (by omega)) (cwV 1 hts gX1_writeDecimal_X1_writeDigit rfl rfl rfl (by decide +kernel) ⟨Nat.le_of_ble_eq_true rfl, Nat.le_of_ble_eq_true rfl⟩) hP hD hK hS hA [0, 1] [] [0] rfl rfl (by decide) (by decide) (by decide) rfl 0 rfl rfl rfl hl.1 rfl (Nat.le_of_ble_eq_true rfl) dX1_writeDecimal_36 ⟨(Nat.zero_le _), (Nat.zero_le _)⟩ (fun u H locs hg2 hP hD hS => ?_)
      obtain ⟨u2, w2⟩ := u
      try dsimp only at hg2
      have hP : va_P (dC, dI) azCl [(h0, .inr (1, [.ref ht, .int (nI n), .ref hw, .int (nI w2), .ref a1, .ref a2, .ref a3])), (hw, .inl (cW, 39, .inl u2))] H := hP
      have hD : va_D A [(h0, .inr (1, [.ref ht, .int (nI n), .ref hw, .int (nI w2), .ref a1, .ref a2, .ref a3])), (hw, .inl (cW, 39, .inl u2))] := hD
      have hq2 := hg2.1
      try simp only [List.length_append, List.length_cons, List.length_nil] at hq2
      exact wt_v hx hb hr ((u2, w2)) (by have h := hg2; unfold az_dec; (first | rw [if_pos c3, if_pos c17] | rw [if_pos c3, if_neg (Nat.not_le.mpr c17)] | rw [if_neg (Nat.not_le.mpr c3), if_pos c17] | rw [if_neg (Nat.not_le.mpr c3), if_neg (Nat.not_le.mpr c17)]); all_goals simpa only [List.append_assoc, List.nil_append] using h) (hP.sub [0, 1] rfl) hK (hD.sub [0, 1] (by decide) rfl) hS dX1_writeDecimal_39 hlocks
    · refine lv_aload_n hx hb dX1_writeDecimal_20 rfl (lv_at hl 0 rfl) ?_
      refine lv_iload_n hx hb dX1_writeDecimal_21 rfl (lv_at hl 1 rfl) ?_
      refine lv_bipush (v := nI 10) hx hb dX1_writeDecimal_22 (by decide) ?_
      refine lv_idiv hx hb dX1_writeDecimal_24 (by decide) ?_
      refine tp_i (nI (v / 10)) (pk_div (by omega) (by omega) (by omega)) ?_
      refine lv_bipush (v := nI 10) hx hb dX1_writeDecimal_25 (by decide) ?_
      refine lv_irem hx hb dX1_writeDecimal_27 (by decide) ?_
      refine tp_i (nI ((v / 10) % 10)) (pk_rem (by omega) (by omega) (by omega)) ?_
      refine wc_Vv (As := [.int (nI ((v / 10) % 10))]) (rest := []) (wr := []) ⟨hx, hb, hml, hown, hts⟩ (ct_writeDigit l dC dI H.size h0 ht hw a1 a2 a3 n w1 cW u1 (O ++ [az_ch (v / 100)]) hg1 ((v / 10) % 10) (by omega) (by omega)) (cwV 1 hts gX1_writeDecimal_X1_writeDigit rfl rfl rfl (by decide +kernel) ⟨Nat.le_of_ble_eq_true rfl, Nat.le_of_ble_eq_true rfl⟩) hP hD hK hS hA [0, 1] [] [0] rfl rfl (by decide) (by decide) (by decide) rfl 0 rfl rfl rfl hl.1 rfl (Nat.le_of_ble_eq_true rfl) dX1_writeDecimal_28 ⟨(Nat.zero_le _), (Nat.zero_le _)⟩ (fun u H locs hg2 hP hD hS => ?_)
      obtain ⟨u2, w2⟩ := u
      try dsimp only at hg2
      have hP : va_P (dC, dI) azCl [(h0, .inr (1, [.ref ht, .int (nI n), .ref hw, .int (nI w2), .ref a1, .ref a2, .ref a3])), (hw, .inl (cW, 39, .inl u2))] H := hP
      have hD : va_D A [(h0, .inr (1, [.ref ht, .int (nI n), .ref hw, .int (nI w2), .ref a1, .ref a2, .ref a3])), (hw, .inl (cW, 39, .inl u2))] := hD
      have hq2 := hg2.1
      try simp only [List.length_append, List.length_cons, List.length_nil] at hq2
      refine lv_aload_n hx hb dX1_writeDecimal_31 rfl (lv_at hl 0 rfl) ?_
      refine lv_iload_n hx hb dX1_writeDecimal_32 rfl (lv_at hl 1 rfl) ?_
      refine lv_bipush (v := nI 10) hx hb dX1_writeDecimal_33 (by decide) ?_
      refine lv_irem hx hb dX1_writeDecimal_35 (by decide) ?_
      refine tp_i (nI (v % 10)) (pk_rem (by omega) (by omega) (by omega)) ?_
      refine wc_Vv (As := [.int (nI (v % 10))]) (rest := []) (wr := []) ⟨hx, hb, hml, hown, hts⟩ (ct_writeDigit l dC dI H.size h0 ht hw a1 a2 a3 n w2 cW u2 ((O ++ [az_ch (v / 100)]) ++ [az_ch ((v / 10) % 10)]) hg2 (v % 10) (by omega) (by omega)) (cwV 1 hts gX1_writeDecimal_X1_writeDigit rfl rfl rfl (by decide +kernel) ⟨Nat.le_of_ble_eq_true rfl, Nat.le_of_ble_eq_true rfl⟩) hP hD hK hS hA [0, 1] [] [0] rfl rfl (by decide) (by decide) (by decide) rfl 0 rfl rfl rfl hl.1 rfl (Nat.le_of_ble_eq_true rfl) dX1_writeDecimal_36 ⟨(Nat.zero_le _), (Nat.zero_le _)⟩ (fun u H locs hg3 hP hD hS => ?_)
      obtain ⟨u3, w3⟩ := u
      try dsimp only at hg3
      have hP : va_P (dC, dI) azCl [(h0, .inr (1, [.ref ht, .int (nI n), .ref hw, .int (nI w3), .ref a1, .ref a2, .ref a3])), (hw, .inl (cW, 39, .inl u3))] H := hP
      have hD : va_D A [(h0, .inr (1, [.ref ht, .int (nI n), .ref hw, .int (nI w3), .ref a1, .ref a2, .ref a3])), (hw, .inl (cW, 39, .inl u3))] := hD
      have hq3 := hg3.1
      try simp only [List.length_append, List.length_cons, List.length_nil] at hq3
      exact wt_v hx hb hr ((u3, w3)) (by have h := hg3; unfold az_dec; (first | rw [if_pos c3, if_pos c17] | rw [if_pos c3, if_neg (Nat.not_le.mpr c17)] | rw [if_neg (Nat.not_le.mpr c3), if_pos c17] | rw [if_neg (Nat.not_le.mpr c3), if_neg (Nat.not_le.mpr c17)]); all_goals simpa only [List.append_assoc, List.nil_append] using h) (hP.sub [0, 1] rfl) hK (hD.sub [0, 1] (by decide) rfl) hS dX1_writeDecimal_39 hlocks
set_option maxRecDepth 100000 in
set_option maxHeartbeats 4000000 in
/-- writeHexadecimal(v) -/
theorem ct_writeHexadecimal (l : Launch) (dC : Nat → ClassId) (dI : Nat → Nat → Nat) (sz : Nat) (h0 ht hw a1 a2 a3 n w : Nat) (cW : ClassId) (g : Nat → Int32) (O : List Nat) (hg : az_ou g O w) (v : Nat) (hv : v < 65536) (hw2 : w + 4 ≤ 39) : Met l yX1_writeHexadecimal wsX1_writeHexadecimal ({ frames := 2, cells := 0, slots := 0, locals := 42 }) (wr_P (dC, dI) azCl [(h0, .inr (1, [.ref ht, .int (nI n), .ref hw, .int (nI w), .ref a1, .ref a2, .ref a3])), (hw, .inl (cW, 39, .inl g))] [(cW, .byte)] sz [.ref h0, .int (nI v)]) (va_Qv (fun u => az_ou u.1 (O ++ az_hex v) u.2) (wr_B (dC, dI) azCl [(cW, .byte)] (va_A [(h0, .inr (1, [.ref ht, .int (nI n), .ref hw, .int (nI w), .ref a1, .ref a2, .ref a3])), (hw, .inl (cW, 39, .inl g))] sz) (fun u : (Nat → Int32) × Nat => [(h0, .inr (1, [.ref ht, .int (nI n), .ref hw, .int (nI u.2), .ref a1, .ref a2, .ref a3])), (hw, .inl (cW, 39, .inl u.1))])) (va_A [(h0, .inr (1, [.ref ht, .int (nI n), .ref hw, .int (nI w), .ref a1, .ref a2, .ref a3])), (hw, .inl (cW, 39, .inl g))] sz)) 0 0 (va_A [(h0, .inr (1, [.ref ht, .int (nI n), .ref hw, .int (nI w), .ref a1, .ref a2, .ref a3])), (hw, .inl (cW, 39, .inl g))] sz) := by
  refine Met.ofW (cc := cX1_writeHexadecimal) (maxL := 3) (ret := none) (by decide) rfl ?_
  intro p e s m args below meth c s₁ Bd hml hv
  obtain ⟨rfl, hsz, hP, hK, hD0⟩ := hv
  have hx := Bd.exec
  have hb := Bd.bytes
  have hr := Bd.returns
  have hts := atoms_spec (ws := wsX1_writeHexadecimal) Bd.pre
  have hown : s.vm.findClass RX1 = some m.cls := findClass_of_methodNamed Bd.named
  have hlocks := Bd.notSynchronized
  subst hsz
  have hD := hD0.self (sz := s.heap.size)
  generalize hAe : va_A [(h0, .inr (1, [.ref ht, .int (nI n), .ref hw, .int (nI w), .ref a1, .ref a2, .ref a3])), (hw, .inl (cW, 39, .inl g))] s.heap.size = A at hD ⊢
  have hA : ∀ q : Nat, s.heap.size ≤ q → A q := fun q h => by rw [← hAe]; exact Or.inr h
  have hS : va_S A s.heap s.heap [] := va_S.rf
  have hP : va_P (dC, dI) azCl [(h0, .inr (1, [.ref ht, .int (nI n), .ref hw, .int (nI w), .ref a1, .ref a2, .ref a3])), (hw, .inl (cW, 39, .inl g))] s.heap := hP
  have hl := lv_entry ([.ref h0, .int (nI v)]) (n := 3) (Nat.le_of_ble_eq_true rfl)
  rw [lg_entry_eq]
  generalize (lg_sl ([.ref h0, .int (nI v)]) ++ List.replicate (3 - (lg_sl ([.ref h0, .int (nI v)])).length) Slot.unset).toArray = ls at hl ⊢
  have hl : lv_has ls 3 [(0, .ref h0), (1, .int (nI v))] := hl
  have hq0 := hg.1
  refine lv_bipush (v := nI 12) hx hb dX1_writeHexadecimal_0 (by decide) ?_
  refine lv_istore_n (lv' := [(2, .int (nI 12)), (0, .ref h0), (1, .int (nI v))]) hx hb dX1_writeHexadecimal_2 rfl hl (by decide) rfl (fun ls hl => ?_)
  refine lv_iload_n hx hb dX1_writeHexadecimal_3 rfl (lv_at hl 0 rfl) ?_
  refine lv_if_lt (tgt := 33) hx hb dX1_writeHexadecimal_4 (by decide) (fun c => absurd c (by decide)) (fun _ => ?_)
  refine lv_iload_n hx hb dX1_writeHexadecimal_7 rfl (lv_at hl 0 rfl) ?_
  refine lv_if_eq (tgt := 17) hx hb dX1_writeHexadecimal_8 (by decide) (fun c => absurd c (by decide)) (fun _ => ?_)
  refine lv_iload_n hx hb dX1_writeHexadecimal_11 rfl (lv_at hl 2 rfl) ?_
  refine lv_iload_n hx hb dX1_writeHexadecimal_12 rfl (lv_at hl 0 rfl) ?_
  refine lv_iushr (v := nI (v / 4096)) hx hb dX1_writeHexadecimal_13 (pk_ushrN (by omega) _ 12 (by decide)) ?_
  refine bz_eq (tgt := 27) hx hb dX1_writeHexadecimal_14 (by decide) (by omega) (fun c14 => ?_) (fun c14 => ?_)
  · refine lv_iinc (v := nI 8) (lv' := [(2, .int (nI 8)), (0, .ref h0), (1, .int (nI v))]) hx hb dX1_writeHexadecimal_27 hl (k := 0) rfl (by decide) (by decide) rfl (fun ls hl => ?_)
    refine lv_goto (tgt := 3) hx hb dX1_writeHexadecimal_30 (by decide) ?_
    refine lv_iload_n hx hb dX1_writeHexadecimal_3 rfl (lv_at hl 0 rfl) ?_
    refine lv_if_lt (tgt := 33) hx hb dX1_writeHexadecimal_4 (by decide) (fun c => absurd c (by decide)) (fun _ => ?_)
    refine lv_iload_n hx hb dX1_writeHexadecimal_7 rfl (lv_at hl 0 rfl) ?_
    refine lv_if_eq (tgt := 17) hx hb dX1_writeHexadecimal_8 (by decide) (fun c => absurd c (by decide)) (fun _ => ?_)
    refine lv_iload_n hx hb dX1_writeHexadecimal_11 rfl (lv_at hl 2 rfl) ?_
    refine lv_iload_n hx hb dX1_writeHexadecimal_12 rfl (lv_at hl 0 rfl) ?_
    refine lv_iushr (v := nI (v / 256)) hx hb dX1_writeHexadecimal_13 (pk_ushrN (by omega) _ 8 (by decide)) ?_
    refine bz_eq (tgt := 27) hx hb dX1_writeHexadecimal_14 (by decide) (by omega) (fun c14x => ?_) (fun c14x => ?_)
    · refine lv_iinc (v := nI 4) (lv' := [(2, .int (nI 4)), (0, .ref h0), (1, .int (nI v))]) hx hb dX1_writeHexadecimal_27 hl (k := 0) rfl (by decide) (by decide) rfl (fun ls hl => ?_)
      refine lv_goto (tgt := 3) hx hb dX1_writeHexadecimal_30 (by decide) ?_
      refine lv_iload_n hx hb dX1_writeHexadecimal_3 rfl (lv_at hl 0 rfl) ?_
      refine lv_if_lt (tgt := 33) hx hb dX1_writeHexadecimal_4 (by decide) (fun c => absurd c (by decide)) (fun _ => ?_)
      refine lv_iload_n hx hb dX1_writeHexadecimal_7 rfl (lv_at hl 0 rfl) ?_
      refine lv_if_eq (tgt := 17) hx hb dX1_writeHexadecimal_8 (by decide) (fun c => absurd c (by decide)) (fun _ => ?_)
      refine lv_iload_n hx hb dX1_writeHexadecimal_11 rfl (lv_at hl 2 rfl) ?_
      refine lv_iload_n hx hb dX1_writeHexadecimal_12 rfl (lv_at hl 0 rfl) ?_
      refine lv_iushr (v := nI (v / 16)) hx hb dX1_writeHexadecimal_13 (pk_ushrN (by omega) _ 4 (by decide)) ?_
      refine bz_eq (tgt := 27) hx hb dX1_writeHexadecimal_14 (by decide) (by omega) (fun c14xx => ?_) (fun c14xx => ?_)
      · refine lv_iinc (v := nI 0) (lv' := [(2, .int (nI 0)), (0, .ref h0), (1, .int (nI v))]) hx hb dX1_writeHexadecimal_27 hl (k := 0) rfl (by decide) (by decide) rfl (fun ls hl => ?_)
        refine lv_goto (tgt := 3) hx hb dX1_writeHexadecimal_30 (by decide) ?_
        refine lv_iload_n hx hb dX1_writeHexadecimal_3 rfl (lv_at hl 0 rfl) ?_
        refine lv_if_lt (tgt := 33) hx hb dX1_writeHexadecimal_4 (by decide) (fun c => absurd c (by decide)) (fun _ => ?_)
        refine lv_iload_n hx hb dX1_writeHexadecimal_7 rfl (lv_at hl 0 rfl) ?_
        refine lv_if_eq (tgt := 17) hx hb dX1_writeHexadecimal_8 (by decide) (fun _ => ?_) (fun c => absurd c (by decide))
        refine lv_aload_n hx hb dX1_writeHexadecimal_17 rfl (lv_at hl 1 rfl) ?_
        refine lv_iload_n hx hb dX1_writeHexadecimal_18 rfl (lv_at hl 2 rfl) ?_
        refine lv_iload_n hx hb dX1_writeHexadecimal_19 rfl (lv_at hl 0 rfl) ?_
        refine lv_iushr (v := nI v) hx hb dX1_writeHexadecimal_20 ((pk_ushrN (by omega) _ 0 (by decide)).trans (congrArg nI (Nat.div_one v))) ?_
        refine lv_bipush (v := nI 15) hx hb dX1_writeHexadecimal_21 (by decide) ?_
        refine lv_iand hx hb dX1_writeHexadecimal_23 ?_
        refine tp_i (nI (v % 16)) (pk_andN (by omega) 4 (by decide)) ?_
        refine wc_Vv (As := [.int (nI (v % 16))]) (rest := []) (wr := []) ⟨hx, hb, hml, hown, hts⟩ (ct_writeDigit l dC dI s.heap.size h0 ht hw a1 a2 a3 n w cW g O hg (v % 16) (by omega) (by omega)) (cwV 1 hts gX1_writeHexadecimal_X1_writeDigit rfl rfl rfl (by decide +kernel) ⟨Nat.le_of_ble_eq_true rfl, Nat.le_of_ble_eq_true rfl⟩) hP hD hK hS hA [0, 1] [] [0] rfl rfl (by decide) (by decide) (by decide) rfl 0 rfl rfl rfl hl.1 rfl (Nat.le_of_ble_eq_true rfl) dX1_writeHexadecimal_24 ⟨(Nat.zero_le _), (Nat.zero_le _)⟩ (fun u H locs hg1 hP hD hS => ?_)
        obtain ⟨u1, w1⟩ := u
        try dsimp only at hg1
        have hP : va_P (dC, dI) azCl [(h0, .inr (1, [.ref ht, .int (nI n), .ref hw, .int (nI w1), .ref a1, .ref a2, .ref a3])), (hw, .inl (cW, 39, .inl u1))] H := hP
        have hD : va_D A [(h0, .inr (1, [.ref ht, .int (nI n), .ref hw, .int (nI w1), .ref a1, .ref a2, .ref a3])), (hw, .inl (cW, 39, .inl u1))] := hD
        have hq1 := hg1.1
        try simp only [List.length_append, List.length_cons, List.length_nil] at hq1
        refine lv_iinc (v := -4) (lv' := [(2, .int (-4)), (0, .ref h0), (1, .int (nI v))]) hx hb dX1_writeHexadecimal_27 hl (k := 0) rfl (by decide) (by decide) rfl (fun ls hl => ?_)
        refine lv_goto (tgt := 3) hx hb dX1_writeHexadecimal_30 (by decide) ?_
        refine lv_iload_n hx hb dX1_writeHexadecimal_3 rfl (lv_at hl 0 rfl) ?_
        refine lv_if_lt (tgt := 33) hx hb dX1_writeHexadecimal_4 (by decide) (fun _ => ?_) (fun c => absurd c (by decide))
        exact wt_v hx hb hr ((u1, w1)) (by have h := hg1; unfold az_hex; simp only [c14, c14x, c14xx, ne_eq, not_true_eq_false, not_false_eq_true, if_true, if_false, ite_true, ite_false, List.append_assoc, List.nil_append] at h ⊢; exact h) (hP.sub [0, 1] rfl) hK (hD.sub [0, 1] (by decide) rfl) hS dX1_writeHexadecimal_33 hlocks
      · refine lv_aload_n hx hb dX1_writeHexadecimal_17 rfl (lv_at hl 1 rfl) ?_
        refine lv_iload_n hx hb dX1_writeHexadecimal_18 rfl (lv_at hl 2 rfl) ?_
        refine lv_iload_n hx hb dX1_writeHexadecimal_19 rfl (lv_at hl 0 rfl) ?_
        refine lv_iushr (v := nI (v / 16)) hx hb dX1_writeHexadecimal_20 (pk_ushrN (by omega) _ 4 (by decide)) ?_
        refine lv_bipush (v := nI 15) hx hb dX1_writeHexadecimal_21 (by decide) ?_
        refine lv_iand hx hb dX1_writeHexadecimal_23 ?_
        refine tp_i (nI ((v / 16) % 16)) (pk_andN (by omega) 4 (by decide)) ?_
        refine wc_Vv (As := [.int (nI ((v / 16) % 16))]) (rest := []) (wr := []) ⟨hx, hb, hml, hown, hts⟩ (ct_writeDigit l dC dI s.heap.size h0 ht hw a1 a2 a3 n w cW g O hg ((v / 16) % 16) (by omega) (by omega)) (cwV 1 hts gX1_writeHexadecimal_X1_writeDigit rfl rfl rfl (by decide +kernel) ⟨Nat.le_of_ble_eq_true rfl, Nat.le_of_ble_eq_true rfl⟩) hP hD hK hS hA [0, 1] [] [0] rfl rfl (by decide) (by decide) (by decide) rfl 0 rfl rfl rfl hl.1 rfl (Nat.le_of_ble_eq_true rfl) dX1_writeHexadecimal_24 ⟨(Nat.zero_le _), (Nat.zero_le _)⟩ (fun u H locs hg1 hP hD hS => ?_)
        obtain ⟨u1, w1⟩ := u
        try dsimp only at hg1
        have hP : va_P (dC, dI) azCl [(h0, .inr (1, [.ref ht, .int (nI n), .ref hw, .int (nI w1), .ref a1, .ref a2, .ref a3])), (hw, .inl (cW, 39, .inl u1))] H := hP
        have hD : va_D A [(h0, .inr (1, [.ref ht, .int (nI n), .ref hw, .int (nI w1), .ref a1, .ref a2, .ref a3])), (hw, .inl (cW, 39, .inl u1))] := hD
        have hq1 := hg1.1
        try simp only [List.length_append, List.length_cons, List.length_nil] at hq1
        refine lv_iinc (v := nI 0) (lv' := [(2, .int (nI 0)), (0, .ref h0), (1, .int (nI v))]) hx hb dX1_writeHexadecimal_27 hl (k := 0) rfl (by decide) (by decide) rfl (fun ls hl => ?_)
        refine lv_goto (tgt := 3) hx hb dX1_writeHexadecimal_30 (by decide) ?_
        refine lv_iload_n hx hb dX1_writeHexadecimal_3 rfl (lv_at hl 0 rfl) ?_
        refine lv_if_lt (tgt := 33) hx hb dX1_writeHexadecimal_4 (by decide) (fun c => absurd c (by decide)) (fun _ => ?_)
        refine lv_iload_n hx hb dX1_writeHexadecimal_7 rfl (lv_at hl 0 rfl) ?_
        refine lv_if_eq (tgt := 17) hx hb dX1_writeHexadecimal_8 (by decide) (fun _ => ?_) (fun c => absurd c (by decide))
        refine lv_aload_n hx hb dX1_writeHexadecimal_17 rfl (lv_at hl 1 rfl) ?_
        refine lv_iload_n hx hb dX1_writeHexadecimal_18 rfl (lv_at hl 2 rfl) ?_
        refine lv_iload_n hx hb dX1_writeHexadecimal_19 rfl (lv_at hl 0 rfl) ?_
        refine lv_iushr (v := nI v) hx hb dX1_writeHexadecimal_20 ((pk_ushrN (by omega) _ 0 (by decide)).trans (congrArg nI (Nat.div_one v))) ?_
        refine lv_bipush (v := nI 15) hx hb dX1_writeHexadecimal_21 (by decide) ?_
        refine lv_iand hx hb dX1_writeHexadecimal_23 ?_
        refine tp_i (nI (v % 16)) (pk_andN (by omega) 4 (by decide)) ?_
        refine wc_Vv (As := [.int (nI (v % 16))]) (rest := []) (wr := []) ⟨hx, hb, hml, hown, hts⟩ (ct_writeDigit l dC dI H.size h0 ht hw a1 a2 a3 n w1 cW u1 (O ++ [az_ch ((v / 16) % 16)]) hg1 (v % 16) (by omega) (by omega)) (cwV 1 hts gX1_writeHexadecimal_X1_writeDigit rfl rfl rfl (by decide +kernel) ⟨Nat.le_of_ble_eq_true rfl, Nat.le_of_ble_eq_true rfl⟩) hP hD hK hS hA [0, 1] [] [0] rfl rfl (by decide) (by decide) (by decide) rfl 0 rfl rfl rfl hl.1 rfl (Nat.le_of_ble_eq_true rfl) dX1_writeHexadecimal_24 ⟨(Nat.zero_le _), (Nat.zero_le _)⟩ (fun u H locs hg2 hP hD hS => ?_)
        obtain ⟨u2, w2⟩ := u
        try dsimp only at hg2
        have hP : va_P (dC, dI) azCl [(h0, .inr (1, [.ref ht, .int (nI n), .ref hw, .int (nI w2), .ref a1, .ref a2, .ref a3])), (hw, .inl (cW, 39, .inl u2))] H := hP
        have hD : va_D A [(h0, .inr (1, [.ref ht, .int (nI n), .ref hw, .int (nI w2), .ref a1, .ref a2, .ref a3])), (hw, .inl (cW, 39, .inl u2))] := hD
        have hq2 := hg2.1
        try simp only [List.length_append, List.length_cons, List.length_nil] at hq2
        refine lv_iinc (v := -4) (lv' := [(2, .int (-4)), (0, .ref h0), (1, .int (nI v))]) hx hb dX1_writeHexadecimal_27 hl (k := 0) rfl (by decide) (by decide) rfl (fun ls hl => ?_)
        refine lv_goto (tgt := 3) hx hb dX1_writeHexadecimal_30 (by decide) ?_
        refine lv_iload_n hx hb dX1_writeHexadecimal_3 rfl (lv_at hl 0 rfl) ?_
        refine lv_if_lt (tgt := 33) hx hb dX1_writeHexadecimal_4 (by decide) (fun _ => ?_) (fun c => absurd c (by decide))
        exact wt_v hx hb hr ((u2, w2)) (by have h := hg2; unfold az_hex; simp only [c14, c14x, c14xx, ne_eq, not_true_eq_false, not_false_eq_true, if_true, if_false, ite_true, ite_false, List.append_assoc, List.nil_append] at h ⊢; exact h) (hP.sub [0, 1] rfl) hK (hD.sub [0, 1] (by decide) rfl) hS dX1_writeHexadecimal_33 hlocks
    · refine lv_aload_n hx hb dX1_writeHexadecimal_17 rfl (lv_at hl 1 rfl) ?_
      refine lv_iload_n hx hb dX1_writeHexadecimal_18 rfl (lv_at hl 2 rfl) ?_
      refine lv_iload_n hx hb dX1_writeHexadecimal_19 rfl (lv_at hl 0 rfl) ?_
      refine lv_iushr (v := nI (v / 256)) hx hb dX1_writeHexadecimal_20 (pk_ushrN (by omega) _ 8 (by decide)) ?_
      refine lv_bipush (v := nI 15) hx hb dX1_writeHexadecimal_21 (by decide) ?_
      refine lv_iand hx hb dX1_writeHexadecimal_23 ?_
      refine tp_i (nI ((v / 256) % 16)) (pk_andN (by omega) 4 (by decide)) ?_
      refine wc_Vv (As := [.int (nI ((v / 256) % 16))]) (rest := []) (wr := []) ⟨hx, hb, hml, hown, hts⟩ (ct_writeDigit l dC dI s.heap.size h0 ht hw a1 a2 a3 n w cW g O hg ((v / 256) % 16) (by omega) (by omega)) (cwV 1 hts gX1_writeHexadecimal_X1_writeDigit rfl rfl rfl (by decide +kernel) ⟨Nat.le_of_ble_eq_true rfl, Nat.le_of_ble_eq_true rfl⟩) hP hD hK hS hA [0, 1] [] [0] rfl rfl (by decide) (by decide) (by decide) rfl 0 rfl rfl rfl hl.1 rfl (Nat.le_of_ble_eq_true rfl) dX1_writeHexadecimal_24 ⟨(Nat.zero_le _), (Nat.zero_le _)⟩ (fun u H locs hg1 hP hD hS => ?_)
      obtain ⟨u1, w1⟩ := u
      try dsimp only at hg1
      have hP : va_P (dC, dI) azCl [(h0, .inr (1, [.ref ht, .int (nI n), .ref hw, .int (nI w1), .ref a1, .ref a2, .ref a3])), (hw, .inl (cW, 39, .inl u1))] H := hP
      have hD : va_D A [(h0, .inr (1, [.ref ht, .int (nI n), .ref hw, .int (nI w1), .ref a1, .ref a2, .ref a3])), (hw, .inl (cW, 39, .inl u1))] := hD
      have hq1 := hg1.1
      try simp only [List.length_append, List.length_cons, List.length_nil] at hq1
      refine lv_iinc (v := nI 4) (lv' := [(2, .int (nI 4)), (0, .ref h0), (1, .int (nI v))]) hx hb dX1_writeHexadecimal_27 hl (k := 0) rfl (by decide) (by decide) rfl (fun ls hl => ?_)
      refine lv_goto (tgt := 3) hx hb dX1_writeHexadecimal_30 (by decide) ?_
      refine lv_iload_n hx hb dX1_writeHexadecimal_3 rfl (lv_at hl 0 rfl) ?_
      refine lv_if_lt (tgt := 33) hx hb dX1_writeHexadecimal_4 (by decide) (fun c => absurd c (by decide)) (fun _ => ?_)
      refine lv_iload_n hx hb dX1_writeHexadecimal_7 rfl (lv_at hl 0 rfl) ?_
      refine lv_if_eq (tgt := 17) hx hb dX1_writeHexadecimal_8 (by decide) (fun c => absurd c (by decide)) (fun _ => ?_)
      refine lv_iload_n hx hb dX1_writeHexadecimal_11 rfl (lv_at hl 2 rfl) ?_
      refine lv_iload_n hx hb dX1_writeHexadecimal_12 rfl (lv_at hl 0 rfl) ?_
      refine lv_iushr (v := nI (v / 16)) hx hb dX1_writeHexadecimal_13 (pk_ushrN (by omega) _ 4 (by decide)) ?_
      refine bz_eq (tgt := 27) hx hb dX1_writeHexadecimal_14 (by decide) (by omega) (fun c14xx => ?_) (fun c14xx => ?_)
      · refine lv_iinc (v := nI 0) (lv' := [(2, .int (nI 0)), (0, .ref h0), (1, .int (nI v))]) hx hb dX1_writeHexadecimal_27 hl (k := 0) rfl (by decide) (by decide) rfl (fun ls hl => ?_)
        refine lv_goto (tgt := 3) hx hb dX1_writeHexadecimal_30 (by decide) ?_
        refine lv_iload_n hx hb dX1_writeHexadecimal_3 rfl (lv_at hl 0 rfl) ?_
        refine lv_if_lt (tgt := 33) hx hb dX1_writeHexadecimal_4 (by decide) (fun c => absurd c (by decide)) (fun _ => ?_)
        refine lv_iload_n hx hb dX1_writeHexadecimal_7 rfl (lv_at hl 0 rfl) ?_
        refine lv_if_eq (tgt := 17) hx hb dX1_writeHexadecimal_8 (by decide) (fun _ => ?_) (fun c => absurd c (by decide))
        refine lv_aload_n hx hb dX1_writeHexadecimal_17 rfl (lv_at hl 1 rfl) ?_
        refine lv_iload_n hx hb dX1_writeHexadecimal_18 rfl (lv_at hl 2 rfl) ?_
        refine lv_iload_n hx hb dX1_writeHexadecimal_19 rfl (lv_at hl 0 rfl) ?_
        refine lv_iushr (v := nI v) hx hb dX1_writeHexadecimal_20 ((pk_ushrN (by omega) _ 0 (by decide)).trans (congrArg nI (Nat.div_one v))) ?_
        refine lv_bipush (v := nI 15) hx hb dX1_writeHexadecimal_21 (by decide) ?_
        refine lv_iand hx hb dX1_writeHexadecimal_23 ?_
        refine tp_i (nI (v % 16)) (pk_andN (by omega) 4 (by decide)) ?_
        refine wc_Vv (As := [.int (nI (v % 16))]) (rest := []) (wr := []) ⟨hx, hb, hml, hown, hts⟩ (ct_writeDigit l dC dI H.size h0 ht hw a1 a2 a3 n w1 cW u1 (O ++ [az_ch ((v / 256) % 16)]) hg1 (v % 16) (by omega) (by omega)) (cwV 1 hts gX1_writeHexadecimal_X1_writeDigit rfl rfl rfl (by decide +kernel) ⟨Nat.le_of_ble_eq_true rfl, Nat.le_of_ble_eq_true rfl⟩) hP hD hK hS hA [0, 1] [] [0] rfl rfl (by decide) (by decide) (by decide) rfl 0 rfl rfl rfl hl.1 rfl (Nat.le_of_ble_eq_true rfl) dX1_writeHexadecimal_24 ⟨(Nat.zero_le _), (Nat.zero_le _)⟩ (fun u H locs hg2 hP hD hS => ?_)
        obtain ⟨u2, w2⟩ := u
        try dsimp only at hg2
        have hP : va_P (dC, dI) azCl [(h0, .inr (1, [.ref ht, .int (nI n), .ref hw, .int (nI w2), .ref a1, .ref a2, .ref a3])), (hw, .inl (cW, 39, .inl u2))] H := hP
        have hD : va_D A [(h0, .inr (1, [.ref ht, .int (nI n), .ref hw, .int (nI w2), .ref a1, .ref a2, .ref a3])), (hw, .inl (cW, 39, .inl u2))] := hD
        have hq2 := hg2.1
        try simp only [List.length_append, List.length_cons, List.length_nil] at hq2
        refine lv_iinc (v := -4) (lv' := [(2, .int (-4)), (0, .ref h0), (1, .int (nI v))]) hx hb dX1_writeHexadecimal_27 hl (k := 0) rfl (by decide) (by decide) rfl (fun ls hl => ?_)
        refine lv_goto (tgt := 3) hx hb dX1_writeHexadecimal_30 (by decide) ?_
        refine lv_iload_n hx hb dX1_writeHexadecimal_3 rfl (lv_at hl 0 rfl) ?_
        refine lv_if_lt (tgt := 33) hx hb dX1_writeHexadecimal_4 (by decide) (fun _ => ?_) (fun c => absurd c (by decide))
        exact wt_v hx hb hr ((u2, w2)) (by have h := hg2; unfold az_hex; simp only [c14, c14x, c14xx, ne_eq, not_true_eq_false, not_false_eq_true, if_true, if_false, ite_true, ite_false, List.append_assoc, List.nil_append] at h ⊢; exact h) (hP.sub [0, 1] rfl) hK (hD.sub [0, 1] (by decide) rfl) hS dX1_writeHexadecimal_33 hlocks
      · refine lv_aload_n hx hb dX1_writeHexadecimal_17 rfl (lv_at hl 1 rfl) ?_
        refine lv_iload_n hx hb dX1_writeHexadecimal_18 rfl (lv_at hl 2 rfl) ?_
        refine lv_iload_n hx hb dX1_writeHexadecimal_19 rfl (lv_at hl 0 rfl) ?_
        refine lv_iushr (v := nI (v / 16)) hx hb dX1_writeHexadecimal_20 (pk_ushrN (by omega) _ 4 (by decide)) ?_
        refine lv_bipush (v := nI 15) hx hb dX1_writeHexadecimal_21 (by decide) ?_
        refine lv_iand hx hb dX1_writeHexadecimal_23 ?_
        refine tp_i (nI ((v / 16) % 16)) (pk_andN (by omega) 4 (by decide)) ?_
        refine wc_Vv (As := [.int (nI ((v / 16) % 16))]) (rest := []) (wr := []) ⟨hx, hb, hml, hown, hts⟩ (ct_writeDigit l dC dI H.size h0 ht hw a1 a2 a3 n w1 cW u1 (O ++ [az_ch ((v / 256) % 16)]) hg1 ((v / 16) % 16) (by omega) (by omega)) (cwV 1 hts gX1_writeHexadecimal_X1_writeDigit rfl rfl rfl (by decide +kernel) ⟨Nat.le_of_ble_eq_true rfl, Nat.le_of_ble_eq_true rfl⟩) hP hD hK hS hA [0, 1] [] [0] rfl rfl (by decide) (by decide) (by decide) rfl 0 rfl rfl rfl hl.1 rfl (Nat.le_of_ble_eq_true rfl) dX1_writeHexadecimal_24 ⟨(Nat.zero_le _), (Nat.zero_le _)⟩ (fun u H locs hg2 hP hD hS => ?_)
        obtain ⟨u2, w2⟩ := u
        try dsimp only at hg2
        have hP : va_P (dC, dI) azCl [(h0, .inr (1, [.ref ht, .int (nI n), .ref hw, .int (nI w2), .ref a1, .ref a2, .ref a3])), (hw, .inl (cW, 39, .inl u2))] H := hP
        have hD : va_D A [(h0, .inr (1, [.ref ht, .int (nI n), .ref hw, .int (nI w2), .ref a1, .ref a2, .ref a3])), (hw, .inl (cW, 39, .inl u2))] := hD
        have hq2 := hg2.1
        try simp only [List.length_append, List.length_cons, List.length_nil] at hq2
        refine lv_iinc (v := nI 0) (lv' := [(2, .int (nI 0)), (0, .ref h0), (1, .int (nI v))]) hx hb dX1_writeHexadecimal_27 hl (k := 0) rfl (by decide) (by decide) rfl (fun ls hl => ?_)
        refine lv_goto (tgt := 3) hx hb dX1_writeHexadecimal_30 (by decide) ?_
        refine lv_iload_n hx hb dX1_writeHexadecimal_3 rfl (lv_at hl 0 rfl) ?_
        refine lv_if_lt (tgt := 33) hx hb dX1_writeHexadecimal_4 (by decide) (fun c => absurd c (by decide)) (fun _ => ?_)
        refine lv_iload_n hx hb dX1_writeHexadecimal_7 rfl (lv_at hl 0 rfl) ?_
        refine lv_if_eq (tgt := 17) hx hb dX1_writeHexadecimal_8 (by decide) (fun _ => ?_) (fun c => absurd c (by decide))
        refine lv_aload_n hx hb dX1_writeHexadecimal_17 rfl (lv_at hl 1 rfl) ?_
        refine lv_iload_n hx hb dX1_writeHexadecimal_18 rfl (lv_at hl 2 rfl) ?_
        refine lv_iload_n hx hb dX1_writeHexadecimal_19 rfl (lv_at hl 0 rfl) ?_
        refine lv_iushr (v := nI v) hx hb dX1_writeHexadecimal_20 ((pk_ushrN (by omega) _ 0 (by decide)).trans (congrArg nI (Nat.div_one v))) ?_
        refine lv_bipush (v := nI 15) hx hb dX1_writeHexadecimal_21 (by decide) ?_
        refine lv_iand hx hb dX1_writeHexadecimal_23 ?_
        refine tp_i (nI (v % 16)) (pk_andN (by omega) 4 (by decide)) ?_
        refine wc_Vv (As := [.int (nI (v % 16))]) (rest := []) (wr := []) ⟨hx, hb, hml, hown, hts⟩ (ct_writeDigit l dC dI H.size h0 ht hw a1 a2 a3 n w2 cW u2 ((O ++ [az_ch ((v / 256) % 16)]) ++ [az_ch ((v / 16) % 16)]) hg2 (v % 16) (by omega) (by omega)) (cwV 1 hts gX1_writeHexadecimal_X1_writeDigit rfl rfl rfl (by decide +kernel) ⟨Nat.le_of_ble_eq_true rfl, Nat.le_of_ble_eq_true rfl⟩) hP hD hK hS hA [0, 1] [] [0] rfl rfl (by decide) (by decide) (by decide) rfl 0 rfl rfl rfl hl.1 rfl (Nat.le_of_ble_eq_true rfl) dX1_writeHexadecimal_24 ⟨(Nat.zero_le _), (Nat.zero_le _)⟩ (fun u H locs hg3 hP hD hS => ?_)
        obtain ⟨u3, w3⟩ := u
        try dsimp only at hg3
        have hP : va_P (dC, dI) azCl [(h0, .inr (1, [.ref ht, .int (nI n), .ref hw, .int (nI w3), .ref a1, .ref a2, .ref a3])), (hw, .inl (cW, 39, .inl u3))] H := hP
        have hD : va_D A [(h0, .inr (1, [.ref ht, .int (nI n), .ref hw, .int (nI w3), .ref a1, .ref a2, .ref a3])), (hw, .inl (cW, 39, .inl u3))] := hD
        have hq3 := hg3.1
        try simp only [List.length_append, List.length_cons, List.length_nil] at hq3
        refine lv_iinc (v := -4) (lv' := [(2, .int (-4)), (0, .ref h0), (1, .int (nI v))]) hx hb dX1_writeHexadecimal_27 hl (k := 0) rfl (by decide) (by decide) rfl (fun ls hl => ?_)
        refine lv_goto (tgt := 3) hx hb dX1_writeHexadecimal_30 (by decide) ?_
        refine lv_iload_n hx hb dX1_writeHexadecimal_3 rfl (lv_at hl 0 rfl) ?_
        refine lv_if_lt (tgt := 33) hx hb dX1_writeHexadecimal_4 (by decide) (fun _ => ?_) (fun c => absurd c (by decide))
        exact wt_v hx hb hr ((u3, w3)) (by have h := hg3; unfold az_hex; simp only [c14, c14x, c14xx, ne_eq, not_true_eq_false, not_false_eq_true, if_true, if_false, ite_true, ite_false, List.append_assoc, List.nil_append] at h ⊢; exact h) (hP.sub [0, 1] rfl) hK (hD.sub [0, 1] (by decide) rfl) hS dX1_writeHexadecimal_33 hlocks
  · refine lv_aload_n hx hb dX1_writeHexadecimal_17 rfl (lv_at hl 1 rfl) ?_
    refine lv_iload_n hx hb dX1_writeHexadecimal_18 rfl (lv_at hl 2 rfl) ?_
    refine lv_iload_n hx hb dX1_writeHexadecimal_19 rfl (lv_at hl 0 rfl) ?_
    refine lv_iushr (v := nI (v / 4096)) hx hb dX1_writeHexadecimal_20 (pk_ushrN (by omega) _ 12 (by decide)) ?_
    refine lv_bipush (v := nI 15) hx hb dX1_writeHexadecimal_21 (by decide) ?_
    refine lv_iand hx hb dX1_writeHexadecimal_23 ?_
    refine tp_i (nI ((v / 4096) % 16)) (pk_andN (by omega) 4 (by decide)) ?_
    refine wc_Vv (As := [.int (nI ((v / 4096) % 16))]) (rest := []) (wr := []) ⟨hx, hb, hml, hown, hts⟩ (ct_writeDigit l dC dI s.heap.size h0 ht hw a1 a2 a3 n w cW g O hg ((v / 4096) % 16) (by omega) (by omega)) (cwV 1 hts gX1_writeHexadecimal_X1_writeDigit rfl rfl rfl (by decide +kernel) ⟨Nat.le_of_ble_eq_true rfl, Nat.le_of_ble_eq_true rfl⟩) hP hD hK hS hA [0, 1] [] [0] rfl rfl (by decide) (by decide) (by decide) rfl 0 rfl rfl rfl hl.1 rfl (Nat.le_of_ble_eq_true rfl) dX1_writeHexadecimal_24 ⟨(Nat.zero_le _), (Nat.zero_le _)⟩ (fun u H locs hg1 hP hD hS => ?_)
    obtain ⟨u1, w1⟩ := u
    try dsimp only at hg1
    have hP : va_P (dC, dI) azCl [(h0, .inr (1, [.ref ht, .int (nI n), .ref hw, .int (nI w1), .ref a1, .ref a2, .ref a3])), (hw, .inl (cW, 39, .inl u1))] H := hP
    have hD : va_D A [(h0, .inr (1, [.ref ht, .int (nI n), .ref hw, .int (nI w1), .ref a1, .ref a2, .ref a3])), (hw, .inl (cW, 39, .inl u1))] := hD
    have hq1 := hg1.1
    try simp only [List.length_append, List.length_cons, List.length_nil] at hq1
    refine lv_iinc (v := nI 8) (lv' := [(2, .int (nI 8)), (0, .ref h0), (1, .int (nI v))]) hx hb dX1_writeHexadecimal_27 hl (k := 0) rfl (by decide) (by decide) rfl (fun ls hl => ?_)
    refine lv_goto (tgt := 3) hx hb dX1_writeHexadecimal_30 (by decide) ?_
    refine lv_iload_n hx hb dX1_writeHexadecimal_3 rfl (lv_at hl 0 rfl) ?_
    refine lv_if_lt (tgt := 33) hx hb dX1_writeHexadecimal_4 (by decide) (fun c => absurd c (by decide)) (fun _ => ?_)
    refine lv_iload_n hx hb dX1_writeHexadecimal_7 rfl (lv_at hl 0 rfl) ?_
    refine lv_if_eq (tgt := 17) hx hb dX1_writeHexadecimal_8 (by decide) (fun c => absurd c (by decide)) (fun _ => ?_)
    refine lv_iload_n hx hb dX1_writeHexadecimal_11 rfl (lv_at hl 2 rfl) ?_
    refine lv_iload_n hx hb dX1_writeHexadecimal_12 rfl (lv_at hl 0 rfl) ?_
    refine lv_iushr (v := nI (v / 256)) hx hb dX1_writeHexadecimal_13 (pk_ushrN (by omega) _ 8 (by decide)) ?_
    refine bz_eq (tgt := 27) hx hb dX1_writeHexadecimal_14 (by decide) (by omega) (fun c14x => ?_) (fun c14x => ?_)
    · refine lv_iinc (v := nI 4) (lv' := [(2, .int (nI 4)), (0, .ref h0), (1, .int (nI v))]) hx hb dX1_writeHexadecimal_27 hl (k := 0) rfl (by decide) (by decide) rfl (fun ls hl => ?_)
      refine lv_goto (tgt := 3) hx hb dX1_writeHexadecimal_30 (by decide) ?_
      refine lv_iload_n hx hb dX1_writeHexadecimal_3 rfl (lv_at hl 0 rfl) ?_
      refine lv_if_lt (tgt := 33) hx hb dX1_writeHexadecimal_4 (by decide) (fun c => absurd c (by decide)) (fun _ => ?_)
      refine lv_iload_n hx hb dX1_writeHexadecimal_7 rfl (lv_at hl 0 rfl) ?_
      refine lv_if_eq (tgt := 17) hx hb dX1_writeHexadecimal_8 (by decide) (fun c => absurd c (by decide)) (fun _ => ?_)
      refine lv_iload_n hx hb dX1_writeHexadecimal_11 rfl (lv_at hl 2 rfl) ?_
      refine lv_iload_n hx hb dX1_writeHexadecimal_12 rfl (lv_at hl 0 rfl) ?_
      refine lv_iushr (v := nI (v / 16)) hx hb dX1_writeHexadecimal_13 (pk_ushrN (by omega) _ 4 (by decide)) ?_
      refine bz_eq (tgt := 27) hx hb dX1_writeHexadecimal_14 (by decide) (by omega) (fun c14xx => ?_) (fun c14xx => ?_)
      · refine lv_iinc (v := nI 0) (lv' := [(2, .int (nI 0)), (0, .ref h0), (1, .int (nI v))]) hx hb dX1_writeHexadecimal_27 hl (k := 0) rfl (by decide) (by decide) rfl (fun ls hl => ?_)
        refine lv_goto (tgt := 3) hx hb dX1_writeHexadecimal_30 (by decide) ?_
        refine lv_iload_n hx hb dX1_writeHexadecimal_3 rfl (lv_at hl 0 rfl) ?_
        refine lv_if_lt (tgt := 33) hx hb dX1_writeHexadecimal_4 (by decide) (fun c => absurd c (by decide)) (fun _ => ?_)
        refine lv_iload_n hx hb dX1_writeHexadecimal_7 rfl (lv_at hl 0 rfl) ?_
        refine lv_if_eq (tgt := 17) hx hb dX1_writeHexadecimal_8 (by decide) (fun _ => ?_) (fun c => absurd c (by decide))
        refine lv_aload_n hx hb dX1_writeHexadecimal_17 rfl (lv_at hl 1 rfl) ?_
        refine lv_iload_n hx hb dX1_writeHexadecimal_18 rfl (lv_at hl 2 rfl) ?_
        refine lv_iload_n hx hb dX1_writeHexadecimal_19 rfl (lv_at hl 0 rfl) ?_
        refine lv_iushr (v := nI v) hx hb dX1_writeHexadecimal_20 ((pk_ushrN (by omega) _ 0 (by decide)).trans (congrArg nI (Nat.div_one v))) ?_
        refine lv_bipush (v := nI 15) hx hb dX1_writeHexadecimal_21 (by decide) ?_
        refine lv_iand hx hb dX1_writeHexadecimal_23 ?_
        refine tp_i (nI (v % 16)) (pk_andN (by omega) 4 (by decide)) ?_
        refine wc_Vv (As := [.int (nI (v % 16))]) (rest := []) (wr := []) ⟨hx, hb, hml, hown, hts⟩ (ct_writeDigit l dC dI H.size h0 ht hw a1 a2 a3 n w1 cW u1 (O ++ [az_ch ((v / 4096) % 16)]) hg1 (v % 16) (by omega) (by omega)) (cwV 1 hts gX1_writeHexadecimal_X1_writeDigit rfl rfl rfl (by decide +kernel) ⟨Nat.le_of_ble_eq_true rfl, Nat.le_of_ble_eq_true rfl⟩) hP hD hK hS hA [0, 1] [] [0] rfl rfl (by decide) (by decide) (by decide) rfl 0 rfl rfl rfl hl.1 rfl (Nat.le_of_ble_eq_true rfl) dX1_writeHexadecimal_24 ⟨(Nat.zero_le _), (Nat.zero_le _)⟩ (fun u H locs hg2 hP hD hS => ?_)
        obtain ⟨u2, w2⟩ := u
        try dsimp only at hg2
        have hP : va_P (dC, dI) azCl [(h0, .inr (1, [.ref ht, .int (nI n), .ref hw, .int (nI w2), .ref a1, .ref a2, .ref a3])), (hw, .inl (cW, 39, .inl u2))] H := hP
        have hD : va_D A [(h0, .inr (1, [.ref ht, .int (nI n), .ref hw, .int (nI w2), .ref a1, .ref a2, .ref a3])), (hw, .inl (cW, 39, .inl u2))] := hD
        have hq2 := hg2.1
        try simp only [List.length_append, List.length_cons, List.length_nil] at hq2
        refine lv_iinc (v := -4) (lv' := [(2, .int (-4)), (0, .ref h0), (1, .int (nI v))]) hx hb dX1_writeHexadecimal_27 hl (k := 0) rfl (by decide) (by decide) rfl (fun ls hl => ?_)
        refine lv_goto (tgt := 3) hx hb dX1_writeHexadecimal_30 (by decide) ?_
        refine lv_iload_n hx hb dX1_writeHexadecimal_3 rfl (lv_at hl 0 rfl) ?_
        refine lv_if_lt (tgt := 33) hx hb dX1_writeHexadecimal_4 (by decide) (fun _ => ?_) (fun c => absurd c (by decide))
        exact wt_v hx hb hr ((u2, w2)) (by have h := hg2; unfold az_hex; simp only [c14, c14x, c14xx, ne_eq, not_true_eq_false, not_false_eq_true, if_true, if_false, ite_true, ite_false, List.append_assoc, List.nil_append] at h ⊢; exact h) (hP.sub [0, 1] rfl) hK (hD.sub [0, 1] (by decide) rfl) hS dX1_writeHexadecimal_33 hlocks
      · refine lv_aload_n hx hb dX1_writeHexadecimal_17 rfl (lv_at hl 1 rfl) ?_
        refine lv_iload_n hx hb dX1_writeHexadecimal_18 rfl (lv_at hl 2 rfl) ?_
        refine lv_iload_n hx hb dX1_writeHexadecimal_19 rfl (lv_at hl 0 rfl) ?_
        refine lv_iushr (v := nI (v / 16)) hx hb dX1_writeHexadecimal_20 (pk_ushrN (by omega) _ 4 (by decide)) ?_
        refine lv_bipush (v := nI 15) hx hb dX1_writeHexadecimal_21 (by decide) ?_
        refine lv_iand hx hb dX1_writeHexadecimal_23 ?_
        refine tp_i (nI ((v / 16) % 16)) (pk_andN (by omega) 4 (by decide)) ?_
        refine wc_Vv (As := [.int (nI ((v / 16) % 16))]) (rest := []) (wr := []) ⟨hx, hb, hml, hown, hts⟩ (ct_writeDigit l dC dI H.size h0 ht hw a1 a2 a3 n w1 cW u1 (O ++ [az_ch ((v / 4096) % 16)]) hg1 ((v / 16) % 16) (by omega) (by omega)) (cwV 1 hts gX1_writeHexadecimal_X1_writeDigit rfl rfl rfl (by decide +kernel) ⟨Nat.le_of_ble_eq_true rfl, Nat.le_of_ble_eq_true rfl⟩) hP hD hK hS hA [0, 1] [] [0] rfl rfl (by decide) (by decide) (by decide) rfl 0 rfl rfl rfl hl.1 rfl (Nat.le_of_ble_eq_true rfl) dX1_writeHexadecimal_24 ⟨(Nat.zero_le _), (Nat.zero_le _)⟩ (fun u H locs hg2 hP hD hS => ?_)
        obtain ⟨u2, w2⟩ := u
        try dsimp only at hg2
        have hP : va_P (dC, dI) azCl [(h0, .inr (1, [.ref ht, .int (nI n), .ref hw, .int (nI w2), .ref a1, .ref a2, .ref a3])), (hw, .inl (cW, 39, .inl u2))] H := hP
        have hD : va_D A [(h0, .inr (1, [.ref ht, .int (nI n), .ref hw, .int (nI w2), .ref a1, .ref a2, .ref a3])), (hw, .inl (cW, 39, .inl u2))] := hD
        have hq2 := hg2.1
        try simp only [List.length_append, List.length_cons, List.length_nil] at hq2
        refine lv_iinc (v := nI 0) (lv' := [(2, .int (nI 0)), (0, .ref h0), (1, .int (nI v))]) hx hb dX1_writeHexadecimal_27 hl (k := 0) rfl (by decide) (by decide) rfl (fun ls hl => ?_)
        refine lv_goto (tgt := 3) hx hb dX1_writeHexadecimal_30 (by decide) ?_
        refine lv_iload_n hx hb dX1_writeHexadecimal_3 rfl (lv_at hl 0 rfl) ?_
        refine lv_if_lt (tgt := 33) hx hb dX1_writeHexadecimal_4 (by decide) (fun c => absurd c (by decide)) (fun _ => ?_)
        refine lv_iload_n hx hb dX1_writeHexadecimal_7 rfl (lv_at hl 0 rfl) ?_
        refine lv_if_eq (tgt := 17) hx hb dX1_writeHexadecimal_8 (by decide) (fun _ => ?_) (fun c => absurd c (by decide))
        refine lv_aload_n hx hb dX1_writeHexadecimal_17 rfl (lv_at hl 1 rfl) ?_
        refine lv_iload_n hx hb dX1_writeHexadecimal_18 rfl (lv_at hl 2 rfl) ?_
        refine lv_iload_n hx hb dX1_writeHexadecimal_19 rfl (lv_at hl 0 rfl) ?_
        refine lv_iushr (v := nI v) hx hb dX1_writeHexadecimal_20 ((pk_ushrN (by omega) _ 0 (by decide)).trans (congrArg nI (Nat.div_one v))) ?_
        refine lv_bipush (v := nI 15) hx hb dX1_writeHexadecimal_21 (by decide) ?_
        refine lv_iand hx hb dX1_writeHexadecimal_23 ?_
        refine tp_i (nI (v % 16)) (pk_andN (by omega) 4 (by decide)) ?_
        refine wc_Vv (As := [.int (nI (v % 16))]) (rest := []) (wr := []) ⟨hx, hb, hml, hown, hts⟩ (ct_writeDigit l dC dI H.size h0 ht hw a1 a2 a3 n w2 cW u2 ((O ++ [az_ch ((v / 4096) % 16)]) ++ [az_ch ((v / 16) % 16)]) hg2 (v % 16) (by omega) (by omega)) (cwV 1 hts gX1_writeHexadecimal_X1_writeDigit rfl rfl rfl (by decide +kernel) ⟨Nat.le_of_ble_eq_true rfl, Nat.le_of_ble_eq_true rfl⟩) hP hD hK hS hA [0, 1] [] [0] rfl rfl (by decide) (by decide) (by decide) rfl 0 rfl rfl rfl hl.1 rfl (Nat.le_of_ble_eq_true rfl) dX1_writeHexadecimal_24 ⟨(Nat.zero_le _), (Nat.zero_le _)⟩ (fun u H locs hg3 hP hD hS => ?_)
        obtain ⟨u3, w3⟩ := u
        try dsimp only at hg3
        have hP : va_P (dC, dI) azCl [(h0, .inr (1, [.ref ht, .int (nI n), .ref hw, .int (nI w3), .ref a1, .ref a2, .ref a3])), (hw, .inl (cW, 39, .inl u3))] H := hP
        have hD : va_D A [(h0, .inr (1, [.ref ht, .int (nI n), .ref hw, .int (nI w3), .ref a1, .ref a2, .ref a3])), (hw, .inl (cW, 39, .inl u3))] := hD
        have hq3 := hg3.1
        try simp only [List.length_append, List.length_cons, List.length_nil] at hq3
        refine lv_iinc (v := -4) (lv' := [(2, .int (-4)), (0, .ref h0), (1, .int (nI v))]) hx hb dX1_writeHexadecimal_27 hl (k := 0) rfl (by decide) (by decide) rfl (fun ls hl => ?_)
        refine lv_goto (tgt := 3) hx hb dX1_writeHexadecimal_30 (by decide) ?_
        refine lv_iload_n hx hb dX1_writeHexadecimal_3 rfl (lv_at hl 0 rfl) ?_
        refine lv_if_lt (tgt := 33) hx hb dX1_writeHexadecimal_4 (by decide) (fun _ => ?_) (fun c => absurd c (by decide))
        exact wt_v hx hb hr ((u3, w3)) (by have h := hg3; unfold az_hex; simp only [c14, c14x, c14xx, ne_eq, not_true_eq_false, not_false_eq_true, if_true, if_false, ite_true, ite_false, List.append_assoc, List.nil_append] at h ⊢; exact h) (hP.sub [0, 1] rfl) hK (hD.sub [0, 1] (by decide) rfl) hS dX1_writeHexadecimal_33 hlocks
    · refine lv_aload_n hx hb dX1_writeHexadecimal_17 rfl (lv_at hl 1 rfl) ?_
      refine lv_iload_n hx hb dX1_writeHexadecimal_18 rfl (lv_at hl 2 rfl) ?_
      refine lv_iload_n hx hb dX1_writeHexadecimal_19 rfl (lv_at hl 0 rfl) ?_
      refine lv_iushr (v := nI (v / 256)) hx hb dX1_writeHexadecimal_20 (pk_ushrN (by omega) _ 8 (by decide)) ?_
      refine lv_bipush (v := nI 15) hx hb dX1_writeHexadecimal_21 (by decide) ?_
      refine lv_iand hx hb dX1_writeHexadecimal_23 ?_
      refine tp_i (nI ((v / 256) % 16)) (pk_andN (by omega) 4 (by decide)) ?_
      refine wc_Vv (As := [.int (nI ((v / 256) % 16))]) (rest := []) (wr := []) ⟨hx, hb, hml, hown, hts⟩ (ct_writeDigit l dC dI H.size h0 ht hw a1 a2 a3 n w1 cW u1 (O ++ [az_ch ((v / 4096) % 16)]) hg1 ((v / 256) % 16) (by omega) (by omega)) (cwV 1 hts gX1_writeHexadecimal_X1_writeDigit rfl rfl rfl (by decide +kernel) ⟨Nat.le_of_ble_eq_true rfl, Nat.le_of_ble_eq_true rfl⟩) hP hD hK hS hA [0, 1] [] [0] rfl rfl (by decide) (by decide) (by decide) rfl 0 rfl rfl rfl hl.1 rfl (Nat.le_of_ble_eq_true rfl) dX1_writeHexadecimal_24 ⟨(Nat.zero_le _), (Nat.zero_le _)⟩ (fun u H locs hg2 hP hD hS => ?_)
      obtain ⟨u2, w2⟩ := u
      try dsimp only at hg2
      have hP : va_P (dC, dI) azCl [(h0, .inr (1, [.ref ht, .int (nI n), .ref hw, .int (nI w2), .ref a1, .ref a2, .ref a3])), (hw, .inl (cW, 39, .inl u2))] H := hP
      have hD : va_D A [(h0, .inr (1, [.ref ht, .int (nI n), .ref hw, .int (nI w2), .ref a1, .ref a2, .ref a3])), (hw, .inl (cW, 39, .inl u2))] := hD
      have hq2 := hg2.1
      try simp only [List.length_append, List.length_cons, List.length_nil] at hq2
      refine lv_iinc (v := nI 4) (lv' := [(2, .int (nI 4)), (0, .ref h0), (1, .int (nI v))]) hx hb dX1_writeHexadecimal_27 hl (k := 0) rfl (by decide) (by decide) rfl (fun ls hl => ?_)
      refine lv_goto (tgt := 3) hx hb dX1_writeHexadecimal_30 (by decide) ?_
      refine lv_iload_n hx hb dX1_writeHexadecimal_3 rfl (lv_at hl 0 rfl) ?_
      refine lv_if_lt (tgt := 33) hx hb dX1_writeHexadecimal_4 (by decide) (fun c => absurd c (by decide)) (fun _ => ?_)
      refine lv_iload_n hx hb dX1_writeHexadecimal_7 rfl (lv_at hl 0 rfl) ?_
      refine lv_if_eq (tgt := 17) hx hb dX1_writeHexadecimal_8 (by decide) (fun c => absurd c (by decide)) (fun _ => ?_)
      refine lv_iload_n hx hb dX1_writeHexadecimal_11 rfl (lv_at hl 2 rfl) ?_
      refine lv_iload_n hx hb dX1_writeHexadecimal_12 rfl (lv_at hl 0 rfl) ?_
      refine lv_iushr (v := nI (v / 16)) hx hb dX1_writeHexadecimal_13 (pk_ushrN (by omega) _ 4 (by decide)) ?_
      refine bz_eq (tgt := 27) hx hb dX1_writeHexadecimal_14 (by decide) (by omega) (fun c14xx => ?_) (fun c14xx => ?_)
      · refine lv_iinc (v := nI 0) (lv' := [(2, .int (nI 0)), (0, .ref h0), (1, .int (nI v))]) hx hb dX1_writeHexadecimal_27 hl (k := 0) rfl (by decide) (by decide) rfl (fun ls hl => ?_)
        refine lv_goto (tgt := 3) hx hb dX1_writeHexadecimal_30 (by decide) ?_
        refine lv_iload_n hx hb dX1_writeHexadecimal_3 rfl (lv_at hl 0 rfl) ?_
        refine lv_if_lt (tgt := 33) hx hb dX1_writeHexadecimal_4 (by decide) (fun c => absurd c (by decide)) (fun _ => ?_)
        refine lv_iload_n hx hb dX1_writeHexadecimal_7 rfl (lv_at hl 0 rfl) ?_
        refine lv_if_eq (tgt := 17) hx hb dX1_writeHexadecimal_8 (by decide) (fun _ => ?_) (fun c => absurd c (by decide))
        refine lv_aload_n hx hb dX1_writeHexadecimal_17 rfl (lv_at hl 1 rfl) ?_
        refine lv_iload_n hx hb dX1_writeHexadecimal_18 rfl (lv_at hl 2 rfl) ?_
        refine lv_iload_n hx hb dX1_writeHexadecimal_19 rfl (lv_at hl 0 rfl) ?_
        refine lv_iushr (v := nI v) hx hb dX1_writeHexadecimal_20 ((pk_ushrN (by omega) _ 0 (by decide)).trans (congrArg nI (Nat.div_one v))) ?_
        refine lv_bipush (v := nI 15) hx hb dX1_writeHexadecimal_21 (by decide) ?_
        refine lv_iand hx hb dX1_writeHexadecimal_23 ?_
        refine tp_i (nI (v % 16)) (pk_andN (by omega) 4 (by decide)) ?_
        refine wc_Vv (As := [.int (nI (v % 16))]) (rest := []) (wr := []) ⟨hx, hb, hml, hown, hts⟩ (ct_writeDigit l dC dI H.size h0 ht hw a1 a2 a3 n w2 cW u2 ((O ++ [az_ch ((v / 4096) % 16)]) ++ [az_ch ((v / 256) % 16)]) hg2 (v % 16) (by omega) (by omega)) (cwV 1 hts gX1_writeHexadecimal_X1_writeDigit rfl rfl rfl (by decide +kernel) ⟨Nat.le_of_ble_eq_true rfl, Nat.le_of_ble_eq_true rfl⟩) hP hD hK hS hA [0, 1] [] [0] rfl rfl (by decide) (by decide) (by decide) rfl 0 rfl rfl rfl hl.1 rfl (Nat.le_of_ble_eq_true rfl) dX1_writeHexadecimal_24 ⟨(Nat.zero_le _), (Nat.zero_le _)⟩ (fun u H locs hg3 hP hD hS => ?_)
        obtain ⟨u3, w3⟩ := u
        try dsimp only at hg3
        have hP : va_P (dC, dI) azCl [(h0, .inr (1, [.ref ht, .int (nI n), .ref hw, .int (nI w3), .ref a1, .ref a2, .ref a3])), (hw, .inl (cW, 39, .inl u3))] H := hP
        have hD : va_D A [(h0, .inr (1, [.ref ht, .int (nI n), .ref hw, .int (nI w3), .ref a1, .ref a2, .ref a3])), (hw, .inl (cW, 39, .inl u3))] := hD
        have hq3 := hg3.1
        try simp only [List.length_append, List.length_cons, List.length_nil] at hq3
        refine lv_iinc (v := -4) (lv' := [(2, .int (-4)), (0, .ref h0), (1, .int (nI v))]) hx hb dX1_writeHexadecimal_27 hl (k := 0) rfl (by decide) (by decide) rfl (fun ls hl => ?_)
        refine lv_goto (tgt := 3) hx hb dX1_writeHexadecimal_30 (by decide) ?_
        refine lv_iload_n hx hb dX1_writeHexadecimal_3 rfl (lv_at hl 0 rfl) ?_
        refine lv_if_lt (tgt := 33) hx hb dX1_writeHexadecimal_4 (by decide) (fun _ => ?_) (fun c => absurd c (by decide))
        exact wt_v hx hb hr ((u3, w3)) (by have h := hg3; unfold az_hex; simp only [c14, c14x, c14xx, ne_eq, not_true_eq_false, not_false_eq_true, if_true, if_false, ite_true, ite_false, List.append_assoc, List.nil_append] at h ⊢; exact h) (hP.sub [0, 1] rfl) hK (hD.sub [0, 1] (by decide) rfl) hS dX1_writeHexadecimal_33 hlocks
      · refine lv_aload_n hx hb dX1_writeHexadecimal_17 rfl (lv_at hl 1 rfl) ?_
        refine lv_iload_n hx hb dX1_writeHexadecimal_18 rfl (lv_at hl 2 rfl) ?_
        refine lv_iload_n hx hb dX1_writeHexadecimal_19 rfl (lv_at hl 0 rfl) ?_
        refine lv_iushr (v := nI (v / 16)) hx hb dX1_writeHexadecimal_20 (pk_ushrN (by omega) _ 4 (by decide)) ?_
        refine lv_bipush (v := nI 15) hx hb dX1_writeHexadecimal_21 (by decide) ?_
        refine lv_iand hx hb dX1_writeHexadecimal_23 ?_
        refine tp_i (nI ((v / 16) % 16)) (pk_andN (by omega) 4 (by decide)) ?_
        refine wc_Vv (As := [.int (nI ((v / 16) % 16))]) (rest := []) (wr := []) ⟨hx, hb, hml, hown, hts⟩ (ct_writeDigit l dC dI H.size h0 ht hw a1 a2 a3 n w2 cW u2 ((O ++ [az_ch ((v / 4096) % 16)]) ++ [az_ch ((v / 256) % 16)]) hg2 ((v / 16) % 16) (by omega) (by omega)) (cwV 1 hts gX1_writeHexadecimal_X1_writeDigit rfl rfl rfl (by decide +kernel) ⟨Nat.le_of_ble_eq_true rfl, Nat.le_of_ble_eq_true rfl⟩) hP hD hK hS hA [0, 1] [] [0] rfl rfl (by decide) (by decide) (by decide) rfl 0 rfl rfl rfl hl.1 rfl (Nat.le_of_ble_eq_true rfl) dX1_writeHexadecimal_24 ⟨(Nat.zero_le _), (Nat.zero_le _)⟩ (fun u H locs hg3 hP hD hS => ?_)
        obtain ⟨u3, w3⟩ := u
        try dsimp only at hg3
        have hP : va_P (dC, dI) azCl [(h0, .inr (1, [.ref ht, .int (nI n), .ref hw, .int (nI w3), .ref a1, .ref a2, .ref a3])), (hw, .inl (cW, 39, .inl u3))] H := hP
        have hD : va_D A [(h0, .inr (1, [.ref ht, .int (nI n), .ref hw, .int (nI w3), .ref a1, .ref a2, .ref a3])), (hw, .inl (cW, 39, .inl u3))] := hD
        have hq3 := hg3.1
        try simp only [List.length_append, List.length_cons, List.length_nil] at hq3
        refine lv_iinc (v := nI 0) (lv' := [(2, .int (nI 0)), (0, .ref h0), (1, .int (nI v))]) hx hb dX1_writeHexadecimal_27 hl (k := 0) rfl (by decide) (by decide) rfl (fun ls hl => ?_)
        refine lv_goto (tgt := 3) hx hb dX1_writeHexadecimal_30 (by decide) ?_
        refine lv_iload_n hx hb dX1_writeHexadecimal_3 rfl (lv_at hl 0 rfl) ?_
        refine lv_if_lt (tgt := 33) hx hb dX1_writeHexadecimal_4 (by decide) (fun c => absurd c (by decide)) (fun _ => ?_)
        refine lv_iload_n hx hb dX1_writeHexadecimal_7 rfl (lv_at hl 0 rfl) ?_
        refine lv_if_eq (tgt := 17) hx hb dX1_writeHexadecimal_8 (by decide) (fun _ => ?_) (fun c => absurd c (by decide))
        refine lv_aload_n hx hb dX1_writeHexadecimal_17 rfl (lv_at hl 1 rfl) ?_
        refine lv_iload_n hx hb dX1_writeHexadecimal_18 rfl (lv_at hl 2 rfl) ?_
        refine lv_iload_n hx hb dX1_writeHexadecimal_19 rfl (lv_at hl 0 rfl) ?_
        refine lv_iushr (v := nI v) hx hb dX1_writeHexadecimal_20 ((pk_ushrN (by omega) _ 0 (by decide)).trans (congrArg nI (Nat.div_one v))) ?_
        refine lv_bipush (v := nI 15) hx hb dX1_writeHexadecimal_21 (by decide) ?_
        refine lv_iand hx hb dX1_writeHexadecimal_23 ?_
        refine tp_i (nI (v % 16)) (pk_andN (by omega) 4 (by decide)) ?_
        refine wc_Vv (As := [.int (nI (v % 16))]) (rest := []) (wr := []) ⟨hx, hb, hml, hown, hts⟩ (ct_writeDigit l dC dI H.size h0 ht hw a1 a2 a3 n w3 cW u3 (((O ++ [az_ch ((v / 4096) % 16)]) ++ [az_ch ((v / 256) % 16)]) ++ [az_ch ((v / 16) % 16)]) hg3 (v % 16) (by omega) (by omega)) (cwV 1 hts gX1_writeHexadecimal_X1_writeDigit rfl rfl rfl (by decide +kernel) ⟨Nat.le_of_ble_eq_true rfl, Nat.le_of_ble_eq_true rfl⟩) hP hD hK hS hA [0, 1] [] [0] rfl rfl (by decide) (by decide) (by decide) rfl 0 rfl rfl rfl hl.1 rfl (Nat.le_of_ble_eq_true rfl) dX1_writeHexadecimal_24 ⟨(Nat.zero_le _), (Nat.zero_le _)⟩ (fun u H locs hg4 hP hD hS => ?_)
        obtain ⟨u4, w4⟩ := u
        try dsimp only at hg4
        have hP : va_P (dC, dI) azCl [(h0, .inr (1, [.ref ht, .int (nI n), .ref hw, .int (nI w4), .ref a1, .ref a2, .ref a3])), (hw, .inl (cW, 39, .inl u4))] H := hP
        have hD : va_D A [(h0, .inr (1, [.ref ht, .int (nI n), .ref hw, .int (nI w4), .ref a1, .ref a2, .ref a3])), (hw, .inl (cW, 39, .inl u4))] := hD
        have hq4 := hg4.1
        try simp only [List.length_append, List.length_cons, List.length_nil] at hq4
        refine lv_iinc (v := -4) (lv' := [(2, .int (-4)), (0, .ref h0), (1, .int (nI v))]) hx hb dX1_writeHexadecimal_27 hl (k := 0) rfl (by decide) (by decide) rfl (fun ls hl => ?_)
        refine lv_goto (tgt := 3) hx hb dX1_writeHexadecimal_30 (by decide) ?_
        refine lv_iload_n hx hb dX1_writeHexadecimal_3 rfl (lv_at hl 0 rfl) ?_
        refine lv_if_lt (tgt := 33) hx hb dX1_writeHexadecimal_4 (by decide) (fun _ => ?_) (fun c => absurd c (by decide))
        exact wt_v hx hb hr ((u4, w4)) (by have h := hg4; unfold az_hex; simp only [c14, c14x, c14xx, ne_eq, not_true_eq_false, not_false_eq_true, if_true, if_false, ite_true, ite_false, List.append_assoc, List.nil_append] at h ⊢; exact h) (hP.sub [0, 1] rfl) hK (hD.sub [0, 1] (by decide) rfl) hS dX1_writeHexadecimal_33 hlocks
set_option maxRecDepth 100000 in
set_option maxHeartbeats 4000000 in
/-- writeNumbers() -/
theorem ct_writeNumbers (l : Launch) (dC : Nat → ClassId) (dI : Nat → Nat → Nat) (sz : Nat) (h0 ht hw a1 a2 a3 n : Nat) (cW : ClassId) (g : Nat → Int32) (fm ln V : Nat) (hV : V < 4294967296) : Met l yX1_writeNumbers wsX1_writeNumbers ({ frames := 3, cells := 0, slots := 0, locals := 63 }) (wr_P (dC, dI) azCl [(h0, .inr (1, [.ref ht, .int (nI n), .ref hw, .int (nI 0), .ref a1, .ref a2, .ref a3])), (hw, .inl (cW, 39, .inl g)), (a1, .inr (0, [.int (nI fm), .int (nI ln), .long (lN (V / 18446744073709551616)), .long (lN (V % 18446744073709551616))]))] [(cW, .byte)] sz [.ref h0]) (va_Qv (fun u => az_ou u.1 (az_w4 V) u.2 ∧ u.2 ≤ 39) (wr_B (dC, dI) azCl [(cW, .byte)] (va_A [(h0, .inr (1, [.ref ht, .int (nI n), .ref hw, .int (nI 0), .ref a1, .ref a2, .ref a3])), (hw, .inl (cW, 39, .inl g)), (a1, .inr (0, [.int (nI fm), .int (nI ln), .long (lN (V / 18446744073709551616)), .long (lN (V % 18446744073709551616))]))] sz) (fun u : (Nat → Int32) × Nat => [(h0, .inr (1, [.ref ht, .int (nI n), .ref hw, .int (nI u.2), .ref a1, .ref a2, .ref a3])), (hw, .inl (cW, 39, .inl u.1)), (a1, .inr (0, [.int (nI fm), .int (nI ln), .long (lN (V / 18446744073709551616)), .long (lN (V % 18446744073709551616))]))])) (va_A [(h0, .inr (1, [.ref ht, .int (nI n), .ref hw, .int (nI 0), .ref a1, .ref a2, .ref a3])), (hw, .inl (cW, 39, .inl g)), (a1, .inr (0, [.int (nI fm), .int (nI ln), .long (lN (V / 18446744073709551616)), .long (lN (V % 18446744073709551616))]))] sz)) 0 0 (va_A [(h0, .inr (1, [.ref ht, .int (nI n), .ref hw, .int (nI 0), .ref a1, .ref a2, .ref a3])), (hw, .inl (cW, 39, .inl g)), (a1, .inr (0, [.int (nI fm), .int (nI ln), .long (lN (V / 18446744073709551616)), .long (lN (V % 18446744073709551616))]))] sz) := by
  refine Met.ofW (cc := cX1_writeNumbers) (maxL := 2) (ret := none) (by decide) rfl ?_
  intro p e s m args below meth c s₁ Bd hml hv
  obtain ⟨rfl, hsz, hP, hK, hD0⟩ := hv
  have hx := Bd.exec
  have hb := Bd.bytes
  have hr := Bd.returns
  have hts := atoms_spec (ws := wsX1_writeNumbers) Bd.pre
  have hown : s.vm.findClass RX1 = some m.cls := findClass_of_methodNamed Bd.named
  have hlocks := Bd.notSynchronized
  subst hsz
  have hD := hD0.self (sz := s.heap.size)
  generalize hAe : va_A [(h0, .inr (1, [.ref ht, .int (nI n), .ref hw, .int (nI 0), .ref a1, .ref a2, .ref a3])), (hw, .inl (cW, 39, .inl g)), (a1, .inr (0, [.int (nI fm), .int (nI ln), .long (lN (V / 18446744073709551616)), .long (lN (V % 18446744073709551616))]))] s.heap.size = A at hD ⊢
  have hA : ∀ q : Nat, s.heap.size ≤ q → A q := fun q h => by rw [← hAe]; exact Or.inr h
  have hS : va_S A s.heap s.heap [] := va_S.rf
  have hP : va_P (dC, dI) azCl [(h0, .inr (1, [.ref ht, .int (nI n), .ref hw, .int (nI 0), .ref a1, .ref a2, .ref a3])), (hw, .inl (cW, 39, .inl g)), (a1, .inr (0, [.int (nI fm), .int (nI ln), .long (lN (V / 18446744073709551616)), .long (lN (V % 18446744073709551616))]))] s.heap := hP
  have hiX1 : ∀ w ∈ wsX10, w ∈ wsX1_writeNumbers := by decide +kernel
  have hiX0 : ∀ w ∈ wsX00, w ∈ wsX1_writeNumbers := by decide +kernel
  have hf26 := hts (.fieldLink RX1 26 "AddressTexts" "one" "LAddressTexts$Address;") (by decide +kernel)
  have hf66 := hts (.fieldLink RX1 66 "AddressTexts$Address" "lower" "J") (by decide +kernel)
  have hl := lv_entry ([.ref h0]) (n := 2) (Nat.le_of_ble_eq_true rfl)
  rw [lg_entry_eq]
  generalize (lg_sl ([.ref h0]) ++ List.replicate (2 - (lg_sl ([.ref h0])).length) Slot.unset).toArray = ls at hl ⊢
  have hl : lv_has ls 2 [(0, .ref h0)] := hl
  refine lv_iconst (v := nI 0) hx hb dX1_writeNumbers_0 (by decide) ?_
  refine lv_istore_n (lv' := [(1, .int (nI 0)), (0, .ref h0)]) hx hb dX1_writeNumbers_1 rfl hl (by decide) rfl (fun ls hl => ?_)
  refine lv_iload_n hx hb dX1_writeNumbers_2 rfl (lv_at hl 0 rfl) ?_
  refine lv_iconst (v := nI 4) hx hb dX1_writeNumbers_3 (by decide) ?_
  refine lv_icmp_ge (tgt := 47) hx hb dX1_writeNumbers_4 (by decide) (fun c => absurd c (by decide)) (fun _ => ?_)
  refine lv_iload_n hx hb dX1_writeNumbers_7 rfl (lv_at hl 0 rfl) ?_
  refine lv_if_le (tgt := 17) hx hb dX1_writeNumbers_8 (by decide) (fun _ => ?_) (fun c => absurd c (by decide))
  refine lv_aload_n hx hb dX1_writeNumbers_17 rfl (lv_at hl 1 rfl) ?_
  refine lv_aload_n hx hb dX1_writeNumbers_18 rfl (lv_at hl 1 rfl) ?_
  refine va_get (D := (dC, dI)) (ci := 1) (v := .ref a1) (C := RX1) (T := TX1) (N := 7) hx hb hts hiX1 hown hK hP 0 rfl rfl 4 (by decide) hf26 (fun _ h9 => h9) rfl dX1_writeNumbers_19 ?_
  refine va_get (D := (dC, dI)) (ci := 0) (v := .long (lN (V % 18446744073709551616))) (C := RX0) (T := TX0) (N := 4) hx hb hts hiX0 hown hK hP 2 rfl rfl 3 (by decide) hf66 (fun _ h9 => h9) rfl dX1_writeNumbers_22 ?_
  refine lv_bipush (v := nI 24) hx hb dX1_writeNumbers_25 (by decide) ?_
  refine lv_bipush (v := nI 8) hx hb dX1_writeNumbers_27 (by decide) ?_
  refine lv_iload_n hx hb dX1_writeNumbers_29 rfl (lv_at hl 0 rfl) ?_
  refine lv_imul hx hb dX1_writeNumbers_30 ?_
  refine tp_i (nI 0) (by decide) ?_
  refine lv_isub hx hb dX1_writeNumbers_31 ?_
  refine tp_i (nI 24) (by decide) ?_
  refine lv_lushr (v := lN ((V % 18446744073709551616) / 16777216)) hx hb dX1_writeNumbers_32 (wb_shr (k := 24) (by omega) (by omega)) ?_
  refine lv_l2i (v := nI ((V % 18446744073709551616) / 16777216)) hx hb dX1_writeNumbers_33 (lN_i _) ?_
  refine lv_sipush (v := nI 255) hx hb dX1_writeNumbers_34 (by decide) ?_
  refine lv_iand hx hb dX1_writeNumbers_37 ?_
  refine tp_i (nI (V / 16777216 % 256)) ((pk_andN (by omega) 8 (by decide)).trans (congrArg nI (by omega))) ?_
  have hd1 := az_dec_le (V / 16777216 % 256)
  refine wc_Vv (As := [.int (nI (V / 16777216 % 256))]) (rest := []) (wr := [(a1, .inr (0, [.int (nI fm), .int (nI ln), .long (lN (V / 18446744073709551616)), .long (lN (V % 18446744073709551616))]))]) ⟨hx, hb, hml, hown, hts⟩ (ct_writeDecimal l dC dI s.heap.size h0 ht hw a1 a2 a3 n 0 cW g ([]) (az_ou_0 g) (V / 16777216 % 256) (by omega) (by omega)) (cwV 1 hts gX1_writeNumbers_X1_writeDecimal rfl rfl rfl (by decide +kernel) ⟨Nat.le_of_ble_eq_true rfl, Nat.le_of_ble_eq_true rfl⟩) hP hD hK hS hA [0, 1] [2] [0] rfl rfl (by decide) (by decide) (by decide) rfl 0 rfl rfl rfl hl.1 rfl (Nat.le_of_ble_eq_true rfl) dX1_writeNumbers_38 ⟨(Nat.zero_le _), (Nat.zero_le _)⟩ (fun u H locs hg1 hP hD hS => ?_)
  obtain ⟨u1, w1⟩ := u
  try dsimp only at hg1
  have hP : va_P (dC, dI) azCl [(a1, .inr (0, [.int (nI fm), .int (nI ln), .long (lN (V / 18446744073709551616)), .long (lN (V % 18446744073709551616))])), (h0, .inr (1, [.ref ht, .int (nI n), .ref hw, .int (nI w1), .ref a1, .ref a2, .ref a3])), (hw, .inl (cW, 39, .inl u1))] H := hP
  have hD : va_D A [(a1, .inr (0, [.int (nI fm), .int (nI ln), .long (lN (V / 18446744073709551616)), .long (lN (V % 18446744073709551616))])), (h0, .inr (1, [.ref ht, .int (nI n), .ref hw, .int (nI w1), .ref a1, .ref a2, .ref a3])), (hw, .inl (cW, 39, .inl u1))] := hD
  have hq1 := hg1.1
  try simp only [List.length_append, List.length_cons, List.length_nil] at hq1
  refine lv_iinc (v := nI 1) (lv' := [(1, .int (nI 1)), (0, .ref h0)]) hx hb dX1_writeNumbers_41 hl (k := 0) rfl (by decide) (by decide) rfl (fun ls hl => ?_)
  refine lv_goto (tgt := 2) hx hb dX1_writeNumbers_44 (by decide) ?_
  refine lv_iload_n hx hb dX1_writeNumbers_2 rfl (lv_at hl 0 rfl) ?_
  refine lv_iconst (v := nI 4) hx hb dX1_writeNumbers_3 (by decide) ?_
  refine lv_icmp_ge (tgt := 47) hx hb dX1_writeNumbers_4 (by decide) (fun c => absurd c (by decide)) (fun _ => ?_)
  refine lv_iload_n hx hb dX1_writeNumbers_7 rfl (lv_at hl 0 rfl) ?_
  refine lv_if_le (tgt := 17) hx hb dX1_writeNumbers_8 (by decide) (fun c => absurd c (by decide)) (fun _ => ?_)
  refine lv_aload_n hx hb dX1_writeNumbers_11 rfl (lv_at hl 1 rfl) ?_
  refine lv_bipush (v := nI 46) hx hb dX1_writeNumbers_12 (by decide) ?_
  refine wc_Vv (As := [.int (nI 46)]) (rest := []) (wr := [(a1, .inr (0, [.int (nI fm), .int (nI ln), .long (lN (V / 18446744073709551616)), .long (lN (V % 18446744073709551616))]))]) ⟨hx, hb, hml, hown, hts⟩ (ct_writeByte l dC dI H.size h0 ht hw a1 a2 a3 n w1 cW u1 (([]) ++ (az_dec (V / 16777216 % 256))) hg1 46 (by omega) (by omega)) (cwV 1 hts gX1_writeNumbers_X1_writeByte rfl rfl rfl (by decide +kernel) ⟨Nat.le_of_ble_eq_true rfl, Nat.le_of_ble_eq_true rfl⟩) hP hD hK hS hA [1, 2] [0] [0] rfl rfl (by decide) (by decide) (by decide) rfl 0 rfl rfl rfl hl.1 rfl (Nat.le_of_ble_eq_true rfl) dX1_writeNumbers_14 ⟨(Nat.zero_le _), (Nat.zero_le _)⟩ (fun u H locs hg2 hP hD hS => ?_)
  obtain ⟨u2, w2⟩ := u
  try dsimp only at hg2
  have hP : va_P (dC, dI) azCl [(a1, .inr (0, [.int (nI fm), .int (nI ln), .long (lN (V / 18446744073709551616)), .long (lN (V % 18446744073709551616))])), (h0, .inr (1, [.ref ht, .int (nI n), .ref hw, .int (nI w2), .ref a1, .ref a2, .ref a3])), (hw, .inl (cW, 39, .inl u2))] H := hP
  have hD : va_D A [(a1, .inr (0, [.int (nI fm), .int (nI ln), .long (lN (V / 18446744073709551616)), .long (lN (V % 18446744073709551616))])), (h0, .inr (1, [.ref ht, .int (nI n), .ref hw, .int (nI w2), .ref a1, .ref a2, .ref a3])), (hw, .inl (cW, 39, .inl u2))] := hD
  have hq2 := hg2.1
  try simp only [List.length_append, List.length_cons, List.length_nil] at hq2
  refine lv_aload_n hx hb dX1_writeNumbers_17 rfl (lv_at hl 1 rfl) ?_
  refine lv_aload_n hx hb dX1_writeNumbers_18 rfl (lv_at hl 1 rfl) ?_
  refine va_get (D := (dC, dI)) (ci := 1) (v := .ref a1) (C := RX1) (T := TX1) (N := 7) hx hb hts hiX1 hown hK hP 1 rfl rfl 4 (by decide) hf26 (fun _ h9 => h9) rfl dX1_writeNumbers_19 ?_
  refine va_get (D := (dC, dI)) (ci := 0) (v := .long (lN (V % 18446744073709551616))) (C := RX0) (T := TX0) (N := 4) hx hb hts hiX0 hown hK hP 0 rfl rfl 3 (by decide) hf66 (fun _ h9 => h9) rfl dX1_writeNumbers_22 ?_
  refine lv_bipush (v := nI 24) hx hb dX1_writeNumbers_25 (by decide) ?_
  refine lv_bipush (v := nI 8) hx hb dX1_writeNumbers_27 (by decide) ?_
  refine lv_iload_n hx hb dX1_writeNumbers_29 rfl (lv_at hl 0 rfl) ?_
  refine lv_imul hx hb dX1_writeNumbers_30 ?_
  refine tp_i (nI 8) (by decide) ?_
  refine lv_isub hx hb dX1_writeNumbers_31 ?_
  refine tp_i (nI 16) (by decide) ?_
  refine lv_lushr (v := lN ((V % 18446744073709551616) / 65536)) hx hb dX1_writeNumbers_32 (wb_shr (k := 16) (by omega) (by omega)) ?_
  refine lv_l2i (v := nI ((V % 18446744073709551616) / 65536)) hx hb dX1_writeNumbers_33 (lN_i _) ?_
  refine lv_sipush (v := nI 255) hx hb dX1_writeNumbers_34 (by decide) ?_
  refine lv_iand hx hb dX1_writeNumbers_37 ?_
  refine tp_i (nI (V / 65536 % 256)) ((pk_andN (by omega) 8 (by decide)).trans (congrArg nI (by omega))) ?_
  have hd3 := az_dec_le (V / 65536 % 256)
  refine wc_Vv (As := [.int (nI (V / 65536 % 256))]) (rest := []) (wr := [(a1, .inr (0, [.int (nI fm), .int (nI ln), .long (lN (V / 18446744073709551616)), .long (lN (V % 18446744073709551616))]))]) ⟨hx, hb, hml, hown, hts⟩ (ct_writeDecimal l dC dI H.size h0 ht hw a1 a2 a3 n w2 cW u2 ((([]) ++ (az_dec (V / 16777216 % 256))) ++ [46]) hg2 (V / 65536 % 256) (by omega) (by omega)) (cwV 1 hts gX1_writeNumbers_X1_writeDecimal rfl rfl rfl (by decide +kernel) ⟨Nat.le_of_ble_eq_true rfl, Nat.le_of_ble_eq_true rfl⟩) hP hD hK hS hA [1, 2] [0] [0] rfl rfl (by decide) (by decide) (by decide) rfl 0 rfl rfl rfl hl.1 rfl (Nat.le_of_ble_eq_true rfl) dX1_writeNumbers_38 ⟨(Nat.zero_le _), (Nat.zero_le _)⟩ (fun u H locs hg3 hP hD hS => ?_)
  obtain ⟨u3, w3⟩ := u
  try dsimp only at hg3
  have hP : va_P (dC, dI) azCl [(a1, .inr (0, [.int (nI fm), .int (nI ln), .long (lN (V / 18446744073709551616)), .long (lN (V % 18446744073709551616))])), (h0, .inr (1, [.ref ht, .int (nI n), .ref hw, .int (nI w3), .ref a1, .ref a2, .ref a3])), (hw, .inl (cW, 39, .inl u3))] H := hP
  have hD : va_D A [(a1, .inr (0, [.int (nI fm), .int (nI ln), .long (lN (V / 18446744073709551616)), .long (lN (V % 18446744073709551616))])), (h0, .inr (1, [.ref ht, .int (nI n), .ref hw, .int (nI w3), .ref a1, .ref a2, .ref a3])), (hw, .inl (cW, 39, .inl u3))] := hD
  have hq3 := hg3.1
  try simp only [List.length_append, List.length_cons, List.length_nil] at hq3
  refine lv_iinc (v := nI 2) (lv' := [(1, .int (nI 2)), (0, .ref h0)]) hx hb dX1_writeNumbers_41 hl (k := 0) rfl (by decide) (by decide) rfl (fun ls hl => ?_)
  refine lv_goto (tgt := 2) hx hb dX1_writeNumbers_44 (by decide) ?_
  refine lv_iload_n hx hb dX1_writeNumbers_2 rfl (lv_at hl 0 rfl) ?_
  refine lv_iconst (v := nI 4) hx hb dX1_writeNumbers_3 (by decide) ?_
  refine lv_icmp_ge (tgt := 47) hx hb dX1_writeNumbers_4 (by decide) (fun c => absurd c (by decide)) (fun _ => ?_)
  refine lv_iload_n hx hb dX1_writeNumbers_7 rfl (lv_at hl 0 rfl) ?_
  refine lv_if_le (tgt := 17) hx hb dX1_writeNumbers_8 (by decide) (fun c => absurd c (by decide)) (fun _ => ?_)
  refine lv_aload_n hx hb dX1_writeNumbers_11 rfl (lv_at hl 1 rfl) ?_
  refine lv_bipush (v := nI 46) hx hb dX1_writeNumbers_12 (by decide) ?_
  refine wc_Vv (As := [.int (nI 46)]) (rest := []) (wr := [(a1, .inr (0, [.int (nI fm), .int (nI ln), .long (lN (V / 18446744073709551616)), .long (lN (V % 18446744073709551616))]))]) ⟨hx, hb, hml, hown, hts⟩ (ct_writeByte l dC dI H.size h0 ht hw a1 a2 a3 n w3 cW u3 (((([]) ++ (az_dec (V / 16777216 % 256))) ++ [46]) ++ (az_dec (V / 65536 % 256))) hg3 46 (by omega) (by omega)) (cwV 1 hts gX1_writeNumbers_X1_writeByte rfl rfl rfl (by decide +kernel) ⟨Nat.le_of_ble_eq_true rfl, Nat.le_of_ble_eq_true rfl⟩) hP hD hK hS hA [1, 2] [0] [0] rfl rfl (by decide) (by decide) (by decide) rfl 0 rfl rfl rfl hl.1 rfl (Nat.le_of_ble_eq_true rfl) dX1_writeNumbers_14 ⟨(Nat.zero_le _), (Nat.zero_le _)⟩ (fun u H locs hg4 hP hD hS => ?_)
  obtain ⟨u4, w4⟩ := u
  try dsimp only at hg4
  have hP : va_P (dC, dI) azCl [(a1, .inr (0, [.int (nI fm), .int (nI ln), .long (lN (V / 18446744073709551616)), .long (lN (V % 18446744073709551616))])), (h0, .inr (1, [.ref ht, .int (nI n), .ref hw, .int (nI w4), .ref a1, .ref a2, .ref a3])), (hw, .inl (cW, 39, .inl u4))] H := hP
  have hD : va_D A [(a1, .inr (0, [.int (nI fm), .int (nI ln), .long (lN (V / 18446744073709551616)), .long (lN (V % 18446744073709551616))])), (h0, .inr (1, [.ref ht, .int (nI n), .ref hw, .int (nI w4), .ref a1, .ref a2, .ref a3])), (hw, .inl (cW, 39, .inl u4))] := hD
  have hq4 := hg4.1
  try simp only [List.length_append, List.length_cons, List.length_nil] at hq4
  refine lv_aload_n hx hb dX1_writeNumbers_17 rfl (lv_at hl 1 rfl) ?_
  refine lv_aload_n hx hb dX1_writeNumbers_18 rfl (lv_at hl 1 rfl) ?_
  refine va_get (D := (dC, dI)) (ci := 1) (v := .ref a1) (C := RX1) (T := TX1) (N := 7) hx hb hts hiX1 hown hK hP 1 rfl rfl 4 (by decide) hf26 (fun _ h9 => h9) rfl dX1_writeNumbers_19 ?_
  refine va_get (D := (dC, dI)) (ci := 0) (v := .long (lN (V % 18446744073709551616))) (C := RX0) (T := TX0) (N := 4) hx hb hts hiX0 hown hK hP 0 rfl rfl 3 (by decide) hf66 (fun _ h9 => h9) rfl dX1_writeNumbers_22 ?_
  refine lv_bipush (v := nI 24) hx hb dX1_writeNumbers_25 (by decide) ?_
  refine lv_bipush (v := nI 8) hx hb dX1_writeNumbers_27 (by decide) ?_
  refine lv_iload_n hx hb dX1_writeNumbers_29 rfl (lv_at hl 0 rfl) ?_
  refine lv_imul hx hb dX1_writeNumbers_30 ?_
  refine tp_i (nI 16) (by decide) ?_
  refine lv_isub hx hb dX1_writeNumbers_31 ?_
  refine tp_i (nI 8) (by decide) ?_
  refine lv_lushr (v := lN ((V % 18446744073709551616) / 256)) hx hb dX1_writeNumbers_32 (wb_shr (k := 8) (by omega) (by omega)) ?_
  refine lv_l2i (v := nI ((V % 18446744073709551616) / 256)) hx hb dX1_writeNumbers_33 (lN_i _) ?_
  refine lv_sipush (v := nI 255) hx hb dX1_writeNumbers_34 (by decide) ?_
  refine lv_iand hx hb dX1_writeNumbers_37 ?_
  refine tp_i (nI (V / 256 % 256)) ((pk_andN (by omega) 8 (by decide)).trans (congrArg nI (by omega))) ?_
  have hd5 := az_dec_le (V / 256 % 256)
  refine wc_Vv (As := [.int (nI (V / 256 % 256))]) (rest := []) (wr := [(a1, .inr (0, [.int (nI fm), .int (nI ln), .long (lN (V / 18446744073709551616)), .long (lN (V % 18446744073709551616))]))]) ⟨hx, hb, hml, hown, hts⟩ (ct_writeDecimal l dC dI H.size h0 ht hw a1 a2 a3 n w4 cW u4 ((((([]) ++ (az_dec (V / 16777216 % 256))) ++ [46]) ++ (az_dec (V / 65536 % 256))) ++ [46]) hg4 (V / 256 % 256) (by omega) (by omega)) (cwV 1 hts gX1_writeNumbers_X1_writeDecimal rfl rfl rfl (by decide +kernel) ⟨Nat.le_of_ble_eq_true rfl, Nat.le_of_ble_eq_true rfl⟩) hP hD hK hS hA [1, 2] [0] [0] rfl rfl (by decide) (by decide) (by decide) rfl 0 rfl rfl rfl hl.1 rfl (Nat.le_of_ble_eq_true rfl) dX1_writeNumbers_38 ⟨(Nat.zero_le _), (Nat.zero_le _)⟩ (fun u H locs hg5 hP hD hS => ?_)
  obtain ⟨u5, w5⟩ := u
  try dsimp only at hg5
  have hP : va_P (dC, dI) azCl [(a1, .inr (0, [.int (nI fm), .int (nI ln), .long (lN (V / 18446744073709551616)), .long (lN (V % 18446744073709551616))])), (h0, .inr (1, [.ref ht, .int (nI n), .ref hw, .int (nI w5), .ref a1, .ref a2, .ref a3])), (hw, .inl (cW, 39, .inl u5))] H := hP
  have hD : va_D A [(a1, .inr (0, [.int (nI fm), .int (nI ln), .long (lN (V / 18446744073709551616)), .long (lN (V % 18446744073709551616))])), (h0, .inr (1, [.ref ht, .int (nI n), .ref hw, .int (nI w5), .ref a1, .ref a2, .ref a3])), (hw, .inl (cW, 39, .inl u5))] := hD
  have hq5 := hg5.1
  try simp only [List.length_append, List.length_cons, List.length_nil] at hq5
  refine lv_iinc (v := nI 3) (lv' := [(1, .int (nI 3)), (0, .ref h0)]) hx hb dX1_writeNumbers_41 hl (k := 0) rfl (by decide) (by decide) rfl (fun ls hl => ?_)
  refine lv_goto (tgt := 2) hx hb dX1_writeNumbers_44 (by decide) ?_
  refine lv_iload_n hx hb dX1_writeNumbers_2 rfl (lv_at hl 0 rfl) ?_
  refine lv_iconst (v := nI 4) hx hb dX1_writeNumbers_3 (by decide) ?_
  refine lv_icmp_ge (tgt := 47) hx hb dX1_writeNumbers_4 (by decide) (fun c => absurd c (by decide)) (fun _ => ?_)
  refine lv_iload_n hx hb dX1_writeNumbers_7 rfl (lv_at hl 0 rfl) ?_
  refine lv_if_le (tgt := 17) hx hb dX1_writeNumbers_8 (by decide) (fun c => absurd c (by decide)) (fun _ => ?_)
  refine lv_aload_n hx hb dX1_writeNumbers_11 rfl (lv_at hl 1 rfl) ?_
  refine lv_bipush (v := nI 46) hx hb dX1_writeNumbers_12 (by decide) ?_
  refine wc_Vv (As := [.int (nI 46)]) (rest := []) (wr := [(a1, .inr (0, [.int (nI fm), .int (nI ln), .long (lN (V / 18446744073709551616)), .long (lN (V % 18446744073709551616))]))]) ⟨hx, hb, hml, hown, hts⟩ (ct_writeByte l dC dI H.size h0 ht hw a1 a2 a3 n w5 cW u5 (((((([]) ++ (az_dec (V / 16777216 % 256))) ++ [46]) ++ (az_dec (V / 65536 % 256))) ++ [46]) ++ (az_dec (V / 256 % 256))) hg5 46 (by omega) (by omega)) (cwV 1 hts gX1_writeNumbers_X1_writeByte rfl rfl rfl (by decide +kernel) ⟨Nat.le_of_ble_eq_true rfl, Nat.le_of_ble_eq_true rfl⟩) hP hD hK hS hA [1, 2] [0] [0] rfl rfl (by decide) (by decide) (by decide) rfl 0 rfl rfl rfl hl.1 rfl (Nat.le_of_ble_eq_true rfl) dX1_writeNumbers_14 ⟨(Nat.zero_le _), (Nat.zero_le _)⟩ (fun u H locs hg6 hP hD hS => ?_)
  obtain ⟨u6, w6⟩ := u
  try dsimp only at hg6
  have hP : va_P (dC, dI) azCl [(a1, .inr (0, [.int (nI fm), .int (nI ln), .long (lN (V / 18446744073709551616)), .long (lN (V % 18446744073709551616))])), (h0, .inr (1, [.ref ht, .int (nI n), .ref hw, .int (nI w6), .ref a1, .ref a2, .ref a3])), (hw, .inl (cW, 39, .inl u6))] H := hP
  have hD : va_D A [(a1, .inr (0, [.int (nI fm), .int (nI ln), .long (lN (V / 18446744073709551616)), .long (lN (V % 18446744073709551616))])), (h0, .inr (1, [.ref ht, .int (nI n), .ref hw, .int (nI w6), .ref a1, .ref a2, .ref a3])), (hw, .inl (cW, 39, .inl u6))] := hD
  have hq6 := hg6.1
  try simp only [List.length_append, List.length_cons, List.length_nil] at hq6
  refine lv_aload_n hx hb dX1_writeNumbers_17 rfl (lv_at hl 1 rfl) ?_
  refine lv_aload_n hx hb dX1_writeNumbers_18 rfl (lv_at hl 1 rfl) ?_
  refine va_get (D := (dC, dI)) (ci := 1) (v := .ref a1) (C := RX1) (T := TX1) (N := 7) hx hb hts hiX1 hown hK hP 1 rfl rfl 4 (by decide) hf26 (fun _ h9 => h9) rfl dX1_writeNumbers_19 ?_
  refine va_get (D := (dC, dI)) (ci := 0) (v := .long (lN (V % 18446744073709551616))) (C := RX0) (T := TX0) (N := 4) hx hb hts hiX0 hown hK hP 0 rfl rfl 3 (by decide) hf66 (fun _ h9 => h9) rfl dX1_writeNumbers_22 ?_
  refine lv_bipush (v := nI 24) hx hb dX1_writeNumbers_25 (by decide) ?_
  refine lv_bipush (v := nI 8) hx hb dX1_writeNumbers_27 (by decide) ?_
  refine lv_iload_n hx hb dX1_writeNumbers_29 rfl (lv_at hl 0 rfl) ?_
  refine lv_imul hx hb dX1_writeNumbers_30 ?_
  refine tp_i (nI 24) (by decide) ?_
  refine lv_isub hx hb dX1_writeNumbers_31 ?_
  refine tp_i (nI 0) (by decide) ?_
  refine lv_lushr (v := lN ((V % 18446744073709551616) / 1)) hx hb dX1_writeNumbers_32 (wb_shr (k := 0) (by omega) (by omega)) ?_
  refine lv_l2i (v := nI ((V % 18446744073709551616) / 1)) hx hb dX1_writeNumbers_33 (lN_i _) ?_
  refine lv_sipush (v := nI 255) hx hb dX1_writeNumbers_34 (by decide) ?_
  refine lv_iand hx hb dX1_writeNumbers_37 ?_
  refine tp_i (nI (V % 256)) ((pk_andN (by omega) 8 (by decide)).trans (congrArg nI (by omega))) ?_
  have hd7 := az_dec_le (V % 256)
  refine wc_Vv (As := [.int (nI (V % 256))]) (rest := []) (wr := [(a1, .inr (0, [.int (nI fm), .int (nI ln), .long (lN (V / 18446744073709551616)), .long (lN (V % 18446744073709551616))]))]) ⟨hx, hb, hml, hown, hts⟩ (ct_writeDecimal l dC dI H.size h0 ht hw a1 a2 a3 n w6 cW u6 ((((((([]) ++ (az_dec (V / 16777216 % 256))) ++ [46]) ++ (az_dec (V / 65536 % 256))) ++ [46]) ++ (az_dec (V / 256 % 256))) ++ [46]) hg6 (V % 256) (by omega) (by omega)) (cwV 1 hts gX1_writeNumbers_X1_writeDecimal rfl rfl rfl (by decide +kernel) ⟨Nat.le_of_ble_eq_true rfl, Nat.le_of_ble_eq_true rfl⟩) hP hD hK hS hA [1, 2] [0] [0] rfl rfl (by decide) (by decide) (by decide) rfl 0 rfl rfl rfl hl.1 rfl (Nat.le_of_ble_eq_true rfl) dX1_writeNumbers_38 ⟨(Nat.zero_le _), (Nat.zero_le _)⟩ (fun u H locs hg7 hP hD hS => ?_)
  obtain ⟨u7, w7⟩ := u
  try dsimp only at hg7
  have hP : va_P (dC, dI) azCl [(a1, .inr (0, [.int (nI fm), .int (nI ln), .long (lN (V / 18446744073709551616)), .long (lN (V % 18446744073709551616))])), (h0, .inr (1, [.ref ht, .int (nI n), .ref hw, .int (nI w7), .ref a1, .ref a2, .ref a3])), (hw, .inl (cW, 39, .inl u7))] H := hP
  have hD : va_D A [(a1, .inr (0, [.int (nI fm), .int (nI ln), .long (lN (V / 18446744073709551616)), .long (lN (V % 18446744073709551616))])), (h0, .inr (1, [.ref ht, .int (nI n), .ref hw, .int (nI w7), .ref a1, .ref a2, .ref a3])), (hw, .inl (cW, 39, .inl u7))] := hD
  have hq7 := hg7.1
  try simp only [List.length_append, List.length_cons, List.length_nil] at hq7
  refine lv_iinc (v := nI 4) (lv' := [(1, .int (nI 4)), (0, .ref h0)]) hx hb dX1_writeNumbers_41 hl (k := 0) rfl (by decide) (by decide) rfl (fun ls hl => ?_)
  refine lv_goto (tgt := 2) hx hb dX1_writeNumbers_44 (by decide) ?_
  refine lv_iload_n hx hb dX1_writeNumbers_2 rfl (lv_at hl 0 rfl) ?_
  refine lv_iconst (v := nI 4) hx hb dX1_writeNumbers_3 (by decide) ?_
  refine lv_icmp_ge (tgt := 47) hx hb dX1_writeNumbers_4 (by decide) (fun _ => ?_) (fun c => absurd c (by decide))
  exact wt_v hx hb hr ((u7, w7)) (⟨by have h := hg7; unfold az_w4; simpa only [List.append_assoc, List.nil_append] using h, by show w7 ≤ 39; omega⟩) (hP.sub [1, 2, 0] rfl) hK (hD.sub [1, 2, 0] (by decide) rfl) hS dX1_writeNumbers_47 hlocks
set_option maxRecDepth 100000 in
set_option maxHeartbeats 4000000 in
/-- writeParts() -/
theorem ct_writeParts (l : Launch) (dC : Nat → ClassId) (dI : Nat → Nat → Nat) (sz : Nat) (h0 ht hw a1 a2 a3 n : Nat) (cW : ClassId) (g : Nat → Int32) (fm ln V : Nat) (hV : V < 340282366920938463463374607431768211456) : Met l yX1_writeParts wsX1_writeParts ({ frames := 4, cells := 0, slots := 0, locals := 89 }) (wr_P (dC, dI) azCl [(h0, .inr (1, [.ref ht, .int (nI n), .ref hw, .int (nI 0), .ref a1, .ref a2, .ref a3])), (hw, .inl (cW, 39, .inl g)), (a1, .inr (0, [.int (nI fm), .int (nI ln), .long (lN (V / 18446744073709551616)), .long (lN (V % 18446744073709551616))]))] [(cW, .byte)] sz [.ref h0]) (va_Qv (fun u => az_ou u.1 (az_wp V (az_lr V 8).1 ((az_lr V 8).1 + az_zr V (az_lr V 8).1) 8) u.2 ∧ u.2 ≤ 39) (wr_B (dC, dI) azCl [(cW, .byte)] (va_A [(h0, .inr (1, [.ref ht, .int (nI n), .ref hw, .int (nI 0), .ref a1, .ref a2, .ref a3])), (hw, .inl (cW, 39, .inl g)), (a1, .inr (0, [.int (nI fm), .int (nI ln), .long (lN (V / 18446744073709551616)), .long (lN (V % 18446744073709551616))]))] sz) (fun u : (Nat → Int32) × Nat => [(h0, .inr (1, [.ref ht, .int (nI n), .ref hw, .int (nI u.2), .ref a1, .ref a2, .ref a3])), (hw, .inl (cW, 39, .inl u.1)), (a1, .inr (0, [.int (nI fm), .int (nI ln), .long (lN (V / 18446744073709551616)), .long (lN (V % 18446744073709551616))]))])) (va_A [(h0, .inr (1, [.ref ht, .int (nI n), .ref hw, .int (nI 0), .ref a1, .ref a2, .ref a3])), (hw, .inl (cW, 39, .inl g)), (a1, .inr (0, [.int (nI fm), .int (nI ln), .long (lN (V / 18446744073709551616)), .long (lN (V % 18446744073709551616))]))] sz)) 0 0 (va_A [(h0, .inr (1, [.ref ht, .int (nI n), .ref hw, .int (nI 0), .ref a1, .ref a2, .ref a3])), (hw, .inl (cW, 39, .inl g)), (a1, .inr (0, [.int (nI fm), .int (nI ln), .long (lN (V / 18446744073709551616)), .long (lN (V % 18446744073709551616))]))] sz) := by
  refine Met.ofW (cc := cX1_writeParts) (maxL := 4) (ret := none) (by decide) rfl ?_
  intro p e s m args below meth c s₁ Bd hml hv
  obtain ⟨rfl, hsz, hP, hK, hD0⟩ := hv
  have hx := Bd.exec
  have hb := Bd.bytes
  have hr := Bd.returns
  have hts := atoms_spec (ws := wsX1_writeParts) Bd.pre
  have hown : s.vm.findClass RX1 = some m.cls := findClass_of_methodNamed Bd.named
  have hlocks := Bd.notSynchronized
  subst hsz
  have hD := hD0.self (sz := s.heap.size)
  generalize hAe : va_A [(h0, .inr (1, [.ref ht, .int (nI n), .ref hw, .int (nI 0), .ref a1, .ref a2, .ref a3])), (hw, .inl (cW, 39, .inl g)), (a1, .inr (0, [.int (nI fm), .int (nI ln), .long (lN (V / 18446744073709551616)), .long (lN (V % 18446744073709551616))]))] s.heap.size = A at hD ⊢
  have hA : ∀ q : Nat, s.heap.size ≤ q → A q := fun q h => by rw [← hAe]; exact Or.inr h
  have hS : va_S A s.heap s.heap [] := va_S.rf
  have hP : va_P (dC, dI) azCl [(h0, .inr (1, [.ref ht, .int (nI n), .ref hw, .int (nI 0), .ref a1, .ref a2, .ref a3])), (hw, .inl (cW, 39, .inl g)), (a1, .inr (0, [.int (nI fm), .int (nI ln), .long (lN (V / 18446744073709551616)), .long (lN (V % 18446744073709551616))]))] s.heap := hP
  have hiX1 : ∀ w ∈ wsX10, w ∈ wsX1_writeParts := by decide +kernel
  have hf26 := hts (.fieldLink RX1 26 "AddressTexts" "one" "LAddressTexts$Address;") (by decide +kernel)
  have hl := lv_entry ([.ref h0]) (n := 4) (Nat.le_of_ble_eq_true rfl)
  rw [lg_entry_eq]
  generalize (lg_sl ([.ref h0]) ++ List.replicate (4 - (lg_sl ([.ref h0])).length) Slot.unset).toArray = ls at hl ⊢
  have hl : lv_has ls 4 [(0, .ref h0)] := hl
  obtain ⟨rs, hrs⟩ : ∃ z, z = (az_lr V 8).1 := ⟨_, rfl⟩
  obtain ⟨re, hre⟩ : ∃ z, z = rs + az_zr V rs := ⟨_, rfl⟩
  have hrow : (rs = 8 ∧ re = 8) ∨ (rs < 8 ∧ rs + 2 ≤ re ∧ re ≤ 8) := by rw [hre, hrs]; rcases az_row V with q | q <;> omega
  have hrs8 : rs ≤ 8 := by omega
  refine lv_aload_n hx hb dX1_writeParts_0 rfl (lv_at hl 0 rfl) ?_
  refine va_get (D := (dC, dI)) (ci := 1) (v := .ref a1) (C := RX1) (T := TX1) (N := 7) hx hb hts hiX1 hown hK hP 0 rfl rfl 4 (by decide) hf26 (fun _ h9 => h9) rfl dX1_writeParts_1 ?_
  refine rc_Vi (As := []) (rest := []) ⟨hx, hb, hml, hown, hts⟩ (ct_longestRow l dC dI a1 fm ln V hV) (cwV 0 hts gX1_writeParts_X0_longestRowOfZeros rfl rfl rfl (by decide +kernel) ⟨Nat.le_of_ble_eq_true rfl, Nat.le_of_ble_eq_true rfl⟩) (hP.sub [2] rfl) (hK.sub [] rfl) 0 rfl rfl rfl hl.1 rfl (Nat.le_of_ble_eq_true rfl) dX1_writeParts_4 ⟨(Nat.zero_le _), (Nat.zero_le _)⟩ ?_
  refine tp_i (nI rs) (congrArg nI hrs.symm) ?_
  refine lv_istore_n (lv' := [(1, .int (nI rs)), (0, .ref h0)]) hx hb dX1_writeParts_7 rfl hl (by decide) rfl (fun ls hl => ?_)
  refine lv_iload_n hx hb dX1_writeParts_8 rfl (lv_at hl 0 rfl) ?_
  refine lv_aload_n hx hb dX1_writeParts_9 rfl (lv_at hl 1 rfl) ?_
  refine va_get (D := (dC, dI)) (ci := 1) (v := .ref a1) (C := RX1) (T := TX1) (N := 7) hx hb hts hiX1 hown hK hP 0 rfl rfl 4 (by decide) hf26 (fun _ h9 => h9) rfl dX1_writeParts_10 ?_
  refine lv_iload_n hx hb dX1_writeParts_13 rfl (lv_at hl 0 rfl) ?_
  refine rc_Vi (As := [.int (nI rs)]) (rest := [.int (nI rs)]) ⟨hx, hb, hml, hown, hts⟩ (ct_zerosFrom l dC dI a1 fm ln V rs hV hrs8) (cwV 1 hts gX1_writeParts_X0_zerosFrom rfl rfl rfl (by decide +kernel) ⟨Nat.le_of_ble_eq_true rfl, Nat.le_of_ble_eq_true rfl⟩) (hP.sub [2] rfl) (hK.sub [] rfl) 0 rfl rfl rfl hl.1 rfl (Nat.le_of_ble_eq_true rfl) dX1_writeParts_14 ⟨(Nat.zero_le _), (Nat.zero_le _)⟩ ?_
  refine lv_iadd hx hb dX1_writeParts_17 ?_
  refine tp_i (nI re) ((nI_add _ _).trans (congrArg nI hre.symm)) ?_
  refine lv_istore_n (lv' := [(2, .int (nI re)), (1, .int (nI rs)), (0, .ref h0)]) hx hb dX1_writeParts_18 rfl hl (by decide) rfl (fun ls hl => ?_)
  refine lv_iconst (v := nI 0) hx hb dX1_writeParts_19 (by decide) ?_
  refine lv_istore_n (lv' := [(3, .int (nI 0)), (2, .int (nI re)), (1, .int (nI rs)), (0, .ref h0)]) hx hb dX1_writeParts_20 rfl hl (by decide) rfl (fun ls hl => ?_)
  have lp21 : ∀ (N : Nat) (k : Nat) (wk : Nat) (gk : Nat → Int32), (k ≤ 8) → (az_ou gk (az_wp V rs re k) wk) → (wk ≤ 5 * k - 1) → (8 - k) < N → ∀ (H : Heap) (locs : List Loc), va_P (dC, dI) azCl [(h0, .inr (1, [.ref ht, .int (nI n), .ref hw, .int (nI wk), .ref a1, .ref a2, .ref a3])), (hw, .inl (cW, 39, .inl gk)), (a1, .inr (0, [.int (nI fm), .int (nI ln), .long (lN (V / 18446744073709551616)), .long (lN (V % 18446744073709551616))]))] H → va_D A [(h0, .inr (1, [.ref ht, .int (nI n), .ref hw, .int (nI wk), .ref a1, .ref a2, .ref a3])), (hw, .inl (cW, 39, .inl gk)), (a1, .inr (0, [.int (nI fm), .int (nI ln), .long (lN (V / 18446744073709551616)), .long (lN (V % 18446744073709551616))]))] → va_S A s.heap H locs → ∀ (ls : Array Slot), lv_has ls 4 [(0, .ref h0), (1, .int (nI rs)), (2, .int (nI re)), (3, .int (nI k))] → W p l e (headSpec wsX1_writeParts ({ frames := 4, cells := 0, slots := 0, locals := 89 })).room s m ([.ref h0] : List Value).toArray below meth c H locs 0 0 (MQ below (va_Qv (fun u => az_ou u.1 (az_wp V (az_lr V 8).1 ((az_lr V 8).1 + az_zr V (az_lr V 8).1) 8) u.2 ∧ u.2 ≤ 39) (wr_B (dC, dI) azCl [(cW, .byte)] A (fun u : (Nat → Int32) × Nat => [(h0, .inr (1, [.ref ht, .int (nI n), .ref hw, .int (nI u.2), .ref a1, .ref a2, .ref a3])), (hw, .inl (cW, 39, .inl u.1)), (a1, .inr (0, [.int (nI fm), .int (nI ln), .long (lN (V / 18446744073709551616)), .long (lN (V % 18446744073709551616))]))])) A) ([.ref h0] : List Value).toArray s 0 0 A) (F0 m 21 ls []) := by
    intro N
    induction N with
    | zero => intro k wk gk hk hg hwk hN; exact absurd hN (Nat.not_lt_zero _)
    | succ N ih =>
      intro k wk gk hk hg hwk hN H locs hP hD hS ls hl
      refine lv_iload_n hx hb dX1_writeParts_21 rfl (lv_at hl 3 rfl) ?_
      refine lv_bipush (v := nI 8) hx hb dX1_writeParts_22 (by decide) ?_
      refine bn_ge (tgt := 87) hx hb dX1_writeParts_24 (by decide) (by omega) (by omega) (fun c24 => ?_) (fun c24 => ?_)
      · exact wt_v hx hb hr ((gk, wk)) (⟨by have h := hg; rw [show k = 8 by omega, hre, hrs] at h; exact h, by show wk ≤ 39; omega⟩) (hP.sub [0, 1, 2] rfl) hK (hD.sub [0, 1, 2] (by decide) rfl) hS dX1_writeParts_87 hlocks
      · have hq0 := hg.1
        refine lv_iload_n hx hb dX1_writeParts_27 rfl (lv_at hl 3 rfl) ?_
        refine lv_iload_n hx hb dX1_writeParts_28 rfl (lv_at hl 1 rfl) ?_
        refine bn_ne (tgt := 44) hx hb dX1_writeParts_29 (by decide) (by omega) (by omega) (fun c29 => ?_) (fun c29 => ?_)
        · refine lv_iload_n hx hb dX1_writeParts_44 rfl (lv_at hl 3 rfl) ?_
          refine lv_iload_n hx hb dX1_writeParts_45 rfl (lv_at hl 1 rfl) ?_
          refine bn_lt (tgt := 54) hx hb dX1_writeParts_46 (by decide) (by omega) (by omega) (fun c46 => ?_) (fun c46 => ?_)
          · refine lv_iload_n hx hb dX1_writeParts_54 rfl (lv_at hl 3 rfl) ?_
            refine bz_le (tgt := 69) hx hb dX1_writeParts_55 (by decide) (by omega) (fun c55 => ?_) (fun c55 => ?_)
            · refine lv_aload_n hx hb dX1_writeParts_69 rfl (lv_at hl 0 rfl) ?_
              refine lv_aload_n hx hb dX1_writeParts_70 rfl (lv_at hl 0 rfl) ?_
              refine va_get (D := (dC, dI)) (ci := 1) (v := .ref a1) (C := RX1) (T := TX1) (N := 7) hx hb hts hiX1 hown hK hP 0 rfl rfl 4 (by decide) hf26 (fun _ h9 => h9) rfl dX1_writeParts_71 ?_
              refine lv_iload_n hx hb dX1_writeParts_74 rfl (lv_at hl 3 rfl) ?_
              refine rc_Vi (As := [.int (nI k)]) (rest := [.ref h0]) ⟨hx, hb, hml, hown, hts⟩ (ct_part l dC dI a1 fm ln V k hV c24) (cwV 1 hts gX1_writeParts_X0_part rfl rfl rfl (by decide +kernel) ⟨Nat.le_of_ble_eq_true rfl, Nat.le_of_ble_eq_true rfl⟩) (hP.sub [2] rfl) (hK.sub [] rfl) 0 rfl rfl rfl hl.1 rfl (Nat.le_of_ble_eq_true rfl) dX1_writeParts_75 ⟨(Nat.zero_le _), (Nat.zero_le _)⟩ ?_
              have hh := az_hex_le (az_pt V k)
              refine wc_Vv (As := [.int (nI (az_pt V k))]) (rest := []) (wr := [(a1, .inr (0, [.int (nI fm), .int (nI ln), .long (lN (V / 18446744073709551616)), .long (lN (V % 18446744073709551616))]))]) ⟨hx, hb, hml, hown, hts⟩ (ct_writeHexadecimal l dC dI H.size h0 ht hw a1 a2 a3 n wk cW gk (az_wp V rs re k) hg (az_pt V k) (az_pt_lt V k) (by omega)) (cwV 1 hts gX1_writeParts_X1_writeHexadecimal rfl rfl rfl (by decide +kernel) ⟨Nat.le_of_ble_eq_true rfl, Nat.le_of_ble_eq_true rfl⟩) hP hD hK hS hA [0, 1] [2] [0] rfl rfl (by decide) (by decide) (by decide) rfl 0 rfl rfl rfl hl.1 rfl (Nat.le_of_ble_eq_true rfl) dX1_writeParts_78 ⟨(Nat.zero_le _), (Nat.zero_le _)⟩ (fun u H locs hg1 hP hD hS => ?_)
              obtain ⟨u1, w1⟩ := u
              try dsimp only at hg1
              have hP : va_P (dC, dI) azCl [(a1, .inr (0, [.int (nI fm), .int (nI ln), .long (lN (V / 18446744073709551616)), .long (lN (V % 18446744073709551616))])), (h0, .inr (1, [.ref ht, .int (nI n), .ref hw, .int (nI w1), .ref a1, .ref a2, .ref a3])), (hw, .inl (cW, 39, .inl u1))] H := hP
              have hD : va_D A [(a1, .inr (0, [.int (nI fm), .int (nI ln), .long (lN (V / 18446744073709551616)), .long (lN (V % 18446744073709551616))])), (h0, .inr (1, [.ref ht, .int (nI n), .ref hw, .int (nI w1), .ref a1, .ref a2, .ref a3])), (hw, .inl (cW, 39, .inl u1))] := hD
              have hq1 := hg1.1
              try simp only [List.length_append, List.length_cons, List.length_nil] at hq1
              refine lv_iinc (v := nI (k + 1)) (lv' := [(3, .int (nI (k + 1))), (0, .ref h0), (1, .int (nI rs)), (2, .int (nI re))]) hx hb dX1_writeParts_81 hl (k := 3) rfl (nI_add _ 1) (by decide) rfl (fun ls hl => ?_)
              refine lv_goto (tgt := 21) hx hb dX1_writeParts_84 (by decide) ?_
              exact ih (k + 1) w1 u1 (by omega) (by have h := hg1; have e : az_wp V rs re (k + 1) = az_wp V rs re k ++ az_ws V rs re k := rfl; rw [e]; unfold az_ws; rw [if_neg c29, if_pos (show k < rs ∨ re ≤ k by omega), if_neg (show ¬ (0 < k ∧ k ≠ re) by omega)]; simpa only [List.append_assoc, List.nil_append, List.append_nil, List.cons_append] using h) (by omega) (by omega) _ _ (hP.sub [1, 2, 0] rfl) (hD.sub [1, 2, 0] (by decide) rfl) hS ls (lv_sub hl [1, 2, 3, 0] rfl)
            · refine lv_iload_n hx hb dX1_writeParts_58 rfl (lv_at hl 3 rfl) ?_
              refine lv_iload_n hx hb dX1_writeParts_59 rfl (lv_at hl 2 rfl) ?_
              refine bn_eq (tgt := 69) hx hb dX1_writeParts_60 (by decide) (by omega) (by omega) (fun c60 => ?_) (fun c60 => ?_)
              · refine lv_aload_n hx hb dX1_writeParts_69 rfl (lv_at hl 0 rfl) ?_
                refine lv_aload_n hx hb dX1_writeParts_70 rfl (lv_at hl 0 rfl) ?_
                refine va_get (D := (dC, dI)) (ci := 1) (v := .ref a1) (C := RX1) (T := TX1) (N := 7) hx hb hts hiX1 hown hK hP 0 rfl rfl 4 (by decide) hf26 (fun _ h9 => h9) rfl dX1_writeParts_71 ?_
                refine lv_iload_n hx hb dX1_writeParts_74 rfl (lv_at hl 3 rfl) ?_
                refine rc_Vi (As := [.int (nI k)]) (rest := [.ref h0]) ⟨hx, hb, hml, hown, hts⟩ (ct_part l dC dI a1 fm ln V k hV c24) (cwV 1 hts gX1_writeParts_X0_part rfl rfl rfl (by decide +kernel) ⟨Nat.le_of_ble_eq_true rfl, Nat.le_of_ble_eq_true rfl⟩) (hP.sub [2] rfl) (hK.sub [] rfl) 0 rfl rfl rfl hl.1 rfl (Nat.le_of_ble_eq_true rfl) dX1_writeParts_75 ⟨(Nat.zero_le _), (Nat.zero_le _)⟩ ?_
                have hh := az_hex_le (az_pt V k)
                refine wc_Vv (As := [.int (nI (az_pt V k))]) (rest := []) (wr := [(a1, .inr (0, [.int (nI fm), .int (nI ln), .long (lN (V / 18446744073709551616)), .long (lN (V % 18446744073709551616))]))]) ⟨hx, hb, hml, hown, hts⟩ (ct_writeHexadecimal l dC dI H.size h0 ht hw a1 a2 a3 n wk cW gk (az_wp V rs re k) hg (az_pt V k) (az_pt_lt V k) (by omega)) (cwV 1 hts gX1_writeParts_X1_writeHexadecimal rfl rfl rfl (by decide +kernel) ⟨Nat.le_of_ble_eq_true rfl, Nat.le_of_ble_eq_true rfl⟩) hP hD hK hS hA [0, 1] [2] [0] rfl rfl (by decide) (by decide) (by decide) rfl 0 rfl rfl rfl hl.1 rfl (Nat.le_of_ble_eq_true rfl) dX1_writeParts_78 ⟨(Nat.zero_le _), (Nat.zero_le _)⟩ (fun u H locs hg1 hP hD hS => ?_)
                obtain ⟨u1, w1⟩ := u
                try dsimp only at hg1
                have hP : va_P (dC, dI) azCl [(a1, .inr (0, [.int (nI fm), .int (nI ln), .long (lN (V / 18446744073709551616)), .long (lN (V % 18446744073709551616))])), (h0, .inr (1, [.ref ht, .int (nI n), .ref hw, .int (nI w1), .ref a1, .ref a2, .ref a3])), (hw, .inl (cW, 39, .inl u1))] H := hP
                have hD : va_D A [(a1, .inr (0, [.int (nI fm), .int (nI ln), .long (lN (V / 18446744073709551616)), .long (lN (V % 18446744073709551616))])), (h0, .inr (1, [.ref ht, .int (nI n), .ref hw, .int (nI w1), .ref a1, .ref a2, .ref a3])), (hw, .inl (cW, 39, .inl u1))] := hD
                have hq1 := hg1.1
                try simp only [List.length_append, List.length_cons, List.length_nil] at hq1
                refine lv_iinc (v := nI (k + 1)) (lv' := [(3, .int (nI (k + 1))), (0, .ref h0), (1, .int (nI rs)), (2, .int (nI re))]) hx hb dX1_writeParts_81 hl (k := 3) rfl (nI_add _ 1) (by decide) rfl (fun ls hl => ?_)
                refine lv_goto (tgt := 21) hx hb dX1_writeParts_84 (by decide) ?_
                exact ih (k + 1) w1 u1 (by omega) (by have h := hg1; have e : az_wp V rs re (k + 1) = az_wp V rs re k ++ az_ws V rs re k := rfl; rw [e]; unfold az_ws; rw [if_neg c29, if_pos (show k < rs ∨ re ≤ k by omega), if_neg (show ¬ (0 < k ∧ k ≠ re) by omega)]; simpa only [List.append_assoc, List.nil_append, List.append_nil, List.cons_append] using h) (by omega) (by omega) _ _ (hP.sub [1, 2, 0] rfl) (hD.sub [1, 2, 0] (by decide) rfl) hS ls (lv_sub hl [1, 2, 3, 0] rfl)
              · refine lv_aload_n hx hb dX1_writeParts_63 rfl (lv_at hl 0 rfl) ?_
                refine lv_bipush (v := nI 58) hx hb dX1_writeParts_64 (by decide) ?_
                refine wc_Vv (As := [.int (nI 58)]) (rest := []) (wr := [(a1, .inr (0, [.int (nI fm), .int (nI ln), .long (lN (V / 18446744073709551616)), .long (lN (V % 18446744073709551616))]))]) ⟨hx, hb, hml, hown, hts⟩ (ct_writeByte l dC dI H.size h0 ht hw a1 a2 a3 n wk cW gk (az_wp V rs re k) hg 58 (by omega) (by omega)) (cwV 1 hts gX1_writeParts_X1_writeByte rfl rfl rfl (by decide +kernel) ⟨Nat.le_of_ble_eq_true rfl, Nat.le_of_ble_eq_true rfl⟩) hP hD hK hS hA [0, 1] [2] [0] rfl rfl (by decide) (by decide) (by decide) rfl 0 rfl rfl rfl hl.1 rfl (Nat.le_of_ble_eq_true rfl) dX1_writeParts_66 ⟨(Nat.zero_le _), (Nat.zero_le _)⟩ (fun u H locs hg1 hP hD hS => ?_)
                obtain ⟨u1, w1⟩ := u
                try dsimp only at hg1
                have hP : va_P (dC, dI) azCl [(a1, .inr (0, [.int (nI fm), .int (nI ln), .long (lN (V / 18446744073709551616)), .long (lN (V % 18446744073709551616))])), (h0, .inr (1, [.ref ht, .int (nI n), .ref hw, .int (nI w1), .ref a1, .ref a2, .ref a3])), (hw, .inl (cW, 39, .inl u1))] H := hP
                have hD : va_D A [(a1, .inr (0, [.int (nI fm), .int (nI ln), .long (lN (V / 18446744073709551616)), .long (lN (V % 18446744073709551616))])), (h0, .inr (1, [.ref ht, .int (nI n), .ref hw, .int (nI w1), .ref a1, .ref a2, .ref a3])), (hw, .inl (cW, 39, .inl u1))] := hD
                have hq1 := hg1.1
                try simp only [List.length_append, List.length_cons, List.length_nil] at hq1
                refine lv_aload_n hx hb dX1_writeParts_69 rfl (lv_at hl 0 rfl) ?_
                refine lv_aload_n hx hb dX1_writeParts_70 rfl (lv_at hl 0 rfl) ?_
                refine va_get (D := (dC, dI)) (ci := 1) (v := .ref a1) (C := RX1) (T := TX1) (N := 7) hx hb hts hiX1 hown hK hP 1 rfl rfl 4 (by decide) hf26 (fun _ h9 => h9) rfl dX1_writeParts_71 ?_
                refine lv_iload_n hx hb dX1_writeParts_74 rfl (lv_at hl 3 rfl) ?_
                refine rc_Vi (As := [.int (nI k)]) (rest := [.ref h0]) ⟨hx, hb, hml, hown, hts⟩ (ct_part l dC dI a1 fm ln V k hV c24) (cwV 1 hts gX1_writeParts_X0_part rfl rfl rfl (by decide +kernel) ⟨Nat.le_of_ble_eq_true rfl, Nat.le_of_ble_eq_true rfl⟩) (hP.sub [0] rfl) (hK.sub [] rfl) 0 rfl rfl rfl hl.1 rfl (Nat.le_of_ble_eq_true rfl) dX1_writeParts_75 ⟨(Nat.zero_le _), (Nat.zero_le _)⟩ ?_
                have hh := az_hex_le (az_pt V k)
                refine wc_Vv (As := [.int (nI (az_pt V k))]) (rest := []) (wr := [(a1, .inr (0, [.int (nI fm), .int (nI ln), .long (lN (V / 18446744073709551616)), .long (lN (V % 18446744073709551616))]))]) ⟨hx, hb, hml, hown, hts⟩ (ct_writeHexadecimal l dC dI H.size h0 ht hw a1 a2 a3 n w1 cW u1 ((az_wp V rs re k) ++ [58]) hg1 (az_pt V k) (az_pt_lt V k) (by omega)) (cwV 1 hts gX1_writeParts_X1_writeHexadecimal rfl rfl rfl (by decide +kernel) ⟨Nat.le_of_ble_eq_true rfl, Nat.le_of_ble_eq_true rfl⟩) hP hD hK hS hA [1, 2] [0] [0] rfl rfl (by decide) (by decide) (by decide) rfl 0 rfl rfl rfl hl.1 rfl (Nat.le_of_ble_eq_true rfl) dX1_writeParts_78 ⟨(Nat.zero_le _), (Nat.zero_le _)⟩ (fun u H locs hg2 hP hD hS => ?_)
                obtain ⟨u2, w2⟩ := u
                try dsimp only at hg2
                have hP : va_P (dC, dI) azCl [(a1, .inr (0, [.int (nI fm), .int (nI ln), .long (lN (V / 18446744073709551616)), .long (lN (V % 18446744073709551616))])), (h0, .inr (1, [.ref ht, .int (nI n), .ref hw, .int (nI w2), .ref a1, .ref a2, .ref a3])), (hw, .inl (cW, 39, .inl u2))] H := hP
                have hD : va_D A [(a1, .inr (0, [.int (nI fm), .int (nI ln), .long (lN (V / 18446744073709551616)), .long (lN (V % 18446744073709551616))])), (h0, .inr (1, [.ref ht, .int (nI n), .ref hw, .int (nI w2), .ref a1, .ref a2, .ref a3])), (hw, .inl (cW, 39, .inl u2))] := hD
                have hq2 := hg2.1
                try simp only [List.length_append, List.length_cons, List.length_nil] at hq2
                refine lv_iinc (v := nI (k + 1)) (lv' := [(3, .int (nI (k + 1))), (0, .ref h0), (1, .int (nI rs)), (2, .int (nI re))]) hx hb dX1_writeParts_81 hl (k := 3) rfl (nI_add _ 1) (by decide) rfl (fun ls hl => ?_)
                refine lv_goto (tgt := 21) hx hb dX1_writeParts_84 (by decide) ?_
                exact ih (k + 1) w2 u2 (by omega) (by have h := hg2; have e : az_wp V rs re (k + 1) = az_wp V rs re k ++ az_ws V rs re k := rfl; rw [e]; unfold az_ws; rw [if_neg c29, if_pos (show k < rs ∨ re ≤ k by omega), if_pos (show 0 < k ∧ k ≠ re by omega)]; simpa only [List.append_assoc, List.nil_append, List.append_nil, List.cons_append] using h) (by omega) (by omega) _ _ (hP.sub [1, 2, 0] rfl) (hD.sub [1, 2, 0] (by decide) rfl) hS ls (lv_sub hl [1, 2, 3, 0] rfl)
          · refine lv_iload_n hx hb dX1_writeParts_49 rfl (lv_at hl 3 rfl) ?_
            refine lv_iload_n hx hb dX1_writeParts_50 rfl (lv_at hl 2 rfl) ?_
            refine bn_lt (tgt := 81) hx hb dX1_writeParts_51 (by decide) (by omega) (by omega) (fun c51 => ?_) (fun c51 => ?_)
            · refine lv_iinc (v := nI (k + 1)) (lv' := [(3, .int (nI (k + 1))), (0, .ref h0), (1, .int (nI rs)), (2, .int (nI re))]) hx hb dX1_writeParts_81 hl (k := 3) rfl (nI_add _ 1) (by decide) rfl (fun ls hl => ?_)
              refine lv_goto (tgt := 21) hx hb dX1_writeParts_84 (by decide) ?_
              exact ih (k + 1) wk gk (by omega) (by have h := hg; have e : az_wp V rs re (k + 1) = az_wp V rs re k ++ az_ws V rs re k := rfl; rw [e]; unfold az_ws; rw [if_neg c29, if_neg (show ¬ (k < rs ∨ re ≤ k) by omega)]; simpa only [List.append_assoc, List.nil_append, List.append_nil, List.cons_append] using h) (by omega) (by omega) _ _ (hP.sub [0, 1, 2] rfl) (hD.sub [0, 1, 2] (by decide) rfl) hS ls (lv_sub hl [1, 2, 3, 0] rfl)
            · refine lv_iload_n hx hb dX1_writeParts_54 rfl (lv_at hl 3 rfl) ?_
              refine bz_le (tgt := 69) hx hb dX1_writeParts_55 (by decide) (by omega) (fun c55 => ?_) (fun c55 => ?_)
              · refine lv_aload_n hx hb dX1_writeParts_69 rfl (lv_at hl 0 rfl) ?_
                refine lv_aload_n hx hb dX1_writeParts_70 rfl (lv_at hl 0 rfl) ?_
                refine va_get (D := (dC, dI)) (ci := 1) (v := .ref a1) (C := RX1) (T := TX1) (N := 7) hx hb hts hiX1 hown hK hP 0 rfl rfl 4 (by decide) hf26 (fun _ h9 => h9) rfl dX1_writeParts_71 ?_
                refine lv_iload_n hx hb dX1_writeParts_74 rfl (lv_at hl 3 rfl) ?_
                refine rc_Vi (As := [.int (nI k)]) (rest := [.ref h0]) ⟨hx, hb, hml, hown, hts⟩ (ct_part l dC dI a1 fm ln V k hV c24) (cwV 1 hts gX1_writeParts_X0_part rfl rfl rfl (by decide +kernel) ⟨Nat.le_of_ble_eq_true rfl, Nat.le_of_ble_eq_true rfl⟩) (hP.sub [2] rfl) (hK.sub [] rfl) 0 rfl rfl rfl hl.1 rfl (Nat.le_of_ble_eq_true rfl) dX1_writeParts_75 ⟨(Nat.zero_le _), (Nat.zero_le _)⟩ ?_
                have hh := az_hex_le (az_pt V k)
                refine wc_Vv (As := [.int (nI (az_pt V k))]) (rest := []) (wr := [(a1, .inr (0, [.int (nI fm), .int (nI ln), .long (lN (V / 18446744073709551616)), .long (lN (V % 18446744073709551616))]))]) ⟨hx, hb, hml, hown, hts⟩ (ct_writeHexadecimal l dC dI H.size h0 ht hw a1 a2 a3 n wk cW gk (az_wp V rs re k) hg (az_pt V k) (az_pt_lt V k) (by omega)) (cwV 1 hts gX1_writeParts_X1_writeHexadecimal rfl rfl rfl (by decide +kernel) ⟨Nat.le_of_ble_eq_true rfl, Nat.le_of_ble_eq_true rfl⟩) hP hD hK hS hA [0, 1] [2] [0] rfl rfl (by decide) (by decide) (by decide) rfl 0 rfl rfl rfl hl.1 rfl (Nat.le_of_ble_eq_true rfl) dX1_writeParts_78 ⟨(Nat.zero_le _), (Nat.zero_le _)⟩ (fun u H locs hg1 hP hD hS => ?_)
                obtain ⟨u1, w1⟩ := u
                try dsimp only at hg1
                have hP : va_P (dC, dI) azCl [(a1, .inr (0, [.int (nI fm), .int (nI ln), .long (lN (V / 18446744073709551616)), .long (lN (V % 18446744073709551616))])), (h0, .inr (1, [.ref ht, .int (nI n), .ref hw, .int (nI w1), .ref a1, .ref a2, .ref a3])), (hw, .inl (cW, 39, .inl u1))] H := hP
                have hD : va_D A [(a1, .inr (0, [.int (nI fm), .int (nI ln), .long (lN (V / 18446744073709551616)), .long (lN (V % 18446744073709551616))])), (h0, .inr (1, [.ref ht, .int (nI n), .ref hw, .int (nI w1), .ref a1, .ref a2, .ref a3])), (hw, .inl (cW, 39, .inl u1))] := hD
                have hq1 := hg1.1
                try simp only [List.length_append, List.length_cons, List.length_nil] at hq1
                refine lv_iinc (v := nI (k + 1)) (lv' := [(3, .int (nI (k + 1))), (0, .ref h0), (1, .int (nI rs)), (2, .int (nI re))]) hx hb dX1_writeParts_81 hl (k := 3) rfl (nI_add _ 1) (by decide) rfl (fun ls hl => ?_)
                refine lv_goto (tgt := 21) hx hb dX1_writeParts_84 (by decide) ?_
                exact ih (k + 1) w1 u1 (by omega) (by have h := hg1; have e : az_wp V rs re (k + 1) = az_wp V rs re k ++ az_ws V rs re k := rfl; rw [e]; unfold az_ws; rw [if_neg c29, if_pos (show k < rs ∨ re ≤ k by omega), if_neg (show ¬ (0 < k ∧ k ≠ re) by omega)]; simpa only [List.append_assoc, List.nil_append, List.append_nil, List.cons_append] using h) (by omega) (by omega) _ _ (hP.sub [1, 2, 0] rfl) (hD.sub [1, 2, 0] (by decide) rfl) hS ls (lv_sub hl [1, 2, 3, 0] rfl)
              · refine lv_iload_n hx hb dX1_writeParts_58 rfl (lv_at hl 3 rfl) ?_
                refine lv_iload_n hx hb dX1_writeParts_59 rfl (lv_at hl 2 rfl) ?_
                refine bn_eq (tgt := 69) hx hb dX1_writeParts_60 (by decide) (by omega) (by omega) (fun c60 => ?_) (fun c60 => ?_)
                · refine lv_aload_n hx hb dX1_writeParts_69 rfl (lv_at hl 0 rfl) ?_
                  refine lv_aload_n hx hb dX1_writeParts_70 rfl (lv_at hl 0 rfl) ?_
                  refine va_get (D := (dC, dI)) (ci := 1) (v := .ref a1) (C := RX1) (T := TX1) (N := 7) hx hb hts hiX1 hown hK hP 0 rfl rfl 4 (by decide) hf26 (fun _ h9 => h9) rfl dX1_writeParts_71 ?_
                  refine lv_iload_n hx hb dX1_writeParts_74 rfl (lv_at hl 3 rfl) ?_
                  refine rc_Vi (As := [.int (nI k)]) (rest := [.ref h0]) ⟨hx, hb, hml, hown, hts⟩ (ct_part l dC dI a1 fm ln V k hV c24) (cwV 1 hts gX1_writeParts_X0_part rfl rfl rfl (by decide +kernel) ⟨Nat.le_of_ble_eq_true rfl, Nat.le_of_ble_eq_true rfl⟩) (hP.sub [2] rfl) (hK.sub [] rfl) 0 rfl rfl rfl hl.1 rfl (Nat.le_of_ble_eq_true rfl) dX1_writeParts_75 ⟨(Nat.zero_le _), (Nat.zero_le _)⟩ ?_
                  have hh := az_hex_le (az_pt V k)
                  refine wc_Vv (As := [.int (nI (az_pt V k))]) (rest := []) (wr := [(a1, .inr (0, [.int (nI fm), .int (nI ln), .long (lN (V / 18446744073709551616)), .long (lN (V % 18446744073709551616))]))]) ⟨hx, hb, hml, hown, hts⟩ (ct_writeHexadecimal l dC dI H.size h0 ht hw a1 a2 a3 n wk cW gk (az_wp V rs re k) hg (az_pt V k) (az_pt_lt V k) (by omega)) (cwV 1 hts gX1_writeParts_X1_writeHexadecimal rfl rfl rfl (by decide +kernel) ⟨Nat.le_of_ble_eq_true rfl, Nat.le_of_ble_eq_true rfl⟩) hP hD hK hS hA [0, 1] [2] [0] rfl rfl (by decide) (by decide) (by decide) rfl 0 rfl rfl rfl hl.1 rfl (Nat.le_of_ble_eq_true rfl) dX1_writeParts_78 ⟨(Nat.zero_le _), (Nat.zero_le _)⟩ (fun u H locs hg1 hP hD hS => ?_)
                  obtain ⟨u1, w1⟩ := u
                  try dsimp only at hg1
                  have hP : va_P (dC, dI) azCl [(a1, .inr (0, [.int (nI fm), .int (nI ln), .long (lN (V / 18446744073709551616)), .long (lN (V % 18446744073709551616))])), (h0, .inr (1, [.ref ht, .int (nI n), .ref hw, .int (nI w1), .ref a1, .ref a2, .ref a3])), (hw, .inl (cW, 39, .inl u1))] H := hP
                  have hD : va_D A [(a1, .inr (0, [.int (nI fm), .int (nI ln), .long (lN (V / 18446744073709551616)), .long (lN (V % 18446744073709551616))])), (h0, .inr (1, [.ref ht, .int (nI n), .ref hw, .int (nI w1), .ref a1, .ref a2, .ref a3])), (hw, .inl (cW, 39, .inl u1))] := hD
                  have hq1 := hg1.1
                  try simp only [List.length_append, List.length_cons, List.length_nil] at hq1
                  refine lv_iinc (v := nI (k + 1)) (lv' := [(3, .int (nI (k + 1))), (0, .ref h0), (1, .int (nI rs)), (2, .int (nI re))]) hx hb dX1_writeParts_81 hl (k := 3) rfl (nI_add _ 1) (by decide) rfl (fun ls hl => ?_)
                  refine lv_goto (tgt := 21) hx hb dX1_writeParts_84 (by decide) ?_
                  exact ih (k + 1) w1 u1 (by omega) (by have h := hg1; have e : az_wp V rs re (k + 1) = az_wp V rs re k ++ az_ws V rs re k := rfl; rw [e]; unfold az_ws; rw [if_neg c29, if_pos (show k < rs ∨ re ≤ k by omega), if_neg (show ¬ (0 < k ∧ k ≠ re) by omega)]; simpa only [List.append_assoc, List.nil_append, List.append_nil, List.cons_append] using h) (by omega) (by omega) _ _ (hP.sub [1, 2, 0] rfl) (hD.sub [1, 2, 0] (by decide) rfl) hS ls (lv_sub hl [1, 2, 3, 0] rfl)
                · refine lv_aload_n hx hb dX1_writeParts_63 rfl (lv_at hl 0 rfl) ?_
                  refine lv_bipush (v := nI 58) hx hb dX1_writeParts_64 (by decide) ?_
                  refine wc_Vv (As := [.int (nI 58)]) (rest := []) (wr := [(a1, .inr (0, [.int (nI fm), .int (nI ln), .long (lN (V / 18446744073709551616)), .long (lN (V % 18446744073709551616))]))]) ⟨hx, hb, hml, hown, hts⟩ (ct_writeByte l dC dI H.size h0 ht hw a1 a2 a3 n wk cW gk (az_wp V rs re k) hg 58 (by omega) (by omega)) (cwV 1 hts gX1_writeParts_X1_writeByte rfl rfl rfl (by decide +kernel) ⟨Nat.le_of_ble_eq_true rfl, Nat.le_of_ble_eq_true rfl⟩) hP hD hK hS hA [0, 1] [2] [0] rfl rfl (by decide) (by decide) (by decide) rfl 0 rfl rfl rfl hl.1 rfl (Nat.le_of_ble_eq_true rfl) dX1_writeParts_66 ⟨(Nat.zero_le _), (Nat.zero_le _)⟩ (fun u H locs hg1 hP hD hS => ?_)
                  obtain ⟨u1, w1⟩ := u
                  try dsimp only at hg1
                  have hP : va_P (dC, dI) azCl [(a1, .inr (0, [.int (nI fm), .int (nI ln), .long (lN (V / 18446744073709551616)), .long (lN (V % 18446744073709551616))])), (h0, .inr (1, [.ref ht, .int (nI n), .ref hw, .int (nI w1), .ref a1, .ref a2, .ref a3])), (hw, .inl (cW, 39, .inl u1))] H := hP
                  have hD : va_D A [(a1, .inr (0, [.int (nI fm), .int (nI ln), .long (lN (V / 18446744073709551616)), .long (lN (V % 18446744073709551616))])), (h0, .inr (1, [.ref ht, .int (nI n), .ref hw, .int (nI w1), .ref a1, .ref a2, .ref a3])), (hw, .inl (cW, 39, .inl u1))] := hD
                  have hq1 := hg1.1
                  try simp only [List.length_append, List.length_cons, List.length_nil] at hq1
                  refine lv_aload_n hx hb dX1_writeParts_69 rfl (lv_at hl 0 rfl) ?_
                  refine lv_aload_n hx hb dX1_writeParts_70 rfl (lv_at hl 0 rfl) ?_
                  refine va_get (D := (dC, dI)) (ci := 1) (v := .ref a1) (C := RX1) (T := TX1) (N := 7) hx hb hts hiX1 hown hK hP 1 rfl rfl 4 (by decide) hf26 (fun _ h9 => h9) rfl dX1_writeParts_71 ?_
                  refine lv_iload_n hx hb dX1_writeParts_74 rfl (lv_at hl 3 rfl) ?_
                  refine rc_Vi (As := [.int (nI k)]) (rest := [.ref h0]) ⟨hx, hb, hml, hown, hts⟩ (ct_part l dC dI a1 fm ln V k hV c24) (cwV 1 hts gX1_writeParts_X0_part rfl rfl rfl (by decide +kernel) ⟨Nat.le_of_ble_eq_true rfl, Nat.le_of_ble_eq_true rfl⟩) (hP.sub [0] rfl) (hK.sub [] rfl) 0 rfl rfl rfl hl.1 rfl (Nat.le_of_ble_eq_true rfl) dX1_writeParts_75 ⟨(Nat.zero_le _), (Nat.zero_le _)⟩ ?_
                  have hh := az_hex_le (az_pt V k)
                  refine wc_Vv (As := [.int (nI (az_pt V k))]) (rest := []) (wr := [(a1, .inr (0, [.int (nI fm), .int (nI ln), .long (lN (V / 18446744073709551616)), .long (lN (V % 18446744073709551616))]))]) ⟨hx, hb, hml, hown, hts⟩ (ct_writeHexadecimal l dC dI H.size h0 ht hw a1 a2 a3 n w1 cW u1 ((az_wp V rs re k) ++ [58]) hg1 (az_pt V k) (az_pt_lt V k) (by omega)) (cwV 1 hts gX1_writeParts_X1_writeHexadecimal rfl rfl rfl (by decide +kernel) ⟨Nat.le_of_ble_eq_true rfl, Nat.le_of_ble_eq_true rfl⟩) hP hD hK hS hA [1, 2] [0] [0] rfl rfl (by decide) (by decide) (by decide) rfl 0 rfl rfl rfl hl.1 rfl (Nat.le_of_ble_eq_true rfl) dX1_writeParts_78 ⟨(Nat.zero_le _), (Nat.zero_le _)⟩ (fun u H locs hg2 hP hD hS => ?_)
                  obtain ⟨u2, w2⟩ := u
                  try dsimp only at hg2
                  have hP : va_P (dC, dI) azCl [(a1, .inr (0, [.int (nI fm), .int (nI ln), .long (lN (V / 18446744073709551616)), .long (lN (V % 18446744073709551616))])), (h0, .inr (1, [.ref ht, .int (nI n), .ref hw, .int (nI w2), .ref a1, .ref a2, .ref a3])), (hw, .inl (cW, 39, .inl u2))] H := hP
                  have hD : va_D A [(a1, .inr (0, [.int (nI fm), .int (nI ln), .long (lN (V / 18446744073709551616)), .long (lN (V % 18446744073709551616))])), (h0, .inr (1, [.ref ht, .int (nI n), .ref hw, .int (nI w2), .ref a1, .ref a2, .ref a3])), (hw, .inl (cW, 39, .inl u2))] := hD
                  have hq2 := hg2.1
                  try simp only [List.length_append, List.length_cons, List.length_nil] at hq2
                  refine lv_iinc (v := nI (k + 1)) (lv' := [(3, .int (nI (k + 1))), (0, .ref h0), (1, .int (nI rs)), (2, .int (nI re))]) hx hb dX1_writeParts_81 hl (k := 3) rfl (nI_add _ 1) (by decide) rfl (fun ls hl => ?_)
                  refine lv_goto (tgt := 21) hx hb dX1_writeParts_84 (by decide) ?_
                  exact ih (k + 1) w2 u2 (by omega) (by have h := hg2; have e : az_wp V rs re (k + 1) = az_wp V rs re k ++ az_ws V rs re k := rfl; rw [e]; unfold az_ws; rw [if_neg c29, if_pos (show k < rs ∨ re ≤ k by omega), if_pos (show 0 < k ∧ k ≠ re by omega)]; simpa only [List.append_assoc, List.nil_append, List.append_nil, List.cons_append] using h) (by omega) (by omega) _ _ (hP.sub [1, 2, 0] rfl) (hD.sub [1, 2, 0] (by decide) rfl) hS ls (lv_sub hl [1, 2, 3, 0] rfl)
        · refine lv_aload_n hx hb dX1_writeParts_32 rfl (lv_at hl 0 rfl) ?_
          refine lv_bipush (v := nI 58) hx hb dX1_writeParts_33 (by decide) ?_
          refine wc_Vv (As := [.int (nI 58)]) (rest := []) (wr := [(a1, .inr (0, [.int (nI fm), .int (nI ln), .long (lN (V / 18446744073709551616)), .long (lN (V % 18446744073709551616))]))]) ⟨hx, hb, hml, hown, hts⟩ (ct_writeByte l dC dI H.size h0 ht hw a1 a2 a3 n wk cW gk (az_wp V rs re k) hg 58 (by omega) (by omega)) (cwV 1 hts gX1_writeParts_X1_writeByte rfl rfl rfl (by decide +kernel) ⟨Nat.le_of_ble_eq_true rfl, Nat.le_of_ble_eq_true rfl⟩) hP hD hK hS hA [0, 1] [2] [0] rfl rfl (by decide) (by decide) (by decide) rfl 0 rfl rfl rfl hl.1 rfl (Nat.le_of_ble_eq_true rfl) dX1_writeParts_35 ⟨(Nat.zero_le _), (Nat.zero_le _)⟩ (fun u H locs hg1 hP hD hS => ?_)
          obtain ⟨u1, w1⟩ := u
          try dsimp only at hg1
          have hP : va_P (dC, dI) azCl [(a1, .inr (0, [.int (nI fm), .int (nI ln), .long (lN (V / 18446744073709551616)), .long (lN (V % 18446744073709551616))])), (h0, .inr (1, [.ref ht, .int (nI n), .ref hw, .int (nI w1), .ref a1, .ref a2, .ref a3])), (hw, .inl (cW, 39, .inl u1))] H := hP
          have hD : va_D A [(a1, .inr (0, [.int (nI fm), .int (nI ln), .long (lN (V / 18446744073709551616)), .long (lN (V % 18446744073709551616))])), (h0, .inr (1, [.ref ht, .int (nI n), .ref hw, .int (nI w1), .ref a1, .ref a2, .ref a3])), (hw, .inl (cW, 39, .inl u1))] := hD
          have hq1 := hg1.1
          try simp only [List.length_append, List.length_cons, List.length_nil] at hq1
          refine lv_aload_n hx hb dX1_writeParts_38 rfl (lv_at hl 0 rfl) ?_
          refine lv_bipush (v := nI 58) hx hb dX1_writeParts_39 (by decide) ?_
          refine wc_Vv (As := [.int (nI 58)]) (rest := []) (wr := [(a1, .inr (0, [.int (nI fm), .int (nI ln), .long (lN (V / 18446744073709551616)), .long (lN (V % 18446744073709551616))]))]) ⟨hx, hb, hml, hown, hts⟩ (ct_writeByte l dC dI H.size h0 ht hw a1 a2 a3 n w1 cW u1 ((az_wp V rs re k) ++ [58]) hg1 58 (by omega) (by omega)) (cwV 1 hts gX1_writeParts_X1_writeByte rfl rfl rfl (by decide +kernel) ⟨Nat.le_of_ble_eq_true rfl, Nat.le_of_ble_eq_true rfl⟩) hP hD hK hS hA [1, 2] [0] [0] rfl rfl (by decide) (by decide) (by decide) rfl 0 rfl rfl rfl hl.1 rfl (Nat.le_of_ble_eq_true rfl) dX1_writeParts_41 ⟨(Nat.zero_le _), (Nat.zero_le _)⟩ (fun u H locs hg2 hP hD hS => ?_)
          obtain ⟨u2, w2⟩ := u
          try dsimp only at hg2
          have hP : va_P (dC, dI) azCl [(a1, .inr (0, [.int (nI fm), .int (nI ln), .long (lN (V / 18446744073709551616)), .long (lN (V % 18446744073709551616))])), (h0, .inr (1, [.ref ht, .int (nI n), .ref hw, .int (nI w2), .ref a1, .ref a2, .ref a3])), (hw, .inl (cW, 39, .inl u2))] H := hP
          have hD : va_D A [(a1, .inr (0, [.int (nI fm), .int (nI ln), .long (lN (V / 18446744073709551616)), .long (lN (V % 18446744073709551616))])), (h0, .inr (1, [.ref ht, .int (nI n), .ref hw, .int (nI w2), .ref a1, .ref a2, .ref a3])), (hw, .inl (cW, 39, .inl u2))] := hD
          have hq2 := hg2.1
          try simp only [List.length_append, List.length_cons, List.length_nil] at hq2
          refine lv_iload_n hx hb dX1_writeParts_44 rfl (lv_at hl 3 rfl) ?_
          refine lv_iload_n hx hb dX1_writeParts_45 rfl (lv_at hl 1 rfl) ?_
          refine bn_lt (tgt := 54) hx hb dX1_writeParts_46 (by decide) (by omega) (by omega) (fun c46 => ?_) (fun c46 => ?_)
          · refine lv_iload_n hx hb dX1_writeParts_54 rfl (lv_at hl 3 rfl) ?_
            refine bz_le (tgt := 69) hx hb dX1_writeParts_55 (by decide) (by omega) (fun c55 => ?_) (fun c55 => ?_)
            · refine lv_aload_n hx hb dX1_writeParts_69 rfl (lv_at hl 0 rfl) ?_
              refine lv_aload_n hx hb dX1_writeParts_70 rfl (lv_at hl 0 rfl) ?_
              refine va_get (D := (dC, dI)) (ci := 1) (v := .ref a1) (C := RX1) (T := TX1) (N := 7) hx hb hts hiX1 hown hK hP 1 rfl rfl 4 (by decide) hf26 (fun _ h9 => h9) rfl dX1_writeParts_71 ?_
              refine lv_iload_n hx hb dX1_writeParts_74 rfl (lv_at hl 3 rfl) ?_
              refine rc_Vi (As := [.int (nI k)]) (rest := [.ref h0]) ⟨hx, hb, hml, hown, hts⟩ (ct_part l dC dI a1 fm ln V k hV c24) (cwV 1 hts gX1_writeParts_X0_part rfl rfl rfl (by decide +kernel) ⟨Nat.le_of_ble_eq_true rfl, Nat.le_of_ble_eq_true rfl⟩) (hP.sub [0] rfl) (hK.sub [] rfl) 0 rfl rfl rfl hl.1 rfl (Nat.le_of_ble_eq_true rfl) dX1_writeParts_75 ⟨(Nat.zero_le _), (Nat.zero_le _)⟩ ?_
              have hh := az_hex_le (az_pt V k)
              refine wc_Vv (As := [.int (nI (az_pt V k))]) (rest := []) (wr := [(a1, .inr (0, [.int (nI fm), .int (nI ln), .long (lN (V / 18446744073709551616)), .long (lN (V % 18446744073709551616))]))]) ⟨hx, hb, hml, hown, hts⟩ (ct_writeHexadecimal l dC dI H.size h0 ht hw a1 a2 a3 n w2 cW u2 (((az_wp V rs re k) ++ [58]) ++ [58]) hg2 (az_pt V k) (az_pt_lt V k) (by omega)) (cwV 1 hts gX1_writeParts_X1_writeHexadecimal rfl rfl rfl (by decide +kernel) ⟨Nat.le_of_ble_eq_true rfl, Nat.le_of_ble_eq_true rfl⟩) hP hD hK hS hA [1, 2] [0] [0] rfl rfl (by decide) (by decide) (by decide) rfl 0 rfl rfl rfl hl.1 rfl (Nat.le_of_ble_eq_true rfl) dX1_writeParts_78 ⟨(Nat.zero_le _), (Nat.zero_le _)⟩ (fun u H locs hg3 hP hD hS => ?_)
              obtain ⟨u3, w3⟩ := u
              try dsimp only at hg3
              have hP : va_P (dC, dI) azCl [(a1, .inr (0, [.int (nI fm), .int (nI ln), .long (lN (V / 18446744073709551616)), .long (lN (V % 18446744073709551616))])), (h0, .inr (1, [.ref ht, .int (nI n), .ref hw, .int (nI w3), .ref a1, .ref a2, .ref a3])), (hw, .inl (cW, 39, .inl u3))] H := hP
              have hD : va_D A [(a1, .inr (0, [.int (nI fm), .int (nI ln), .long (lN (V / 18446744073709551616)), .long (lN (V % 18446744073709551616))])), (h0, .inr (1, [.ref ht, .int (nI n), .ref hw, .int (nI w3), .ref a1, .ref a2, .ref a3])), (hw, .inl (cW, 39, .inl u3))] := hD
              have hq3 := hg3.1
              try simp only [List.length_append, List.length_cons, List.length_nil] at hq3
              refine lv_iinc (v := nI (k + 1)) (lv' := [(3, .int (nI (k + 1))), (0, .ref h0), (1, .int (nI rs)), (2, .int (nI re))]) hx hb dX1_writeParts_81 hl (k := 3) rfl (nI_add _ 1) (by decide) rfl (fun ls hl => ?_)
              refine lv_goto (tgt := 21) hx hb dX1_writeParts_84 (by decide) ?_
              exact ih (k + 1) w3 u3 (by omega) (by have h := hg3; have e : az_wp V rs re (k + 1) = az_wp V rs re k ++ az_ws V rs re k := rfl; rw [e]; unfold az_ws; rw [if_pos c29, if_pos (show k < rs ∨ re ≤ k by omega), if_neg (show ¬ (0 < k ∧ k ≠ re) by omega)]; simpa only [List.append_assoc, List.nil_append, List.append_nil, List.cons_append] using h) (by omega) (by omega) _ _ (hP.sub [1, 2, 0] rfl) (hD.sub [1, 2, 0] (by decide) rfl) hS ls (lv_sub hl [1, 2, 3, 0] rfl)
            · refine lv_iload_n hx hb dX1_writeParts_58 rfl (lv_at hl 3 rfl) ?_
              refine lv_iload_n hx hb dX1_writeParts_59 rfl (lv_at hl 2 rfl) ?_
              refine bn_eq (tgt := 69) hx hb dX1_writeParts_60 (by decide) (by omega) (by omega) (fun c60 => ?_) (fun c60 => ?_)
              · refine lv_aload_n hx hb dX1_writeParts_69 rfl (lv_at hl 0 rfl) ?_
                refine lv_aload_n hx hb dX1_writeParts_70 rfl (lv_at hl 0 rfl) ?_
                refine va_get (D := (dC, dI)) (ci := 1) (v := .ref a1) (C := RX1) (T := TX1) (N := 7) hx hb hts hiX1 hown hK hP 1 rfl rfl 4 (by decide) hf26 (fun _ h9 => h9) rfl dX1_writeParts_71 ?_
                refine lv_iload_n hx hb dX1_writeParts_74 rfl (lv_at hl 3 rfl) ?_
                refine rc_Vi (As := [.int (nI k)]) (rest := [.ref h0]) ⟨hx, hb, hml, hown, hts⟩ (ct_part l dC dI a1 fm ln V k hV c24) (cwV 1 hts gX1_writeParts_X0_part rfl rfl rfl (by decide +kernel) ⟨Nat.le_of_ble_eq_true rfl, Nat.le_of_ble_eq_true rfl⟩) (hP.sub [0] rfl) (hK.sub [] rfl) 0 rfl rfl rfl hl.1 rfl (Nat.le_of_ble_eq_true rfl) dX1_writeParts_75 ⟨(Nat.zero_le _), (Nat.zero_le _)⟩ ?_
                have hh := az_hex_le (az_pt V k)
                refine wc_Vv (As := [.int (nI (az_pt V k))]) (rest := []) (wr := [(a1, .inr (0, [.int (nI fm), .int (nI ln), .long (lN (V / 18446744073709551616)), .long (lN (V % 18446744073709551616))]))]) ⟨hx, hb, hml, hown, hts⟩ (ct_writeHexadecimal l dC dI H.size h0 ht hw a1 a2 a3 n w2 cW u2 (((az_wp V rs re k) ++ [58]) ++ [58]) hg2 (az_pt V k) (az_pt_lt V k) (by omega)) (cwV 1 hts gX1_writeParts_X1_writeHexadecimal rfl rfl rfl (by decide +kernel) ⟨Nat.le_of_ble_eq_true rfl, Nat.le_of_ble_eq_true rfl⟩) hP hD hK hS hA [1, 2] [0] [0] rfl rfl (by decide) (by decide) (by decide) rfl 0 rfl rfl rfl hl.1 rfl (Nat.le_of_ble_eq_true rfl) dX1_writeParts_78 ⟨(Nat.zero_le _), (Nat.zero_le _)⟩ (fun u H locs hg3 hP hD hS => ?_)
                obtain ⟨u3, w3⟩ := u
                try dsimp only at hg3
                have hP : va_P (dC, dI) azCl [(a1, .inr (0, [.int (nI fm), .int (nI ln), .long (lN (V / 18446744073709551616)), .long (lN (V % 18446744073709551616))])), (h0, .inr (1, [.ref ht, .int (nI n), .ref hw, .int (nI w3), .ref a1, .ref a2, .ref a3])), (hw, .inl (cW, 39, .inl u3))] H := hP
                have hD : va_D A [(a1, .inr (0, [.int (nI fm), .int (nI ln), .long (lN (V / 18446744073709551616)), .long (lN (V % 18446744073709551616))])), (h0, .inr (1, [.ref ht, .int (nI n), .ref hw, .int (nI w3), .ref a1, .ref a2, .ref a3])), (hw, .inl (cW, 39, .inl u3))] := hD
                have hq3 := hg3.1
                try simp only [List.length_append, List.length_cons, List.length_nil] at hq3
                refine lv_iinc (v := nI (k + 1)) (lv' := [(3, .int (nI (k + 1))), (0, .ref h0), (1, .int (nI rs)), (2, .int (nI re))]) hx hb dX1_writeParts_81 hl (k := 3) rfl (nI_add _ 1) (by decide) rfl (fun ls hl => ?_)
                refine lv_goto (tgt := 21) hx hb dX1_writeParts_84 (by decide) ?_
                exact ih (k + 1) w3 u3 (by omega) (by have h := hg3; have e : az_wp V rs re (k + 1) = az_wp V rs re k ++ az_ws V rs re k := rfl; rw [e]; unfold az_ws; rw [if_pos c29, if_pos (show k < rs ∨ re ≤ k by omega), if_neg (show ¬ (0 < k ∧ k ≠ re) by omega)]; simpa only [List.append_assoc, List.nil_append, List.append_nil, List.cons_append] using h) (by omega) (by omega) _ _ (hP.sub [1, 2, 0] rfl) (hD.sub [1, 2, 0] (by decide) rfl) hS ls (lv_sub hl [1, 2, 3, 0] rfl)
              · refine lv_aload_n hx hb dX1_writeParts_63 rfl (lv_at hl 0 rfl) ?_
                refine lv_bipush (v := nI 58) hx hb dX1_writeParts_64 (by decide) ?_
                refine wc_Vv (As := [.int (nI 58)]) (rest := []) (wr := [(a1, .inr (0, [.int (nI fm), .int (nI ln), .long (lN (V / 18446744073709551616)), .long (lN (V % 18446744073709551616))]))]) ⟨hx, hb, hml, hown, hts⟩ (ct_writeByte l dC dI H.size h0 ht hw a1 a2 a3 n w2 cW u2 (((az_wp V rs re k) ++ [58]) ++ [58]) hg2 58 (by omega) (by omega)) (cwV 1 hts gX1_writeParts_X1_writeByte rfl rfl rfl (by decide +kernel) ⟨Nat.le_of_ble_eq_true rfl, Nat.le_of_ble_eq_true rfl⟩) hP hD hK hS hA [1, 2] [0] [0] rfl rfl (by decide) (by decide) (by decide) rfl 0 rfl rfl rfl hl.1 rfl (Nat.le_of_ble_eq_true rfl) dX1_writeParts_66 ⟨(Nat.zero_le _), (Nat.zero_le _)⟩ (fun u H locs hg3 hP hD hS => ?_)
                obtain ⟨u3, w3⟩ := u
                try dsimp only at hg3
                have hP : va_P (dC, dI) azCl [(a1, .inr (0, [.int (nI fm), .int (nI ln), .long (lN (V / 18446744073709551616)), .long (lN (V % 18446744073709551616))])), (h0, .inr (1, [.ref ht, .int (nI n), .ref hw, .int (nI w3), .ref a1, .ref a2, .ref a3])), (hw, .inl (cW, 39, .inl u3))] H := hP
                have hD : va_D A [(a1, .inr (0, [.int (nI fm), .int (nI ln), .long (lN (V / 18446744073709551616)), .long (lN (V % 18446744073709551616))])), (h0, .inr (1, [.ref ht, .int (nI n), .ref hw, .int (nI w3), .ref a1, .ref a2, .ref a3])), (hw, .inl (cW, 39, .inl u3))] := hD
                have hq3 := hg3.1
                try simp only [List.length_append, List.length_cons, List.length_nil] at hq3
                refine lv_aload_n hx hb dX1_writeParts_69 rfl (lv_at hl 0 rfl) ?_
                refine lv_aload_n hx hb dX1_writeParts_70 rfl (lv_at hl 0 rfl) ?_
                refine va_get (D := (dC, dI)) (ci := 1) (v := .ref a1) (C := RX1) (T := TX1) (N := 7) hx hb hts hiX1 hown hK hP 1 rfl rfl 4 (by decide) hf26 (fun _ h9 => h9) rfl dX1_writeParts_71 ?_
                refine lv_iload_n hx hb dX1_writeParts_74 rfl (lv_at hl 3 rfl) ?_
                refine rc_Vi (As := [.int (nI k)]) (rest := [.ref h0]) ⟨hx, hb, hml, hown, hts⟩ (ct_part l dC dI a1 fm ln V k hV c24) (cwV 1 hts gX1_writeParts_X0_part rfl rfl rfl (by decide +kernel) ⟨Nat.le_of_ble_eq_true rfl, Nat.le_of_ble_eq_true rfl⟩) (hP.sub [0] rfl) (hK.sub [] rfl) 0 rfl rfl rfl hl.1 rfl (Nat.le_of_ble_eq_true rfl) dX1_writeParts_75 ⟨(Nat.zero_le _), (Nat.zero_le _)⟩ ?_
                have hh := az_hex_le (az_pt V k)
                refine wc_Vv (As := [.int (nI (az_pt V k))]) (rest := []) (wr := [(a1, .inr (0, [.int (nI fm), .int (nI ln), .long (lN (V / 18446744073709551616)), .long (lN (V % 18446744073709551616))]))]) ⟨hx, hb, hml, hown, hts⟩ (ct_writeHexadecimal l dC dI H.size h0 ht hw a1 a2 a3 n w3 cW u3 ((((az_wp V rs re k) ++ [58]) ++ [58]) ++ [58]) hg3 (az_pt V k) (az_pt_lt V k) (by omega)) (cwV 1 hts gX1_writeParts_X1_writeHexadecimal rfl rfl rfl (by decide +kernel) ⟨Nat.le_of_ble_eq_true rfl, Nat.le_of_ble_eq_true rfl⟩) hP hD hK hS hA [1, 2] [0] [0] rfl rfl (by decide) (by decide) (by decide) rfl 0 rfl rfl rfl hl.1 rfl (Nat.le_of_ble_eq_true rfl) dX1_writeParts_78 ⟨(Nat.zero_le _), (Nat.zero_le _)⟩ (fun u H locs hg4 hP hD hS => ?_)
                obtain ⟨u4, w4⟩ := u
                try dsimp only at hg4
                have hP : va_P (dC, dI) azCl [(a1, .inr (0, [.int (nI fm), .int (nI ln), .long (lN (V / 18446744073709551616)), .long (lN (V % 18446744073709551616))])), (h0, .inr (1, [.ref ht, .int (nI n), .ref hw, .int (nI w4), .ref a1, .ref a2, .ref a3])), (hw, .inl (cW, 39, .inl u4))] H := hP
                have hD : va_D A [(a1, .inr (0, [.int (nI fm), .int (nI ln), .long (lN (V / 18446744073709551616)), .long (lN (V % 18446744073709551616))])), (h0, .inr (1, [.ref ht, .int (nI n), .ref hw, .int (nI w4), .ref a1, .ref a2, .ref a3])), (hw, .inl (cW, 39, .inl u4))] := hD
                have hq4 := hg4.1
                try simp only [List.length_append, List.length_cons, List.length_nil] at hq4
                refine lv_iinc (v := nI (k + 1)) (lv' := [(3, .int (nI (k + 1))), (0, .ref h0), (1, .int (nI rs)), (2, .int (nI re))]) hx hb dX1_writeParts_81 hl (k := 3) rfl (nI_add _ 1) (by decide) rfl (fun ls hl => ?_)
                refine lv_goto (tgt := 21) hx hb dX1_writeParts_84 (by decide) ?_
                exact ih (k + 1) w4 u4 (by omega) (by have h := hg4; have e : az_wp V rs re (k + 1) = az_wp V rs re k ++ az_ws V rs re k := rfl; rw [e]; unfold az_ws; rw [if_pos c29, if_pos (show k < rs ∨ re ≤ k by omega), if_pos (show 0 < k ∧ k ≠ re by omega)]; simpa only [List.append_assoc, List.nil_append, List.append_nil, List.cons_append] using h) (by omega) (by omega) _ _ (hP.sub [1, 2, 0] rfl) (hD.sub [1, 2, 0] (by decide) rfl) hS ls (lv_sub hl [1, 2, 3, 0] rfl)
          · refine lv_iload_n hx hb dX1_writeParts_49 rfl (lv_at hl 3 rfl) ?_
            refine lv_iload_n hx hb dX1_writeParts_50 rfl (lv_at hl 2 rfl) ?_
            refine bn_lt (tgt := 81) hx hb dX1_writeParts_51 (by decide) (by omega) (by omega) (fun c51 => ?_) (fun c51 => absurd c51 (by omega))
            refine lv_iinc (v := nI (k + 1)) (lv' := [(3, .int (nI (k + 1))), (0, .ref h0), (1, .int (nI rs)), (2, .int (nI re))]) hx hb dX1_writeParts_81 hl (k := 3) rfl (nI_add _ 1) (by decide) rfl (fun ls hl => ?_)
            refine lv_goto (tgt := 21) hx hb dX1_writeParts_84 (by decide) ?_
            exact ih (k + 1) w2 u2 (by omega) (by have h := hg2; have e : az_wp V rs re (k + 1) = az_wp V rs re k ++ az_ws V rs re k := rfl; rw [e]; unfold az_ws; rw [if_pos c29, if_neg (show ¬ (k < rs ∨ re ≤ k) by omega)]; simpa only [List.append_assoc, List.nil_append, List.append_nil, List.cons_append] using h) (by omega) (by omega) _ _ (hP.sub [1, 2, 0] rfl) (hD.sub [1, 2, 0] (by decide) rfl) hS ls (lv_sub hl [1, 2, 3, 0] rfl)
  exact lp21 _ 0 0 g (Nat.zero_le _) (az_ou_0 g) (Nat.zero_le _) (Nat.lt_succ_self _) _ _ (hP.sub [0, 1, 2] rfl) (hD.sub [0, 1, 2] (by decide) rfl) hS ls (lv_sub hl [3, 2, 1, 0] rfl)
set_option maxRecDepth 100000 in
set_option maxHeartbeats 4000000 in
/-- tapeByte(x) -/
theorem ct_tapeByte (l : Launch) (dC : Nat → ClassId) (dI : Nat → Nat → Nat) (sz : Nat) (h0 ht hw a1 a2 a3 n w : Nat) (cT : ClassId) (f : Nat → Int32) (T : Nat → Nat) (hT : az_tp f T n) (x : Int32) (hn : n < 60) : Met l yX1_tapeByte wsX1_tapeByte ({ frames := 0, cells := 0, slots := 0, locals := 0 }) (wr_P (dC, dI) azCl [(h0, .inr (1, [.ref ht, .int (nI n), .ref hw, .int (nI w), .ref a1, .ref a2, .ref a3])), (ht, .inl (cT, 60, .inl f))] [(cT, .byte)] sz [.ref h0, .int x]) (va_Qv (fun u => az_tp u (az_u T n (x.toBitVec.toNat % 256)) (n + 1)) (wr_B (dC, dI) azCl [(cT, .byte)] (va_A [(h0, .inr (1, [.ref ht, .int (nI n), .ref hw, .int (nI w), .ref a1, .ref a2, .ref a3])), (ht, .inl (cT, 60, .inl f))] sz) (fun u : Nat → Int32 => [(h0, .inr (1, [.ref ht, .int (nI (n + 1)), .ref hw, .int (nI w), .ref a1, .ref a2, .ref a3])), (ht, .inl (cT, 60, .inl u))])) (va_A [(h0, .inr (1, [.ref ht, .int (nI n), .ref hw, .int (nI w), .ref a1, .ref a2, .ref a3])), (ht, .inl (cT, 60, .inl f))] sz)) 0 0 (va_A [(h0, .inr (1, [.ref ht, .int (nI n), .ref hw, .int (nI w), .ref a1, .ref a2, .ref a3])), (ht, .inl (cT, 60, .inl f))] sz) := by
  refine Met.ofW (cc := cX1_tapeByte) (maxL := 2) (ret := none) (by decide) rfl ?_
  intro p e s m args below meth c s₁ Bd hml hv
  obtain ⟨rfl, hsz, hP, hK, hD0⟩ := hv
  have hx := Bd.exec
  have hb := Bd.bytes
  have hr := Bd.returns
  have hts := atoms_spec (ws := wsX1_tapeByte) Bd.pre
  have hown : s.vm.findClass RX1 = some m.cls := findClass_of_methodNamed Bd.named
  have hlocks := Bd.notSynchronized
  subst hsz
  have hD := hD0.self (sz := s.heap.size)
  generalize hAe : va_A [(h0, .inr (1, [.ref ht, .int (nI n), .ref hw, .int (nI w), .ref a1, .ref a2, .ref a3])), (ht, .inl (cT, 60, .inl f))] s.heap.size = A at hD ⊢
  have hA : ∀ q : Nat, s.heap.size ≤ q → A q := fun q h => by rw [← hAe]; exact Or.inr h
  have hS : va_S A s.heap s.heap [] := va_S.rf
  have hP : va_P (dC, dI) azCl [(h0, .inr (1, [.ref ht, .int (nI n), .ref hw, .int (nI w), .ref a1, .ref a2, .ref a3])), (ht, .inl (cT, 60, .inl f))] s.heap := hP
  have hiX1 : ∀ w ∈ wsX10, w ∈ wsX1_tapeByte := by decide +kernel
  have hf13 := hts (.fieldLink RX1 13 "AddressTexts" "tapeCount" "I") (by decide +kernel)
  have hf9 := hts (.fieldLink RX1 9 "AddressTexts" "tape" "[B") (by decide +kernel)
  have hl := lv_entry ([.ref h0, .int x]) (n := 2) (Nat.le_of_ble_eq_true rfl)
  rw [lg_entry_eq]
  generalize (lg_sl ([.ref h0, .int x]) ++ List.replicate (2 - (lg_sl ([.ref h0, .int x])).length) Slot.unset).toArray = ls at hl ⊢
  have hl : lv_has ls 2 [(0, .ref h0), (1, .int x)] := hl
  refine lv_aload_n hx hb dX1_tapeByte_0 rfl (lv_at hl 0 rfl) ?_
  refine va_get (D := (dC, dI)) (ci := 1) (v := .int (nI n)) (C := RX1) (T := TX1) (N := 7) hx hb hts hiX1 hown hK hP 0 rfl rfl 1 (by decide) hf13 (fun _ h9 => h9) rfl dX1_tapeByte_1 ?_
  refine lv_aload_n hx hb dX1_tapeByte_4 rfl (lv_at hl 0 rfl) ?_
  refine va_get (D := (dC, dI)) (ci := 1) (v := .ref ht) (C := RX1) (T := TX1) (N := 7) hx hb hts hiX1 hown hK hP 0 rfl rfl 0 (by decide) hf9 (fun _ h9 => h9) rfl dX1_tapeByte_5 ?_
  refine va_alen (v := nI 60) hx hb hK hP 1 0 rfl rfl rfl dX1_tapeByte_8 ?_
  refine bn_ge (tgt := 33) hx hb dX1_tapeByte_9 (by decide) (by omega) (by omega) (fun c9 => absurd c9 (by omega)) (fun c9 => ?_)
  refine lv_aload_n hx hb dX1_tapeByte_12 rfl (lv_at hl 0 rfl) ?_
  refine va_get (D := (dC, dI)) (ci := 1) (v := .ref ht) (C := RX1) (T := TX1) (N := 7) hx hb hts hiX1 hown hK hP 0 rfl rfl 0 (by decide) hf9 (fun _ h9 => h9) rfl dX1_tapeByte_13 ?_
  refine lv_aload_n hx hb dX1_tapeByte_16 rfl (lv_at hl 0 rfl) ?_
  refine va_get (D := (dC, dI)) (ci := 1) (v := .int (nI n)) (C := RX1) (T := TX1) (N := 7) hx hb hts hiX1 hown hK hP 0 rfl rfl 1 (by decide) hf13 (fun _ h9 => h9) rfl dX1_tapeByte_17 ?_
  refine lv_iload_n hx hb dX1_tapeByte_20 rfl (lv_at hl 1 rfl) ?_
  refine lv_i2b (v := x.toInt8.toInt32) hx hb dX1_tapeByte_21 (rfl) ?_
  refine st_b hx hb hK hP hD hS 1 0 rfl rfl (by omega) (by omega) dX1_tapeByte_22 (fun H locs hP hD hS => ?_)
  have hP : va_P (dC, dI) azCl [(h0, .inr (1, [.ref ht, .int (nI n), .ref hw, .int (nI w), .ref a1, .ref a2, .ref a3])), (ht, .inl (cT, 60, .inl (upd f n (vp_nar .byte x.toInt8.toInt32))))] H := hP
  have hD : va_D A [(h0, .inr (1, [.ref ht, .int (nI n), .ref hw, .int (nI w), .ref a1, .ref a2, .ref a3])), (ht, .inl (cT, 60, .inl (upd f n (vp_nar .byte x.toInt8.toInt32))))] := hD
  refine lv_aload_n hx hb dX1_tapeByte_23 rfl (lv_at hl 0 rfl) ?_
  refine lv_dup hx hb dX1_tapeByte_24 rfl ?_
  refine va_get (D := (dC, dI)) (ci := 1) (v := .int (nI n)) (C := RX1) (T := TX1) (N := 7) hx hb hts hiX1 hown hK hP 0 rfl rfl 1 (by decide) hf13 (fun _ h9 => h9) rfl dX1_tapeByte_25 ?_
  refine lv_iconst (v := nI 1) hx hb dX1_tapeByte_28 (by decide) ?_
  refine lv_iadd hx hb dX1_tapeByte_29 ?_
  refine tp_i (nI (n + 1)) (nI_add _ _) ?_
  refine va_put (D := (dC, dI)) (ci := 1) (v := .int (nI (n + 1))) (ty := .int) (C := RX1) (T := TX1) (N := 7) hx hb hts hiX1 tyX1 tyX1_ok nmX1 hown hK hP hD hS 0 rfl rfl 1 (by decide) hf13 (fun _ h9 => h9) rfl (by decide +kernel) rfl rfl (Nat.le_of_ble_eq_true rfl) dX1_tapeByte_30 (fun H locs hP hD hS => ?_)
  have hP : va_P (dC, dI) azCl [(h0, .inr (1, [.ref ht, .int (nI (n + 1)), .ref hw, .int (nI w), .ref a1, .ref a2, .ref a3])), (ht, .inl (cT, 60, .inl (upd f n (vp_nar .byte x.toInt8.toInt32))))] H := hP
  have hD : va_D A [(h0, .inr (1, [.ref ht, .int (nI (n + 1)), .ref hw, .int (nI w), .ref a1, .ref a2, .ref a3])), (ht, .inl (cT, 60, .inl (upd f n (vp_nar .byte x.toInt8.toInt32))))] := hD
  exact wt_v hx hb hr (upd f n (vp_nar .byte x.toInt8.toInt32)) (az_tp_push hT x) (hP.sub [0, 1] rfl) hK (hD.sub [0, 1] (by decide) rfl) hS dX1_tapeByte_33 hlocks
set_option maxRecDepth 100000 in
set_option maxHeartbeats 4000000 in
/-- tapeNumber(a) -/
theorem ct_tapeNumber (l : Launch) (dC : Nat → ClassId) (dI : Nat → Nat → Nat) (sz : Nat) (h0 ht hw a1 a2 a3 n w : Nat) (cT : ClassId) (f : Nat → Int32) (T : Nat → Nat) (hT : az_tp f T n) (a : Int32) (hn : n + 4 ≤ 60) : Met l yX1_tapeNumber wsX1_tapeNumber ({ frames := 1, cells := 0, slots := 0, locals := 21 }) (wr_P (dC, dI) azCl [(h0, .inr (1, [.ref ht, .int (nI n), .ref hw, .int (nI w), .ref a1, .ref a2, .ref a3])), (ht, .inl (cT, 60, .inl f))] [(cT, .byte)] sz [.ref h0, .int a]) (va_Qv (fun u => az_tp u (az_a4 T n a) (n + 4)) (wr_B (dC, dI) azCl [(cT, .byte)] (va_A [(h0, .inr (1, [.ref ht, .int (nI n), .ref hw, .int (nI w), .ref a1, .ref a2, .ref a3])), (ht, .inl (cT, 60, .inl f))] sz) (fun u : Nat → Int32 => [(h0, .inr (1, [.ref ht, .int (nI (n + 4)), .ref hw, .int (nI w), .ref a1, .ref a2, .ref a3])), (ht, .inl (cT, 60, .inl u))])) (va_A [(h0, .inr (1, [.ref ht, .int (nI n), .ref hw, .int (nI w), .ref a1, .ref a2, .ref a3])), (ht, .inl (cT, 60, .inl f))] sz)) 0 0 (va_A [(h0, .inr (1, [.ref ht, .int (nI n), .ref hw, .int (nI w), .ref a1, .ref a2, .ref a3])), (ht, .inl (cT, 60, .inl f))] sz) := by
  refine Met.ofW (cc := cX1_tapeNumber) (maxL := 3) (ret := none) (by decide) rfl ?_
  intro p e s m args below meth c s₁ Bd hml hv
  obtain ⟨rfl, hsz, hP, hK, hD0⟩ := hv
  have hx := Bd.exec
  have hb := Bd.bytes
  have hr := Bd.returns
  have hts := atoms_spec (ws := wsX1_tapeNumber) Bd.pre
  have hown : s.vm.findClass RX1 = some m.cls := findClass_of_methodNamed Bd.named
  have hlocks := Bd.notSynchronized
  subst hsz
  have hD := hD0.self (sz := s.heap.size)
  generalize hAe : va_A [(h0, .inr (1, [.ref ht, .int (nI n), .ref hw, .int (nI w), .ref a1, .ref a2, .ref a3])), (ht, .inl (cT, 60, .inl f))] s.heap.size = A at hD ⊢
  have hA : ∀ q : Nat, s.heap.size ≤ q → A q := fun q h => by rw [← hAe]; exact Or.inr h
  have hS : va_S A s.heap s.heap [] := va_S.rf
  have hP : va_P (dC, dI) azCl [(h0, .inr (1, [.ref ht, .int (nI n), .ref hw, .int (nI w), .ref a1, .ref a2, .ref a3])), (ht, .inl (cT, 60, .inl f))] s.heap := hP
  have hl := lv_entry ([.ref h0, .int a]) (n := 3) (Nat.le_of_ble_eq_true rfl)
  rw [lg_entry_eq]
  generalize (lg_sl ([.ref h0, .int a]) ++ List.replicate (3 - (lg_sl ([.ref h0, .int a])).length) Slot.unset).toArray = ls at hl ⊢
  have hl : lv_has ls 3 [(0, .ref h0), (1, .int a)] := hl
  refine lv_bipush (v := nI 24) hx hb dX1_tapeNumber_0 (by decide) ?_
  refine lv_istore_n (lv' := [(2, .int (nI 24)), (0, .ref h0), (1, .int a)]) hx hb dX1_tapeNumber_2 rfl hl (by decide) rfl (fun ls hl => ?_)
  refine lv_iload_n hx hb dX1_tapeNumber_3 rfl (lv_at hl 0 rfl) ?_
  refine lv_if_lt (tgt := 20) hx hb dX1_tapeNumber_4 (by decide) (fun c => absurd c (by decide)) (fun _ => ?_)
  refine lv_aload_n hx hb dX1_tapeNumber_7 rfl (lv_at hl 1 rfl) ?_
  refine lv_iload_n hx hb dX1_tapeNumber_8 rfl (lv_at hl 2 rfl) ?_
  refine lv_iload_n hx hb dX1_tapeNumber_9 rfl (lv_at hl 0 rfl) ?_
  refine lv_iushr (v := (a.toUInt32 >>> ((nI 24).toUInt32 &&& Int32.toUInt32 31)).toInt32) hx hb dX1_tapeNumber_10 (rfl) ?_
  refine wc_Vv (As := [.int ((a.toUInt32 >>> ((nI 24).toUInt32 &&& Int32.toUInt32 31)).toInt32)]) (rest := []) (wr := []) ⟨hx, hb, hml, hown, hts⟩ (ct_tapeByte l dC dI s.heap.size h0 ht hw a1 a2 a3 n w cT f T hT ((a.toUInt32 >>> ((nI 24).toUInt32 &&& Int32.toUInt32 31)).toInt32) (by omega)) (cwV 1 hts gX1_tapeNumber_X1_tapeByte rfl rfl rfl (by decide +kernel) ⟨Nat.le_of_ble_eq_true rfl, Nat.le_of_ble_eq_true rfl⟩) hP hD hK hS hA [0, 1] [] [0] rfl rfl (by decide) (by decide) (by decide) rfl 0 rfl rfl rfl hl.1 rfl (Nat.le_of_ble_eq_true rfl) dX1_tapeNumber_11 ⟨(Nat.zero_le _), (Nat.zero_le _)⟩ (fun u1 H locs hT1 hP hD hS => ?_)
  try dsimp only at hT1
  have hP : va_P (dC, dI) azCl [(h0, .inr (1, [.ref ht, .int (nI (n + 1)), .ref hw, .int (nI w), .ref a1, .ref a2, .ref a3])), (ht, .inl (cT, 60, .inl u1))] H := hP
  have hD : va_D A [(h0, .inr (1, [.ref ht, .int (nI (n + 1)), .ref hw, .int (nI w), .ref a1, .ref a2, .ref a3])), (ht, .inl (cT, 60, .inl u1))] := hD
  refine lv_iinc (v := nI 16) (lv' := [(2, .int (nI 16)), (0, .ref h0), (1, .int a)]) hx hb dX1_tapeNumber_14 hl (k := 0) rfl (by decide) (by decide) rfl (fun ls hl => ?_)
  refine lv_goto (tgt := 3) hx hb dX1_tapeNumber_17 (by decide) ?_
  refine lv_iload_n hx hb dX1_tapeNumber_3 rfl (lv_at hl 0 rfl) ?_
  refine lv_if_lt (tgt := 20) hx hb dX1_tapeNumber_4 (by decide) (fun c => absurd c (by decide)) (fun _ => ?_)
  refine lv_aload_n hx hb dX1_tapeNumber_7 rfl (lv_at hl 1 rfl) ?_
  refine lv_iload_n hx hb dX1_tapeNumber_8 rfl (lv_at hl 2 rfl) ?_
  refine lv_iload_n hx hb dX1_tapeNumber_9 rfl (lv_at hl 0 rfl) ?_
  refine lv_iushr (v := (a.toUInt32 >>> ((nI 16).toUInt32 &&& Int32.toUInt32 31)).toInt32) hx hb dX1_tapeNumber_10 (rfl) ?_
  refine wc_Vv (As := [.int ((a.toUInt32 >>> ((nI 16).toUInt32 &&& Int32.toUInt32 31)).toInt32)]) (rest := []) (wr := []) ⟨hx, hb, hml, hown, hts⟩ (ct_tapeByte l dC dI H.size h0 ht hw a1 a2 a3 (n + 1) w cT u1 (az_u T n (((a.toUInt32 >>> ((nI 24).toUInt32 &&& Int32.toUInt32 31)).toInt32).toBitVec.toNat % 256)) hT1 ((a.toUInt32 >>> ((nI 16).toUInt32 &&& Int32.toUInt32 31)).toInt32) (by omega)) (cwV 1 hts gX1_tapeNumber_X1_tapeByte rfl rfl rfl (by decide +kernel) ⟨Nat.le_of_ble_eq_true rfl, Nat.le_of_ble_eq_true rfl⟩) hP hD hK hS hA [0, 1] [] [0] rfl rfl (by decide) (by decide) (by decide) rfl 0 rfl rfl rfl hl.1 rfl (Nat.le_of_ble_eq_true rfl) dX1_tapeNumber_11 ⟨(Nat.zero_le _), (Nat.zero_le _)⟩ (fun u2 H locs hT2 hP hD hS => ?_)
  try dsimp only at hT2
  have hP : va_P (dC, dI) azCl [(h0, .inr (1, [.ref ht, .int (nI (n + 1 + 1)), .ref hw, .int (nI w), .ref a1, .ref a2, .ref a3])), (ht, .inl (cT, 60, .inl u2))] H := hP
  have hD : va_D A [(h0, .inr (1, [.ref ht, .int (nI (n + 1 + 1)), .ref hw, .int (nI w), .ref a1, .ref a2, .ref a3])), (ht, .inl (cT, 60, .inl u2))] := hD
  refine lv_iinc (v := nI 8) (lv' := [(2, .int (nI 8)), (0, .ref h0), (1, .int a)]) hx hb dX1_tapeNumber_14 hl (k := 0) rfl (by decide) (by decide) rfl (fun ls hl => ?_)
  refine lv_goto (tgt := 3) hx hb dX1_tapeNumber_17 (by decide) ?_
  refine lv_iload_n hx hb dX1_tapeNumber_3 rfl (lv_at hl 0 rfl) ?_
  refine lv_if_lt (tgt := 20) hx hb dX1_tapeNumber_4 (by decide) (fun c => absurd c (by decide)) (fun _ => ?_)
  refine lv_aload_n hx hb dX1_tapeNumber_7 rfl (lv_at hl 1 rfl) ?_
  refine lv_iload_n hx hb dX1_tapeNumber_8 rfl (lv_at hl 2 rfl) ?_
  refine lv_iload_n hx hb dX1_tapeNumber_9 rfl (lv_at hl 0 rfl) ?_
  refine lv_iushr (v := (a.toUInt32 >>> ((nI 8).toUInt32 &&& Int32.toUInt32 31)).toInt32) hx hb dX1_tapeNumber_10 (rfl) ?_
  refine wc_Vv (As := [.int ((a.toUInt32 >>> ((nI 8).toUInt32 &&& Int32.toUInt32 31)).toInt32)]) (rest := []) (wr := []) ⟨hx, hb, hml, hown, hts⟩ (ct_tapeByte l dC dI H.size h0 ht hw a1 a2 a3 (n + 1 + 1) w cT u2 (az_u (az_u T n (((a.toUInt32 >>> ((nI 24).toUInt32 &&& Int32.toUInt32 31)).toInt32).toBitVec.toNat % 256)) (n + 1) (((a.toUInt32 >>> ((nI 16).toUInt32 &&& Int32.toUInt32 31)).toInt32).toBitVec.toNat % 256)) hT2 ((a.toUInt32 >>> ((nI 8).toUInt32 &&& Int32.toUInt32 31)).toInt32) (by omega)) (cwV 1 hts gX1_tapeNumber_X1_tapeByte rfl rfl rfl (by decide +kernel) ⟨Nat.le_of_ble_eq_true rfl, Nat.le_of_ble_eq_true rfl⟩) hP hD hK hS hA [0, 1] [] [0] rfl rfl (by decide) (by decide) (by decide) rfl 0 rfl rfl rfl hl.1 rfl (Nat.le_of_ble_eq_true rfl) dX1_tapeNumber_11 ⟨(Nat.zero_le _), (Nat.zero_le _)⟩ (fun u3 H locs hT3 hP hD hS => ?_)
  try dsimp only at hT3
  have hP : va_P (dC, dI) azCl [(h0, .inr (1, [.ref ht, .int (nI (n + 1 + 1 + 1)), .ref hw, .int (nI w), .ref a1, .ref a2, .ref a3])), (ht, .inl (cT, 60, .inl u3))] H := hP
  have hD : va_D A [(h0, .inr (1, [.ref ht, .int (nI (n + 1 + 1 + 1)), .ref hw, .int (nI w), .ref a1, .ref a2, .ref a3])), (ht, .inl (cT, 60, .inl u3))] := hD
  refine lv_iinc (v := nI 0) (lv' := [(2, .int (nI 0)), (0, .ref h0), (1, .int a)]) hx hb dX1_tapeNumber_14 hl (k := 0) rfl (by decide) (by decide) rfl (fun ls hl => ?_)
  refine lv_goto (tgt := 3) hx hb dX1_tapeNumber_17 (by decide) ?_
  refine lv_iload_n hx hb dX1_tapeNumber_3 rfl (lv_at hl 0 rfl) ?_
  refine lv_if_lt (tgt := 20) hx hb dX1_tapeNumber_4 (by decide) (fun c => absurd c (by decide)) (fun _ => ?_)
  refine lv_aload_n hx hb dX1_tapeNumber_7 rfl (lv_at hl 1 rfl) ?_
  refine lv_iload_n hx hb dX1_tapeNumber_8 rfl (lv_at hl 2 rfl) ?_
  refine lv_iload_n hx hb dX1_tapeNumber_9 rfl (lv_at hl 0 rfl) ?_
  refine lv_iushr (v := (a.toUInt32 >>> ((nI 0).toUInt32 &&& Int32.toUInt32 31)).toInt32) hx hb dX1_tapeNumber_10 (rfl) ?_
  refine wc_Vv (As := [.int ((a.toUInt32 >>> ((nI 0).toUInt32 &&& Int32.toUInt32 31)).toInt32)]) (rest := []) (wr := []) ⟨hx, hb, hml, hown, hts⟩ (ct_tapeByte l dC dI H.size h0 ht hw a1 a2 a3 (n + 1 + 1 + 1) w cT u3 (az_u (az_u (az_u T n (((a.toUInt32 >>> ((nI 24).toUInt32 &&& Int32.toUInt32 31)).toInt32).toBitVec.toNat % 256)) (n + 1) (((a.toUInt32 >>> ((nI 16).toUInt32 &&& Int32.toUInt32 31)).toInt32).toBitVec.toNat % 256)) (n + 1 + 1) (((a.toUInt32 >>> ((nI 8).toUInt32 &&& Int32.toUInt32 31)).toInt32).toBitVec.toNat % 256)) hT3 ((a.toUInt32 >>> ((nI 0).toUInt32 &&& Int32.toUInt32 31)).toInt32) (by omega)) (cwV 1 hts gX1_tapeNumber_X1_tapeByte rfl rfl rfl (by decide +kernel) ⟨Nat.le_of_ble_eq_true rfl, Nat.le_of_ble_eq_true rfl⟩) hP hD hK hS hA [0, 1] [] [0] rfl rfl (by decide) (by decide) (by decide) rfl 0 rfl rfl rfl hl.1 rfl (Nat.le_of_ble_eq_true rfl) dX1_tapeNumber_11 ⟨(Nat.zero_le _), (Nat.zero_le _)⟩ (fun u4 H locs hT4 hP hD hS => ?_)
  try dsimp only at hT4
  have hP : va_P (dC, dI) azCl [(h0, .inr (1, [.ref ht, .int (nI (n + 1 + 1 + 1 + 1)), .ref hw, .int (nI w), .ref a1, .ref a2, .ref a3])), (ht, .inl (cT, 60, .inl u4))] H := hP
  have hD : va_D A [(h0, .inr (1, [.ref ht, .int (nI (n + 1 + 1 + 1 + 1)), .ref hw, .int (nI w), .ref a1, .ref a2, .ref a3])), (ht, .inl (cT, 60, .inl u4))] := hD
  refine lv_iinc (v := -8) (lv' := [(2, .int (-8)), (0, .ref h0), (1, .int a)]) hx hb dX1_tapeNumber_14 hl (k := 0) rfl (by decide) (by decide) rfl (fun ls hl => ?_)
  refine lv_goto (tgt := 3) hx hb dX1_tapeNumber_17 (by decide) ?_
  refine lv_iload_n hx hb dX1_tapeNumber_3 rfl (lv_at hl 0 rfl) ?_
  refine lv_if_lt (tgt := 20) hx hb dX1_tapeNumber_4 (by decide) (fun _ => ?_) (fun c => absurd c (by decide))
  exact wt_v hx hb hr (u4) (by have h := hT4; rw [pk_ushr a (nI 24) 24 (by decide), pk_ushr a (nI 16) 16 (by decide), pk_ushr a (nI 8) 8 (by decide), pk_ushr a (nI 0) 0 (by decide), Nat.pow_zero, Nat.div_one] at h; exact h) (hP.sub [0, 1] rfl) hK (hD.sub [0, 1] (by decide) rfl) hS dX1_tapeNumber_20 hlocks
