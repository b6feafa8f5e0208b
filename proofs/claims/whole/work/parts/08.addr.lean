set_option maxRecDepth 100000 in
set_option maxHeartbeats 4000000 in
/-- wholeLength() -/
theorem ct_wholeLength (l : Launch) (dC : Nat → ClassId) (dI : Nat → Nat → Nat) (a fm : Nat) (e2 : Int32) (e3 e4 : Int64) (hfm : fm ≤ 6) : Met l yX0_wholeLength wsX0_wholeLength ({ frames := 0, cells := 0, slots := 0, locals := 0 }) (rd_P (dC, dI) azCl [(a, .inr (0, [.int (nI fm), .int e2, .long e3, .long e4]))] [] [.ref a]) (vp_Si (fun r => r = nI (az_wl fm))) 0 0 (fun _ => False) := by
  refine Met.ofW (cc := cX0_wholeLength) (maxL := 1) (ret := (some .int)) (by decide) rfl ?_
  intro p e s m args below meth c s₁ Bd hml hv
  obtain ⟨rfl, hP, hK⟩ := hv
  have hx := Bd.exec
  have hb := Bd.bytes
  have hr := Bd.returns
  have hts := atoms_spec (ws := wsX0_wholeLength) Bd.pre
  have hown : s.vm.findClass RX0 = some m.cls := findClass_of_methodNamed Bd.named
  have hlocks := Bd.notSynchronized
  have hiX0 : ∀ w ∈ wsX00, w ∈ wsX0_wholeLength := by decide +kernel
  have hf9 := hts (.fieldLink RX0 9 "AddressTexts$Address" "family" "I") (by decide +kernel)
  have hl := lv_entry ([.ref a]) (n := 1) (Nat.le_of_ble_eq_true rfl)
  rw [lg_entry_eq]
  generalize (lg_sl ([.ref a]) ++ List.replicate (1 - (lg_sl ([.ref a])).length) Slot.unset).toArray = ls at hl ⊢
  have hl : lv_has ls 1 [(0, .ref a)] := hl
  refine lv_aload_n hx hb dX0_wholeLength_0 rfl (lv_at hl 0 rfl) ?_
  refine va_get (D := (dC, dI)) (ci := 0) (v := .int (nI fm)) (C := RX0) (T := TX0) (N := 4) hx hb hts hiX0 hown hK hP 0 rfl rfl 0 (by decide) hf9 (fun _ h9 => h9) rfl dX0_wholeLength_1 ?_
  refine lv_iconst (v := nI 4) hx hb dX0_wholeLength_4 (by decide) ?_
  refine bn_ne (tgt := 13) hx hb dX0_wholeLength_5 (by decide) (by omega) (by omega) (fun c5 => ?_) (fun c5 => ?_)
  · refine lv_sipush (v := nI 128) hx hb dX0_wholeLength_13 (by decide) ?_
    exact rt_i hx hb hr (by first | rw [az_wl_n c5] | (rw [c5]; rfl)) dX0_wholeLength_16 hlocks
  · refine lv_bipush (v := nI 32) hx hb dX0_wholeLength_8 (by decide) ?_
    refine lv_goto (tgt := 16) hx hb dX0_wholeLength_10 (by decide) ?_
    exact rt_i hx hb hr (by first | rw [az_wl_n c5] | (rw [c5]; rfl)) dX0_wholeLength_16 hlocks
set_option maxRecDepth 100000 in
set_option maxHeartbeats 4000000 in
/-- keptOfAll() -/
theorem ct_keptOfAll (l : Launch) (dC : Nat → ClassId) (dI : Nat → Nat → Nat) (a fm ln : Nat) (e3 e4 : Int64) (hfm : fm ≤ 6) : Met l yX0_keptOfAll wsX0_keptOfAll ({ frames := 1, cells := 0, slots := 0, locals := 20 }) (rd_P (dC, dI) azCl [(a, .inr (0, [.int (nI fm), .int (nI ln), .long e3, .long e4]))] [] [.ref a]) (vp_Si (fun r => r = nI (128 - az_wl fm + ln))) 0 0 (fun _ => False) := by
  refine Met.ofW (cc := cX0_keptOfAll) (maxL := 1) (ret := (some .int)) (by decide) rfl ?_
  intro p e s m args below meth c s₁ Bd hml hv
  obtain ⟨rfl, hP, hK⟩ := hv
  have hx := Bd.exec
  have hb := Bd.bytes
  have hr := Bd.returns
  have hts := atoms_spec (ws := wsX0_keptOfAll) Bd.pre
  have hown : s.vm.findClass RX0 = some m.cls := findClass_of_methodNamed Bd.named
  have hlocks := Bd.notSynchronized
  have hiX0 : ∀ w ∈ wsX00, w ∈ wsX0_keptOfAll := by decide +kernel
  have hf15 := hts (.fieldLink RX0 15 "AddressTexts$Address" "prefixLength" "I") (by decide +kernel)
  have hl := lv_entry ([.ref a]) (n := 1) (Nat.le_of_ble_eq_true rfl)
  rw [lg_entry_eq]
  generalize (lg_sl ([.ref a]) ++ List.replicate (1 - (lg_sl ([.ref a])).length) Slot.unset).toArray = ls at hl ⊢
  have hl : lv_has ls 1 [(0, .ref a)] := hl
  have hwl := az_wl_le fm
  refine lv_sipush (v := nI 128) hx hb dX0_keptOfAll_0 (by decide) ?_
  refine lv_aload_n hx hb dX0_keptOfAll_3 rfl (lv_at hl 0 rfl) ?_
  refine rc_Vi (As := []) (rest := [.int (nI 128)]) ⟨hx, hb, hml, hown, hts⟩ (ct_wholeLength l dC dI a fm (nI ln) e3 e4 hfm) (cwV 0 hts gX0_keptOfAll_X0_wholeLength rfl rfl rfl (by decide +kernel) ⟨Nat.le_of_ble_eq_true rfl, Nat.le_of_ble_eq_true rfl⟩) (hP.sub [0] rfl) (hK.sub [] rfl) 0 rfl rfl rfl hl.1 rfl (Nat.le_of_ble_eq_true rfl) dX0_keptOfAll_4 ⟨(Nat.zero_le _), (Nat.zero_le _)⟩ ?_
  refine lv_isub hx hb dX0_keptOfAll_7 ?_
  refine tp_i (nI (128 - (az_wl fm))) (pk_sub (by omega)) ?_
  refine lv_aload_n hx hb dX0_keptOfAll_8 rfl (lv_at hl 0 rfl) ?_
  refine va_get (D := (dC, dI)) (ci := 0) (v := .int (nI ln)) (C := RX0) (T := TX0) (N := 4) hx hb hts hiX0 hown hK hP 0 rfl rfl 1 (by decide) hf15 (fun _ h9 => h9) rfl dX0_keptOfAll_9 ?_
  refine lv_iadd hx hb dX0_keptOfAll_12 ?_
  refine tp_i (nI ((128 - (az_wl fm)) + ln)) (nI_add _ _) ?_
  exact rt_i hx hb hr (rfl) dX0_keptOfAll_13 hlocks
set_option maxRecDepth 100000 in
set_option maxHeartbeats 4000000 in
/-- highestBits(x) -/
theorem ct_highestBits (l : Launch) (x : Int32) : Met l yX0_highestBits wsX0_highestBits ({ frames := 0, cells := 0, slots := 0, locals := 0 }) (va_Pc [.int x] (fun _ => True)) (vp_Sl (fun r => r = az_hb x)) 0 0 (fun _ => False) := by
  refine Met.ofW (cc := cX0_highestBits) (maxL := 1) (ret := (some .long)) (by decide) rfl ?_
  intro p e s m args below meth c s₁ Bd hml hv
  obtain ⟨rfl, -⟩ := hv
  have hx := Bd.exec
  have hb := Bd.bytes
  have hr := Bd.returns
  have hts := atoms_spec (ws := wsX0_highestBits) Bd.pre
  have hown : s.vm.findClass RX0 = some m.cls := findClass_of_methodNamed Bd.named
  have hlocks := Bd.notSynchronized
  have hl := lv_entry ([.int x]) (n := 1) (Nat.le_of_ble_eq_true rfl)
  rw [lg_entry_eq]
  generalize (lg_sl ([.int x]) ++ List.replicate (1 - (lg_sl ([.int x])).length) Slot.unset).toArray = ls at hl ⊢
  have hl : lv_has ls 1 [(0, .int x)] := hl
  refine lv_iload_n hx hb dX0_highestBits_0 rfl (lv_at hl 0 rfl) ?_
  refine lv_if_gt (tgt := 6) hx hb dX0_highestBits_1 (by decide) (fun c1 => ?_) (fun c1 => ?_)
  · refine lv_iload_n hx hb dX0_highestBits_6 rfl (lv_at hl 0 rfl) ?_
    refine lv_bipush (v := nI 64) hx hb dX0_highestBits_7 (by decide) ?_
    refine lv_icmp_lt (tgt := 18) hx hb dX0_highestBits_9 (by decide) (fun c9 => ?_) (fun c9 => ?_)
    · refine lv_ldc2 (v := -1) hx hb hown (hts (.constantLong RX0 36 (-1)) (by decide +kernel)) dX0_highestBits_18 ?_
      refine lv_bipush (v := nI 64) hx hb dX0_highestBits_21 (by decide) ?_
      refine lv_iload_n hx hb dX0_highestBits_23 rfl (lv_at hl 0 rfl) ?_
      refine lv_isub hx hb dX0_highestBits_24 ?_
      refine lv_lshl (v := (-1) <<< ((nI 64 - x).toInt64 &&& 63)) hx hb dX0_highestBits_25 (rfl) ?_
      exact rt_l hx hb hr (by unfold az_hb; first | rw [if_pos c1, if_pos c9] | rw [if_pos c1, if_neg c9]) dX0_highestBits_26 hlocks
    · refine lv_ldc2 (v := -1) hx hb hown (hts (.constantLong RX0 36 (-1)) (by decide +kernel)) dX0_highestBits_12 ?_
      refine lv_goto (tgt := 26) hx hb dX0_highestBits_15 (by decide) ?_
      exact rt_l hx hb hr (by unfold az_hb; first | rw [if_pos c1, if_pos c9] | rw [if_pos c1, if_neg c9]) dX0_highestBits_26 hlocks
  · refine lv_lconst (v := lN 0) hx hb dX0_highestBits_4 (by decide) ?_
    exact rt_l hx hb hr (by unfold az_hb; rw [if_neg c1]) dX0_highestBits_5 hlocks
set_option maxRecDepth 100000 in
set_option maxHeartbeats 4000000 in
/-- upperMask() -/
theorem ct_upperMask (l : Launch) (dC : Nat → ClassId) (dI : Nat → Nat → Nat) (a fm ln : Nat) (e3 e4 : Int64) (hfm : fm ≤ 6) : Met l yX0_upperMask wsX0_upperMask ({ frames := 2, cells := 0, slots := 0, locals := 40 }) (rd_P (dC, dI) azCl [(a, .inr (0, [.int (nI fm), .int (nI ln), .long e3, .long e4]))] [] [.ref a]) (vp_Sl (fun r => r = az_hb (nI (128 - az_wl fm + ln)))) 0 0 (fun _ => False) := by
  refine Met.ofW (cc := cX0_upperMask) (maxL := 1) (ret := (some .long)) (by decide) rfl ?_
  intro p e s m args below meth c s₁ Bd hml hv
  obtain ⟨rfl, hP, hK⟩ := hv
  have hx := Bd.exec
  have hb := Bd.bytes
  have hr := Bd.returns
  have hts := atoms_spec (ws := wsX0_upperMask) Bd.pre
  have hown : s.vm.findClass RX0 = some m.cls := findClass_of_methodNamed Bd.named
  have hlocks := Bd.notSynchronized
  have hl := lv_entry ([.ref a]) (n := 1) (Nat.le_of_ble_eq_true rfl)
  rw [lg_entry_eq]
  generalize (lg_sl ([.ref a]) ++ List.replicate (1 - (lg_sl ([.ref a])).length) Slot.unset).toArray = ls at hl ⊢
  have hl : lv_has ls 1 [(0, .ref a)] := hl
  refine lv_aload_n hx hb dX0_upperMask_0 rfl (lv_at hl 0 rfl) ?_
  refine rc_Vi (As := []) (rest := []) ⟨hx, hb, hml, hown, hts⟩ (ct_keptOfAll l dC dI a fm ln e3 e4 hfm) (cwV 0 hts gX0_upperMask_X0_keptOfAll rfl rfl rfl (by decide +kernel) ⟨Nat.le_of_ble_eq_true rfl, Nat.le_of_ble_eq_true rfl⟩) (hP.sub [0] rfl) (hK.sub [] rfl) 0 rfl rfl rfl hl.1 rfl (Nat.le_of_ble_eq_true rfl) dX0_upperMask_1 ⟨(Nat.zero_le _), (Nat.zero_le _)⟩ ?_
  refine rc_Sl (As := [.int (nI (128 - az_wl fm + ln))]) (rest := []) ⟨hx, hb, hml, hown, hts⟩ (ct_highestBits l (nI (128 - az_wl fm + ln))) (cwS 1 hts gX0_upperMask_X0_highestBits rfl rfl rfl (by decide +kernel) ⟨Nat.le_of_ble_eq_true rfl, Nat.le_of_ble_eq_true rfl⟩) rfl hl.1 rfl (Nat.le_of_ble_eq_true rfl) dX0_upperMask_4 ⟨(Nat.zero_le _), (Nat.zero_le _)⟩ ?_
  exact rt_l hx hb hr (rfl) dX0_upperMask_7 hlocks
set_option maxRecDepth 100000 in
set_option maxHeartbeats 4000000 in
/-- lowerMask() -/
theorem ct_lowerMask (l : Launch) (dC : Nat → ClassId) (dI : Nat → Nat → Nat) (a fm ln : Nat) (e3 e4 : Int64) (hfm : fm ≤ 6) : Met l yX0_lowerMask wsX0_lowerMask ({ frames := 2, cells := 0, slots := 0, locals := 40 }) (rd_P (dC, dI) azCl [(a, .inr (0, [.int (nI fm), .int (nI ln), .long e3, .long e4]))] [] [.ref a]) (vp_Sl (fun r => r = az_hb (nI (128 - az_wl fm + ln) - nI 64))) 0 0 (fun _ => False) := by
  refine Met.ofW (cc := cX0_lowerMask) (maxL := 1) (ret := (some .long)) (by decide) rfl ?_
  intro p e s m args below meth c s₁ Bd hml hv
  obtain ⟨rfl, hP, hK⟩ := hv
  have hx := Bd.exec
  have hb := Bd.bytes
  have hr := Bd.returns
  have hts := atoms_spec (ws := wsX0_lowerMask) Bd.pre
  have hown : s.vm.findClass RX0 = some m.cls := findClass_of_methodNamed Bd.named
  have hlocks := Bd.notSynchronized
  have hl := lv_entry ([.ref a]) (n := 1) (Nat.le_of_ble_eq_true rfl)
  rw [lg_entry_eq]
  generalize (lg_sl ([.ref a]) ++ List.replicate (1 - (lg_sl ([.ref a])).length) Slot.unset).toArray = ls at hl ⊢
  have hl : lv_has ls 1 [(0, .ref a)] := hl
  refine lv_aload_n hx hb dX0_lowerMask_0 rfl (lv_at hl 0 rfl) ?_
  refine rc_Vi (As := []) (rest := []) ⟨hx, hb, hml, hown, hts⟩ (ct_keptOfAll l dC dI a fm ln e3 e4 hfm) (cwV 0 hts gX0_lowerMask_X0_keptOfAll rfl rfl rfl (by decide +kernel) ⟨Nat.le_of_ble_eq_true rfl, Nat.le_of_ble_eq_true rfl⟩) (hP.sub [0] rfl) (hK.sub [] rfl) 0 rfl rfl rfl hl.1 rfl (Nat.le_of_ble_eq_true rfl) dX0_lowerMask_1 ⟨(Nat.zero_le _), (Nat.zero_le _)⟩ ?_
  refine lv_bipush (v := nI 64) hx hb dX0_lowerMask_4 (by decide) ?_
  refine lv_isub hx hb dX0_lowerMask_6 ?_
  refine rc_Sl (As := [.int ((nI (128 - az_wl fm + ln)) - (nI 64))]) (rest := []) ⟨hx, hb, hml, hown, hts⟩ (ct_highestBits l (nI (128 - az_wl fm + ln) - nI 64)) (cwS 1 hts gX0_lowerMask_X0_highestBits rfl rfl rfl (by decide +kernel) ⟨Nat.le_of_ble_eq_true rfl, Nat.le_of_ble_eq_true rfl⟩) rfl hl.1 rfl (Nat.le_of_ble_eq_true rfl) dX0_lowerMask_7 ⟨(Nat.zero_le _), (Nat.zero_le _)⟩ ?_
  exact rt_l hx hb hr (rfl) dX0_lowerMask_10 hlocks
set_option maxRecDepth 100000 in
set_option maxHeartbeats 4000000 in
/-- shiftOf(k) -/
theorem ct_shiftOf (l : Launch) (k : Nat) (hk : k < 8) : Met l yX0_shiftOf wsX0_shiftOf ({ frames := 0, cells := 0, slots := 0, locals := 0 }) (va_Pc [.int (nI k)] (fun _ => True)) (vp_Si (fun r => r = nI (48 - 16 * (k % 4)))) 0 0 (fun _ => False) := by
  refine Met.ofW (cc := cX0_shiftOf) (maxL := 1) (ret := (some .int)) (by decide) rfl ?_
  intro p e s m args below meth c s₁ Bd hml hv
  obtain ⟨rfl, -⟩ := hv
  have hx := Bd.exec
  have hb := Bd.bytes
  have hr := Bd.returns
  have hts := atoms_spec (ws := wsX0_shiftOf) Bd.pre
  have hown : s.vm.findClass RX0 = some m.cls := findClass_of_methodNamed Bd.named
  have hlocks := Bd.notSynchronized
  have hl := lv_entry ([.int (nI k)]) (n := 1) (Nat.le_of_ble_eq_true rfl)
  rw [lg_entry_eq]
  generalize (lg_sl ([.int (nI k)]) ++ List.replicate (1 - (lg_sl ([.int (nI k)])).length) Slot.unset).toArray = ls at hl ⊢
  have hl : lv_has ls 1 [(0, .int (nI k))] := hl
  refine lv_bipush (v := nI 48) hx hb dX0_shiftOf_0 (by decide) ?_
  refine lv_bipush (v := nI 16) hx hb dX0_shiftOf_2 (by decide) ?_
  refine lv_iload_n hx hb dX0_shiftOf_4 rfl (lv_at hl 0 rfl) ?_
  refine lv_iconst (v := nI 3) hx hb dX0_shiftOf_5 (by decide) ?_
  refine lv_iand hx hb dX0_shiftOf_6 ?_
  refine tp_i (nI (k % 4)) (pk_andN (by omega) 2 (by decide)) ?_
  refine lv_imul hx hb dX0_shiftOf_7 ?_
  refine tp_i (nI (16 * (k % 4))) (pk_mul _ _) ?_
  refine lv_isub hx hb dX0_shiftOf_8 ?_
  refine tp_i (nI (48 - (16 * (k % 4)))) (pk_sub (by omega)) ?_
  exact rt_i hx hb hr (rfl) dX0_shiftOf_9 hlocks
set_option maxRecDepth 100000 in
set_option maxHeartbeats 4000000 in
/-- part(k) -/
theorem ct_part (l : Launch) (dC : Nat → ClassId) (dI : Nat → Nat → Nat) (a fm ln V k : Nat) (hV : V < 340282366920938463463374607431768211456) (hk : k < 8) : Met l yX0_part wsX0_part ({ frames := 1, cells := 0, slots := 0, locals := 20 }) (rd_P (dC, dI) azCl [(a, .inr (0, [.int (nI fm), .int (nI ln), .long (lN (V / 18446744073709551616)), .long (lN (V % 18446744073709551616))]))] [] [.ref a, .int (nI k)]) (vp_Si (fun r => r = nI (az_pt V k))) 0 0 (fun _ => False) := by
  refine Met.ofW (cc := cX0_part) (maxL := 4) (ret := (some .int)) (by decide) rfl ?_
  intro p e s m args below meth c s₁ Bd hml hv
  obtain ⟨rfl, hP, hK⟩ := hv
  have hx := Bd.exec
  have hb := Bd.bytes
  have hr := Bd.returns
  have hts := atoms_spec (ws := wsX0_part) Bd.pre
  have hown : s.vm.findClass RX0 = some m.cls := findClass_of_methodNamed Bd.named
  have hlocks := Bd.notSynchronized
  have hiX0 : ∀ w ∈ wsX00, w ∈ wsX0_part := by decide +kernel
  have hf22 := hts (.fieldLink RX0 22 "AddressTexts$Address" "lower" "J") (by decide +kernel)
  have hf18 := hts (.fieldLink RX0 18 "AddressTexts$Address" "upper" "J") (by decide +kernel)
  have hl := lv_entry ([.ref a, .int (nI k)]) (n := 4) (Nat.le_of_ble_eq_true rfl)
  rw [lg_entry_eq]
  generalize (lg_sl ([.ref a, .int (nI k)]) ++ List.replicate (4 - (lg_sl ([.ref a, .int (nI k)])).length) Slot.unset).toArray = ls at hl ⊢
  have hl : lv_has ls 4 [(0, .ref a), (1, .int (nI k))] := hl
  refine lv_iload_n hx hb dX0_part_0 rfl (lv_at hl 1 rfl) ?_
  refine lv_iconst (v := nI 4) hx hb dX0_part_1 (by decide) ?_
  refine bn_ge (tgt := 12) hx hb dX0_part_2 (by decide) (by omega) (by omega) (fun c2 => ?_) (fun c2 => ?_)
  · refine lv_aload_n hx hb dX0_part_12 rfl (lv_at hl 0 rfl) ?_
    refine va_get (D := (dC, dI)) (ci := 0) (v := .long (lN (V % 18446744073709551616))) (C := RX0) (T := TX0) (N := 4) hx hb hts hiX0 hown hK hP 0 rfl rfl 3 (by decide) hf22 (fun _ h9 => h9) rfl dX0_part_13 ?_
    refine lv_lstore_n (lv' := [(2, .long (lN (V % 18446744073709551616))), (0, .ref a), (1, .int (nI k))]) hx hb dX0_part_16 rfl hl (by decide) rfl (fun ls hl => ?_)
    refine lv_lload_n hx hb dX0_part_17 rfl (lv_at hl 0 rfl) ?_
    refine lv_iload_n hx hb dX0_part_18 rfl (lv_at hl 2 rfl) ?_
    refine rc_Si (As := [.int (nI k)]) (rest := [.long (lN (V % 18446744073709551616))]) ⟨hx, hb, hml, hown, hts⟩ (ct_shiftOf l k hk) (cwS 1 hts gX0_part_X0_shiftOf rfl rfl rfl (by decide +kernel) ⟨Nat.le_of_ble_eq_true rfl, Nat.le_of_ble_eq_true rfl⟩) rfl hl.1 rfl (Nat.le_of_ble_eq_true rfl) dX0_part_19 ⟨(Nat.zero_le _), (Nat.zero_le _)⟩ ?_
    refine lv_lushr (v := lN ((V % 18446744073709551616) / 2 ^ (48 - 16 * (k % 4)))) hx hb dX0_part_22 (wb_shr (by omega) (by omega)) ?_
    refine lv_l2i (v := nI ((V % 18446744073709551616) / 2 ^ (48 - 16 * (k % 4)))) hx hb dX0_part_23 (lN_i _) ?_
    refine lv_ldc (v := nI 65535) hx hb hown (hts (.constant RX0 42 (nI 65535)) (by decide +kernel)) dX0_part_24 ?_
    refine lv_iand hx hb dX0_part_26 ?_
    refine tp_i (nI (az_pt V k)) (by first | exact (nx_mod _).trans (congrArg nI (az_pt_u c2)) | exact (nx_mod _).trans (congrArg nI (az_pt_l c2 hk))) ?_
    exact rt_i hx hb hr (rfl) dX0_part_27 hlocks
  · refine lv_aload_n hx hb dX0_part_5 rfl (lv_at hl 0 rfl) ?_
    refine va_get (D := (dC, dI)) (ci := 0) (v := .long (lN (V / 18446744073709551616))) (C := RX0) (T := TX0) (N := 4) hx hb hts hiX0 hown hK hP 0 rfl rfl 2 (by decide) hf18 (fun _ h9 => h9) rfl dX0_part_6 ?_
    refine lv_goto (tgt := 16) hx hb dX0_part_9 (by decide) ?_
    refine lv_lstore_n (lv' := [(2, .long (lN (V / 18446744073709551616))), (0, .ref a), (1, .int (nI k))]) hx hb dX0_part_16 rfl hl (by decide) rfl (fun ls hl => ?_)
    refine lv_lload_n hx hb dX0_part_17 rfl (lv_at hl 0 rfl) ?_
    refine lv_iload_n hx hb dX0_part_18 rfl (lv_at hl 2 rfl) ?_
    refine rc_Si (As := [.int (nI k)]) (rest := [.long (lN (V / 18446744073709551616))]) ⟨hx, hb, hml, hown, hts⟩ (ct_shiftOf l k hk) (cwS 1 hts gX0_part_X0_shiftOf rfl rfl rfl (by decide +kernel) ⟨Nat.le_of_ble_eq_true rfl, Nat.le_of_ble_eq_true rfl⟩) rfl hl.1 rfl (Nat.le_of_ble_eq_true rfl) dX0_part_19 ⟨(Nat.zero_le _), (Nat.zero_le _)⟩ ?_
    refine lv_lushr (v := lN ((V / 18446744073709551616) / 2 ^ (48 - 16 * (k % 4)))) hx hb dX0_part_22 (wb_shr (by omega) (by omega)) ?_
    refine lv_l2i (v := nI ((V / 18446744073709551616) / 2 ^ (48 - 16 * (k % 4)))) hx hb dX0_part_23 (lN_i _) ?_
    refine lv_ldc (v := nI 65535) hx hb hown (hts (.constant RX0 42 (nI 65535)) (by decide +kernel)) dX0_part_24 ?_
    refine lv_iand hx hb dX0_part_26 ?_
    refine tp_i (nI (az_pt V k)) (by first | exact (nx_mod _).trans (congrArg nI (az_pt_u c2)) | exact (nx_mod _).trans (congrArg nI (az_pt_l c2 hk))) ?_
    exact rt_i hx hb hr (rfl) dX0_part_27 hlocks
set_option maxRecDepth 100000 in
set_option maxHeartbeats 4000000 in
/-- zerosFrom(first) -/
theorem ct_zerosFrom (l : Launch) (dC : Nat → ClassId) (dI : Nat → Nat → Nat) (a fm ln V st : Nat) (hV : V < 340282366920938463463374607431768211456) (hst : st ≤ 8) : Met l yX0_zerosFrom wsX0_zerosFrom ({ frames := 2, cells := 0, slots := 0, locals := 43 }) (rd_P (dC, dI) azCl [(a, .inr (0, [.int (nI fm), .int (nI ln), .long (lN (V / 18446744073709551616)), .long (lN (V % 18446744073709551616))]))] [] [.ref a, .int (nI st)]) (vp_Si (fun r => r = nI (az_zr V st))) 0 0 (fun _ => False) := by
  refine Met.ofW (cc := cX0_zerosFrom) (maxL := 3) (ret := (some .int)) (by decide) rfl ?_
  intro p e s m args below meth c s₁ Bd hml hv
  obtain ⟨rfl, hP, hK⟩ := hv
  have hx := Bd.exec
  have hb := Bd.bytes
  have hr := Bd.returns
  have hts := atoms_spec (ws := wsX0_zerosFrom) Bd.pre
  have hown : s.vm.findClass RX0 = some m.cls := findClass_of_methodNamed Bd.named
  have hlocks := Bd.notSynchronized
  have hl := lv_entry ([.ref a, .int (nI st)]) (n := 3) (Nat.le_of_ble_eq_true rfl)
  rw [lg_entry_eq]
  generalize (lg_sl ([.ref a, .int (nI st)]) ++ List.replicate (3 - (lg_sl ([.ref a, .int (nI st)])).length) Slot.unset).toArray = ls at hl ⊢
  have hl : lv_has ls 3 [(0, .ref a), (1, .int (nI st))] := hl
  refine lv_iload_n hx hb dX0_zerosFrom_0 rfl (lv_at hl 1 rfl) ?_
  refine lv_istore_n (lv' := [(2, .int (nI st)), (0, .ref a), (1, .int (nI st))]) hx hb dX0_zerosFrom_1 rfl hl (by decide) rfl (fun ls hl => ?_)
  have lp2 : ∀ (N : Nat) (k : Nat), (st ≤ k) → (k ≤ 8) → (k - st + az_zr V k = az_zr V st) → (8 - k) < N → ∀ (ls : Array Slot), lv_has ls 3 [(0, .ref a), (1, .int (nI st)), (2, .int (nI k))] → W p l e (headSpec wsX0_zerosFrom ({ frames := 2, cells := 0, slots := 0, locals := 43 })).room s m ([.ref a, .int (nI st)] : List Value).toArray below meth c s.heap [] 0 0 (MQ below (vp_Si (fun r => r = nI (az_zr V st))) ([.ref a, .int (nI st)] : List Value).toArray s 0 0 (fun _ => False)) (F0 m 2 ls []) := by
    intro N
    induction N with
    | zero => intro k hk hk2 hz hN; exact absurd hN (Nat.not_lt_zero _)
    | succ N ih =>
      intro k hk hk2 hz hN ls hl
      refine lv_iload_n hx hb dX0_zerosFrom_2 rfl (lv_at hl 2 rfl) ?_
      refine lv_bipush (v := nI 8) hx hb dX0_zerosFrom_3 (by decide) ?_
      refine bn_ge (tgt := 22) hx hb dX0_zerosFrom_5 (by decide) (by omega) (by omega) (fun c5 => ?_) (fun c5 => ?_)
      · refine lv_iload_n hx hb dX0_zerosFrom_22 rfl (lv_at hl 2 rfl) ?_
        refine lv_iload_n hx hb dX0_zerosFrom_23 rfl (lv_at hl 1 rfl) ?_
        refine lv_isub hx hb dX0_zerosFrom_24 ?_
        refine tp_i (nI (k - st)) (pk_sub (by omega)) ?_
        exact rt_i hx hb hr (congrArg nI (by have h0 : az_zr V k = 0 := (by first | exact az_zr_end c5 | exact az_zr_miss c5 c13); omega)) dX0_zerosFrom_25 hlocks
      · have hpt := az_pt_lt V k
        refine lv_aload_n hx hb dX0_zerosFrom_8 rfl (lv_at hl 0 rfl) ?_
        refine lv_iload_n hx hb dX0_zerosFrom_9 rfl (lv_at hl 2 rfl) ?_
        refine rc_Vi (As := [.int (nI k)]) (rest := []) ⟨hx, hb, hml, hown, hts⟩ (ct_part l dC dI a fm ln V k hV c5) (cwV 1 hts gX0_zerosFrom_X0_part rfl rfl rfl (by decide +kernel) ⟨Nat.le_of_ble_eq_true rfl, Nat.le_of_ble_eq_true rfl⟩) (hP.sub [0] rfl) (hK.sub [] rfl) 0 rfl rfl rfl hl.1 rfl (Nat.le_of_ble_eq_true rfl) dX0_zerosFrom_10 ⟨(Nat.zero_le _), (Nat.zero_le _)⟩ ?_
        refine bz_ne (tgt := 22) hx hb dX0_zerosFrom_13 (by decide) (by omega) (fun c13 => ?_) (fun c13 => ?_)
        · refine lv_iload_n hx hb dX0_zerosFrom_22 rfl (lv_at hl 2 rfl) ?_
          refine lv_iload_n hx hb dX0_zerosFrom_23 rfl (lv_at hl 1 rfl) ?_
          refine lv_isub hx hb dX0_zerosFrom_24 ?_
          refine tp_i (nI (k - st)) (pk_sub (by omega)) ?_
          exact rt_i hx hb hr (congrArg nI (by have h0 : az_zr V k = 0 := (by first | exact az_zr_end c5 | exact az_zr_miss c5 c13); omega)) dX0_zerosFrom_25 hlocks
        · refine lv_iinc (v := nI (k + 1)) (lv' := [(2, .int (nI (k + 1))), (0, .ref a), (1, .int (nI st))]) hx hb dX0_zerosFrom_16 hl (k := 2) rfl (nI_add _ 1) (by decide) rfl (fun ls hl => ?_)
          refine lv_goto (tgt := 2) hx hb dX0_zerosFrom_19 (by decide) ?_
          exact ih (k + 1) (by omega) (by omega) (by rw [← hz, az_zr_hit c5 c13]; omega) (by omega) ls (lv_sub hl [1, 2, 0] rfl)
  exact lp2 _ st (Nat.le_refl _) (hst) (by rw [Nat.sub_self, Nat.zero_add]) (Nat.lt_succ_self _) ls (lv_sub hl [1, 2, 0] rfl)
set_option maxRecDepth 100000 in
set_option maxHeartbeats 4000000 in
/-- longestRowOfZeros() -/
theorem ct_longestRow (l : Launch) (dC : Nat → ClassId) (dI : Nat → Nat → Nat) (a fm ln V : Nat) (hV : V < 340282366920938463463374607431768211456) : Met l yX0_longestRowOfZeros wsX0_longestRowOfZeros ({ frames := 3, cells := 0, slots := 0, locals := 65 }) (rd_P (dC, dI) azCl [(a, .inr (0, [.int (nI fm), .int (nI ln), .long (lN (V / 18446744073709551616)), .long (lN (V % 18446744073709551616))]))] [] [.ref a]) (vp_Si (fun r => r = nI (az_lr V 8).1)) 0 0 (fun _ => False) := by
  refine Met.ofW (cc := cX0_longestRowOfZeros) (maxL := 5) (ret := (some .int)) (by decide) rfl ?_
  intro p e s m args below meth c s₁ Bd hml hv
  obtain ⟨rfl, hP, hK⟩ := hv
  have hx := Bd.exec
  have hb := Bd.bytes
  have hr := Bd.returns
  have hts := atoms_spec (ws := wsX0_longestRowOfZeros) Bd.pre
  have hown : s.vm.findClass RX0 = some m.cls := findClass_of_methodNamed Bd.named
  have hlocks := Bd.notSynchronized
  have hl := lv_entry ([.ref a]) (n := 5) (Nat.le_of_ble_eq_true rfl)
  rw [lg_entry_eq]
  generalize (lg_sl ([.ref a]) ++ List.replicate (5 - (lg_sl ([.ref a])).length) Slot.unset).toArray = ls at hl ⊢
  have hl : lv_has ls 5 [(0, .ref a)] := hl
  refine lv_bipush (v := nI 8) hx hb dX0_longestRowOfZeros_0 (by decide) ?_
  refine lv_istore_n (lv' := [(1, .int (nI 8)), (0, .ref a)]) hx hb dX0_longestRowOfZeros_2 rfl hl (by decide) rfl (fun ls hl => ?_)
  refine lv_iconst (v := nI 1) hx hb dX0_longestRowOfZeros_3 (by decide) ?_
  refine lv_istore_n (lv' := [(2, .int (nI 1)), (1, .int (nI 8)), (0, .ref a)]) hx hb dX0_longestRowOfZeros_4 rfl hl (by decide) rfl (fun ls hl => ?_)
  refine lv_iconst (v := nI 0) hx hb dX0_longestRowOfZeros_5 (by decide) ?_
  refine lv_istore_n (lv' := [(3, .int (nI 0)), (2, .int (nI 1)), (1, .int (nI 8)), (0, .ref a)]) hx hb dX0_longestRowOfZeros_6 rfl hl (by decide) rfl (fun ls hl => ?_)
  have lp7 : ∀ (N : Nat) (k : Nat) (st : Nat) (lg : Nat), (k ≤ 8) → (az_lr V k = (st, lg)) → (st ≤ 8) → (lg ≤ 8) → (8 - k) < N → ∀ (ls : Array Slot), lv_has ls 5 [(0, .ref a), (1, .int (nI st)), (2, .int (nI lg)), (3, .int (nI k))] → W p l e (headSpec wsX0_longestRowOfZeros ({ frames := 3, cells := 0, slots := 0, locals := 65 })).room s m ([.ref a] : List Value).toArray below meth c s.heap [] 0 0 (MQ below (vp_Si (fun r => r = nI (az_lr V 8).1)) ([.ref a] : List Value).toArray s 0 0 (fun _ => False)) (F0 m 7 ls []) := by
    intro N
    induction N with
    | zero => intro k st lg hk hs hs2 hl2 hN; exact absurd hN (Nat.not_lt_zero _)
    | succ N ih =>
      intro k st lg hk hs hs2 hl2 hN ls hl
      refine lv_iload_n hx hb dX0_longestRowOfZeros_7 rfl (lv_at hl 3 rfl) ?_
      refine lv_bipush (v := nI 8) hx hb dX0_longestRowOfZeros_8 (by decide) ?_
      refine bn_ge (tgt := 37) hx hb dX0_longestRowOfZeros_10 (by decide) (by omega) (by omega) (fun c10 => ?_) (fun c10 => ?_)
      · refine lv_iload_n hx hb dX0_longestRowOfZeros_37 rfl (lv_at hl 1 rfl) ?_
        exact rt_i hx hb hr (by rw [show 8 = k by omega, hs]) dX0_longestRowOfZeros_38 hlocks
      · have hzl := az_zr_le V k
        refine lv_aload_n hx hb dX0_longestRowOfZeros_13 rfl (lv_at hl 0 rfl) ?_
        refine lv_iload_n hx hb dX0_longestRowOfZeros_14 rfl (lv_at hl 3 rfl) ?_
        refine rc_Vi (As := [.int (nI k)]) (rest := []) ⟨hx, hb, hml, hown, hts⟩ (ct_zerosFrom l dC dI a fm ln V k hV hk) (cwV 1 hts gX0_longestRowOfZeros_X0_zerosFrom rfl rfl rfl (by decide +kernel) ⟨Nat.le_of_ble_eq_true rfl, Nat.le_of_ble_eq_true rfl⟩) (hP.sub [0] rfl) (hK.sub [] rfl) 0 rfl rfl rfl hl.1 rfl (Nat.le_of_ble_eq_true rfl) dX0_longestRowOfZeros_15 ⟨(Nat.zero_le _), (Nat.zero_le _)⟩ ?_
        refine lv_istore (lv' := [(4, .int (nI (az_zr V k))), (0, .ref a), (1, .int (nI st)), (2, .int (nI lg)), (3, .int (nI k))]) hx hb dX0_longestRowOfZeros_18 hl (by decide) rfl (fun ls hl => ?_)
        refine lv_iload hx hb dX0_longestRowOfZeros_20 (lv_at hl 0 rfl) ?_
        refine lv_iload_n hx hb dX0_longestRowOfZeros_22 rfl (lv_at hl 3 rfl) ?_
        refine bn_le (tgt := 31) hx hb dX0_longestRowOfZeros_23 (by decide) (by omega) (by omega) (fun c23 => ?_) (fun c23 => ?_)
        · refine lv_iinc (v := nI (k + 1)) (lv' := [(3, .int (nI (k + 1))), (4, .int (nI (az_zr V k))), (0, .ref a), (1, .int (nI st)), (2, .int (nI lg))]) hx hb dX0_longestRowOfZeros_31 hl (k := 4) rfl (nI_add _ 1) (by decide) rfl (fun ls hl => ?_)
          refine lv_goto (tgt := 7) hx hb dX0_longestRowOfZeros_34 (by decide) ?_
          exact ih (k + 1) st lg (by omega) (by first | exact az_lr_t hs c23 | exact az_lr_f hs c23) (by omega) (by omega) (by omega) ls (lv_sub hl [2, 3, 4, 0] rfl)
        · refine lv_iload_n hx hb dX0_longestRowOfZeros_26 rfl (lv_at hl 4 rfl) ?_
          refine lv_istore_n (lv' := [(1, .int (nI k)), (4, .int (nI (az_zr V k))), (0, .ref a), (2, .int (nI lg)), (3, .int (nI k))]) hx hb dX0_longestRowOfZeros_27 rfl hl (by decide) rfl (fun ls hl => ?_)
          refine lv_iload hx hb dX0_longestRowOfZeros_28 (lv_at hl 1 rfl) ?_
          refine lv_istore_n (lv' := [(2, .int (nI (az_zr V k))), (1, .int (nI k)), (4, .int (nI (az_zr V k))), (0, .ref a), (3, .int (nI k))]) hx hb dX0_longestRowOfZeros_30 rfl hl (by decide) rfl (fun ls hl => ?_)
          refine lv_iinc (v := nI (k + 1)) (lv' := [(3, .int (nI (k + 1))), (2, .int (nI (az_zr V k))), (1, .int (nI k)), (4, .int (nI (az_zr V k))), (0, .ref a)]) hx hb dX0_longestRowOfZeros_31 hl (k := 4) rfl (nI_add _ 1) (by decide) rfl (fun ls hl => ?_)
          refine lv_goto (tgt := 7) hx hb dX0_longestRowOfZeros_34 (by decide) ?_
          exact ih (k + 1) k (az_zr V k) (by omega) (by first | exact az_lr_t hs c23 | exact az_lr_f hs c23) (by omega) (by omega) (by omega) ls (lv_sub hl [4, 2, 1, 0] rfl)
  exact lp7 _ 0 8 1 (Nat.zero_le _) (rfl) (by omega) (by omega) (Nat.lt_succ_self _) ls (lv_sub hl [3, 2, 1, 0] rfl)
set_option maxRecDepth 100000 in
set_option maxHeartbeats 4000000 in
/-- setPart(k, v) -/
theorem ct_setPart (l : Launch) (dC : Nat → ClassId) (dI : Nat → Nat → Nat) (sz : Nat) (a fm ln V k v : Nat) (hV : V < 340282366920938463463374607431768211456) (hk : k < 8) (hv : v < 65536) (hz : V % 2 ^ (16 * (8 - k)) = 0) : Met l yX0_setPart wsX0_setPart ({ frames := 1, cells := 0, slots := 0, locals := 20 }) (wr_P (dC, dI) azCl [(a, .inr (0, [.int (nI fm), .int (nI ln), .long (lN (V / 18446744073709551616)), .long (lN (V % 18446744073709551616))]))] [] sz [.ref a, .int (nI k), .int (nI v)]) (va_Qv (fun _ => True) (wr_B (dC, dI) azCl [] (va_A [(a, .inr (0, [.int (nI fm), .int (nI ln), .long (lN (V / 18446744073709551616)), .long (lN (V % 18446744073709551616))]))] sz) (fun _ : Unit => [(a, .inr (0, [.int (nI fm), .int (nI ln), .long (lN ((az_sp V k v) / 18446744073709551616)), .long (lN ((az_sp V k v) % 18446744073709551616))]))])) (va_A [(a, .inr (0, [.int (nI fm), .int (nI ln), .long (lN (V / 18446744073709551616)), .long (lN (V % 18446744073709551616))]))] sz)) 0 0 (va_A [(a, .inr (0, [.int (nI fm), .int (nI ln), .long (lN (V / 18446744073709551616)), .long (lN (V % 18446744073709551616))]))] sz) := by
  refine Met.ofW (cc := cX0_setPart) (maxL := 5) (ret := none) (by decide) rfl ?_
  intro p e s m args below meth c s₁ Bd hml hv
  obtain ⟨rfl, hsz, hP, hK, hD0⟩ := hv
  have hx := Bd.exec
  have hb := Bd.bytes
  have hr := Bd.returns
  have hts := atoms_spec (ws := wsX0_setPart) Bd.pre
  have hown : s.vm.findClass RX0 = some m.cls := findClass_of_methodNamed Bd.named
  have hlocks := Bd.notSynchronized
  subst hsz
  have hD := hD0.self (sz := s.heap.size)
  generalize hAe : va_A [(a, .inr (0, [.int (nI fm), .int (nI ln), .long (lN (V / 18446744073709551616)), .long (lN (V % 18446744073709551616))]))] s.heap.size = A at hD ⊢
  have hA : ∀ q : Nat, s.heap.size ≤ q → A q := fun q h => by rw [← hAe]; exact Or.inr h
  have hS : va_S A s.heap s.heap [] := va_S.rf
  have hP : va_P (dC, dI) azCl [(a, .inr (0, [.int (nI fm), .int (nI ln), .long (lN (V / 18446744073709551616)), .long (lN (V % 18446744073709551616))]))] s.heap := hP
  have hiX0 : ∀ w ∈ wsX00, w ∈ wsX0_setPart := by decide +kernel
  have hf22 := hts (.fieldLink RX0 22 "AddressTexts$Address" "lower" "J") (by decide +kernel)
  have hf18 := hts (.fieldLink RX0 18 "AddressTexts$Address" "upper" "J") (by decide +kernel)
  have hl := lv_entry ([.ref a, .int (nI k), .int (nI v)]) (n := 5) (Nat.le_of_ble_eq_true rfl)
  rw [lg_entry_eq]
  generalize (lg_sl ([.ref a, .int (nI k), .int (nI v)]) ++ List.replicate (5 - (lg_sl ([.ref a, .int (nI k), .int (nI v)])).length) Slot.unset).toArray = ls at hl ⊢
  have hl : lv_has ls 5 [(0, .ref a), (1, .int (nI k)), (2, .int (nI v))] := hl
  refine lv_iload_n hx hb dX0_setPart_0 rfl (lv_at hl 2 rfl) ?_
  refine lv_i2l (v := lN v) hx hb dX0_setPart_1 (nI_l (by omega)) ?_
  refine lv_iload_n hx hb dX0_setPart_2 rfl (lv_at hl 1 rfl) ?_
  refine rc_Si (As := [.int (nI k)]) (rest := [.long (lN v)]) ⟨hx, hb, hml, hown, hts⟩ (ct_shiftOf l k hk) (cwS 1 hts gX0_setPart_X0_shiftOf rfl rfl rfl (by decide +kernel) ⟨Nat.le_of_ble_eq_true rfl, Nat.le_of_ble_eq_true rfl⟩) rfl hl.1 rfl (Nat.le_of_ble_eq_true rfl) dX0_setPart_3 ⟨(Nat.zero_le _), (Nat.zero_le _)⟩ ?_
  refine lv_lshl (v := lN (v * 2 ^ (48 - 16 * (k % 4)))) hx hb dX0_setPart_6 (wb_shl _ (by omega)) ?_
  refine lv_lstore_n (lv' := [(3, .long (lN (v * 2 ^ (48 - 16 * (k % 4))))), (0, .ref a), (1, .int (nI k)), (2, .int (nI v))]) hx hb dX0_setPart_7 rfl hl (by decide) rfl (fun ls hl => ?_)
  refine lv_iload_n hx hb dX0_setPart_8 rfl (lv_at hl 2 rfl) ?_
  refine lv_iconst (v := nI 4) hx hb dX0_setPart_9 (by decide) ?_
  refine bn_ge (tgt := 26) hx hb dX0_setPart_10 (by decide) (by omega) (by omega) (fun c10 => ?_) (fun c10 => ?_)
  · obtain ⟨e1, e2, e3, e4⟩ := az_sp_l hV c10 hk hv hz
    refine lv_aload_n hx hb dX0_setPart_26 rfl (lv_at hl 1 rfl) ?_
    refine lv_dup hx hb dX0_setPart_27 rfl ?_
    refine va_get (D := (dC, dI)) (ci := 0) (v := .long (lN (V % 18446744073709551616))) (C := RX0) (T := TX0) (N := 4) hx hb hts hiX0 hown hK hP 0 rfl rfl 3 (by decide) hf22 (fun _ h9 => h9) rfl dX0_setPart_28 ?_
    refine lv_lload_n hx hb dX0_setPart_31 rfl (lv_at hl 0 rfl) ?_
    refine lv_lor hx hb dX0_setPart_32 ?_
    refine tp_l (lN (az_sp V k v % 18446744073709551616)) (e1) ?_
    refine va_put (D := (dC, dI)) (ci := 0) (v := .long (lN (az_sp V k v % 18446744073709551616))) (ty := .long) (C := RX0) (T := TX0) (N := 4) hx hb hts hiX0 tyX0 tyX0_ok nmX0 hown hK hP hD hS 0 rfl rfl 3 (by decide) hf22 (fun _ h9 => h9) rfl (by decide +kernel) rfl rfl (Nat.le_of_ble_eq_true rfl) dX0_setPart_33 (fun H locs hP hD hS => ?_)
    have hP : va_P (dC, dI) azCl [(a, .inr (0, [.int (nI fm), .int (nI ln), .long (lN (V / 18446744073709551616)), .long (lN (az_sp V k v % 18446744073709551616))]))] H := hP
    have hD : va_D A [(a, .inr (0, [.int (nI fm), .int (nI ln), .long (lN (V / 18446744073709551616)), .long (lN (az_sp V k v % 18446744073709551616))]))] := hD
    have hP : va_P (dC, dI) azCl [(a, .inr (0, [.int (nI fm), .int (nI ln), .long (lN (az_sp V k v / 18446744073709551616)), .long (lN (az_sp V k v % 18446744073709551616))]))] H := by first | (rw [e2]; exact hP)
    have hD : va_D A [(a, .inr (0, [.int (nI fm), .int (nI ln), .long (lN (az_sp V k v / 18446744073709551616)), .long (lN (az_sp V k v % 18446744073709551616))]))] := by first | (rw [e2]; exact hD)
    exact wt_v hx hb hr (()) (trivial) (hP.sub [0] rfl) hK (hD.sub [0] (by decide) rfl) hS dX0_setPart_36 hlocks
  · obtain ⟨e1, e2, e3, e4⟩ := az_sp_u hV c10 hv hz
    refine lv_aload_n hx hb dX0_setPart_13 rfl (lv_at hl 1 rfl) ?_
    refine lv_dup hx hb dX0_setPart_14 rfl ?_
    refine va_get (D := (dC, dI)) (ci := 0) (v := .long (lN (V / 18446744073709551616))) (C := RX0) (T := TX0) (N := 4) hx hb hts hiX0 hown hK hP 0 rfl rfl 2 (by decide) hf18 (fun _ h9 => h9) rfl dX0_setPart_15 ?_
    refine lv_lload_n hx hb dX0_setPart_18 rfl (lv_at hl 0 rfl) ?_
    refine lv_lor hx hb dX0_setPart_19 ?_
    refine tp_l (lN (az_sp V k v / 18446744073709551616)) (e1) ?_
    refine va_put (D := (dC, dI)) (ci := 0) (v := .long (lN (az_sp V k v / 18446744073709551616))) (ty := .long) (C := RX0) (T := TX0) (N := 4) hx hb hts hiX0 tyX0 tyX0_ok nmX0 hown hK hP hD hS 0 rfl rfl 2 (by decide) hf18 (fun _ h9 => h9) rfl (by decide +kernel) rfl rfl (Nat.le_of_ble_eq_true rfl) dX0_setPart_20 (fun H locs hP hD hS => ?_)
    have hP : va_P (dC, dI) azCl [(a, .inr (0, [.int (nI fm), .int (nI ln), .long (lN (az_sp V k v / 18446744073709551616)), .long (lN (V % 18446744073709551616))]))] H := hP
    have hD : va_D A [(a, .inr (0, [.int (nI fm), .int (nI ln), .long (lN (az_sp V k v / 18446744073709551616)), .long (lN (V % 18446744073709551616))]))] := hD
    refine lv_goto (tgt := 36) hx hb dX0_setPart_23 (by decide) ?_
    have hP : va_P (dC, dI) azCl [(a, .inr (0, [.int (nI fm), .int (nI ln), .long (lN (az_sp V k v / 18446744073709551616)), .long (lN (az_sp V k v % 18446744073709551616))]))] H := by first | (rw [e2]; exact hP)
    have hD : va_D A [(a, .inr (0, [.int (nI fm), .int (nI ln), .long (lN (az_sp V k v / 18446744073709551616)), .long (lN (az_sp V k v % 18446744073709551616))]))] := by first | (rw [e2]; exact hD)
    exact wt_v hx hb hr (()) (trivial) (hP.sub [0] rfl) hK (hD.sub [0] (by decide) rfl) hS dX0_setPart_36 hlocks
set_option maxRecDepth 100000 in
set_option maxHeartbeats 4000000 in
/-- clear(family) -/
theorem ct_clear (l : Launch) (dC : Nat → ClassId) (dI : Nat → Nat → Nat) (sz : Nat) (a fm : Nat) (e1 e2 : Int32) (e3 e4 : Int64) (hfm : fm ≤ 6) : Met l yX0_clear wsX0_clear ({ frames := 1, cells := 0, slots := 0, locals := 20 }) (wr_P (dC, dI) azCl [(a, .inr (0, [.int e1, .int e2, .long e3, .long e4]))] [] sz [.ref a, .int (nI fm)]) (va_Qv (fun _ => True) (wr_B (dC, dI) azCl [] (va_A [(a, .inr (0, [.int e1, .int e2, .long e3, .long e4]))] sz) (fun _ : Unit => [(a, .inr (0, [.int (nI fm), .int (nI (az_wl fm)), .long (lN 0), .long (lN 0)]))])) (va_A [(a, .inr (0, [.int e1, .int e2, .long e3, .long e4]))] sz)) 0 0 (va_A [(a, .inr (0, [.int e1, .int e2, .long e3, .long e4]))] sz) := by
  refine Met.ofW (cc := cX0_clear) (maxL := 2) (ret := none) (by decide) rfl ?_
  intro p e s m args below meth c s₁ Bd hml hv
  obtain ⟨rfl, hsz, hP, hK, hD0⟩ := hv
  have hx := Bd.exec
  have hb := Bd.bytes
  have hr := Bd.returns
  have hts := atoms_spec (ws := wsX0_clear) Bd.pre
  have hown : s.vm.findClass RX0 = some m.cls := findClass_of_methodNamed Bd.named
  have hlocks := Bd.notSynchronized
  subst hsz
  have hD := hD0.self (sz := s.heap.size)
  generalize hAe : va_A [(a, .inr (0, [.int e1, .int e2, .long e3, .long e4]))] s.heap.size = A at hD ⊢
  have hA : ∀ q : Nat, s.heap.size ≤ q → A q := fun q h => by rw [← hAe]; exact Or.inr h
  have hS : va_S A s.heap s.heap [] := va_S.rf
  have hP : va_P (dC, dI) azCl [(a, .inr (0, [.int e1, .int e2, .long e3, .long e4]))] s.heap := hP
  have hiX0 : ∀ w ∈ wsX00, w ∈ wsX0_clear := by decide +kernel
  have hf9 := hts (.fieldLink RX0 9 "AddressTexts$Address" "family" "I") (by decide +kernel)
  have hf15 := hts (.fieldLink RX0 15 "AddressTexts$Address" "prefixLength" "I") (by decide +kernel)
  have hf18 := hts (.fieldLink RX0 18 "AddressTexts$Address" "upper" "J") (by decide +kernel)
  have hf22 := hts (.fieldLink RX0 22 "AddressTexts$Address" "lower" "J") (by decide +kernel)
  have hl := lv_entry ([.ref a, .int (nI fm)]) (n := 2) (Nat.le_of_ble_eq_true rfl)
  rw [lg_entry_eq]
  generalize (lg_sl ([.ref a, .int (nI fm)]) ++ List.replicate (2 - (lg_sl ([.ref a, .int (nI fm)])).length) Slot.unset).toArray = ls at hl ⊢
  have hl : lv_has ls 2 [(0, .ref a), (1, .int (nI fm))] := hl
  refine lv_aload_n hx hb dX0_clear_0 rfl (lv_at hl 0 rfl) ?_
  refine lv_iload_n hx hb dX0_clear_1 rfl (lv_at hl 1 rfl) ?_
  refine va_put (D := (dC, dI)) (ci := 0) (v := .int (nI fm)) (ty := .int) (C := RX0) (T := TX0) (N := 4) hx hb hts hiX0 tyX0 tyX0_ok nmX0 hown hK hP hD hS 0 rfl rfl 0 (by decide) hf9 (fun _ h9 => h9) rfl (by decide +kernel) rfl rfl (Nat.le_of_ble_eq_true rfl) dX0_clear_2 (fun H locs hP hD hS => ?_)
  have hP : va_P (dC, dI) azCl [(a, .inr (0, [.int (nI fm), .int e2, .long e3, .long e4]))] H := hP
  have hD : va_D A [(a, .inr (0, [.int (nI fm), .int e2, .long e3, .long e4]))] := hD
  refine lv_aload_n hx hb dX0_clear_5 rfl (lv_at hl 0 rfl) ?_
  refine lv_aload_n hx hb dX0_clear_6 rfl (lv_at hl 0 rfl) ?_
  refine rc_Vi (As := []) (rest := [.ref a]) ⟨hx, hb, hml, hown, hts⟩ (ct_wholeLength l dC dI a fm e2 e3 e4 hfm) (cwV 0 hts gX0_clear_X0_wholeLength rfl rfl rfl (by decide +kernel) ⟨Nat.le_of_ble_eq_true rfl, Nat.le_of_ble_eq_true rfl⟩) (hP.sub [0] rfl) (hK.sub [] rfl) 0 rfl rfl rfl hl.1 rfl (Nat.le_of_ble_eq_true rfl) dX0_clear_7 ⟨(Nat.zero_le _), (Nat.zero_le _)⟩ ?_
  refine va_put (D := (dC, dI)) (ci := 0) (v := .int (nI (az_wl fm))) (ty := .int) (C := RX0) (T := TX0) (N := 4) hx hb hts hiX0 tyX0 tyX0_ok nmX0 hown hK hP hD hS 0 rfl rfl 1 (by decide) hf15 (fun _ h9 => h9) rfl (by decide +kernel) rfl rfl (Nat.le_of_ble_eq_true rfl) dX0_clear_10 (fun H locs hP hD hS => ?_)
  have hP : va_P (dC, dI) azCl [(a, .inr (0, [.int (nI fm), .int (nI (az_wl fm)), .long e3, .long e4]))] H := hP
  have hD : va_D A [(a, .inr (0, [.int (nI fm), .int (nI (az_wl fm)), .long e3, .long e4]))] := hD
  refine lv_aload_n hx hb dX0_clear_13 rfl (lv_at hl 0 rfl) ?_
  refine lv_lconst (v := lN 0) hx hb dX0_clear_14 (by decide) ?_
  refine va_put (D := (dC, dI)) (ci := 0) (v := .long (lN 0)) (ty := .long) (C := RX0) (T := TX0) (N := 4) hx hb hts hiX0 tyX0 tyX0_ok nmX0 hown hK hP hD hS 0 rfl rfl 2 (by decide) hf18 (fun _ h9 => h9) rfl (by decide +kernel) rfl rfl (Nat.le_of_ble_eq_true rfl) dX0_clear_15 (fun H locs hP hD hS => ?_)
  have hP : va_P (dC, dI) azCl [(a, .inr (0, [.int (nI fm), .int (nI (az_wl fm)), .long (lN 0), .long e4]))] H := hP
  have hD : va_D A [(a, .inr (0, [.int (nI fm), .int (nI (az_wl fm)), .long (lN 0), .long e4]))] := hD
  refine lv_aload_n hx hb dX0_clear_18 rfl (lv_at hl 0 rfl) ?_
  refine lv_lconst (v := lN 0) hx hb dX0_clear_19 (by decide) ?_
  refine va_put (D := (dC, dI)) (ci := 0) (v := .long (lN 0)) (ty := .long) (C := RX0) (T := TX0) (N := 4) hx hb hts hiX0 tyX0 tyX0_ok nmX0 hown hK hP hD hS 0 rfl rfl 3 (by decide) hf22 (fun _ h9 => h9) rfl (by decide +kernel) rfl rfl (Nat.le_of_ble_eq_true rfl) dX0_clear_20 (fun H locs hP hD hS => ?_)
  have hP : va_P (dC, dI) azCl [(a, .inr (0, [.int (nI fm), .int (nI (az_wl fm)), .long (lN 0), .long (lN 0)]))] H := hP
  have hD : va_D A [(a, .inr (0, [.int (nI fm), .int (nI (az_wl fm)), .long (lN 0), .long (lN 0)]))] := hD
  exact wt_v hx hb hr (()) (trivial) (hP.sub [0] rfl) hK (hD.sub [0] (by decide) rfl) hS dX0_clear_23 hlocks
