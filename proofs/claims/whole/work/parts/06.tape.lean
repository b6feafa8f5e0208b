set_option maxRecDepth 100000 in
set_option maxHeartbeats 4000000 in
/-- tapeAt(i) within the tape -/
theorem ct_tapeAt_in (l : Launch) (dC : Nat → ClassId) (dI : Nat → Nat → Nat) (h0 ht hw a1 a2 a3 n w : Nat) (cT : ClassId) (f : Nat → Int32) (T : Nat → Nat) (hT : az_tp f T n) (hn : n ≤ 60) (i : Nat) (hi : i < n) : Met l yX1_tapeAt wsX1_tapeAt ({ frames := 0, cells := 0, slots := 0, locals := 0 }) (rd_P (dC, dI) azCl [(h0, .inr (1, [.ref ht, .int (nI n), .ref hw, .int (nI w), .ref a1, .ref a2, .ref a3])), (ht, .inl (cT, 60, .inl f))] [(cT, .byte)] [.ref h0, .int (nI i)]) (vp_Si (fun r => r = nI (T i))) 0 0 (fun _ => False) := by
  refine Met.ofW (cc := cX1_tapeAt) (maxL := 2) (ret := (some .int)) (by decide) rfl ?_
  intro p e s m args below meth c s₁ Bd hml hv
  obtain ⟨rfl, hP, hK⟩ := hv
  have hx := Bd.exec
  have hb := Bd.bytes
  have hr := Bd.returns
  have hts := atoms_spec (ws := wsX1_tapeAt) Bd.pre
  have hown : s.vm.findClass RX1 = some m.cls := findClass_of_methodNamed Bd.named
  have hlocks := Bd.notSynchronized
  have hiX1 : ∀ w ∈ wsX10, w ∈ wsX1_tapeAt := by decide +kernel
  have hf13 := hts (.fieldLink RX1 13 "AddressTexts" "tapeCount" "I") (by decide +kernel)
  have hf9 := hts (.fieldLink RX1 9 "AddressTexts" "tape" "[B") (by decide +kernel)
  have hl := lv_entry ([.ref h0, .int (nI i)]) (n := 2) (Nat.le_of_ble_eq_true rfl)
  rw [lg_entry_eq]
  generalize (lg_sl ([.ref h0, .int (nI i)]) ++ List.replicate (2 - (lg_sl ([.ref h0, .int (nI i)])).length) Slot.unset).toArray = ls at hl ⊢
  have hl : lv_has ls 2 [(0, .ref h0), (1, .int (nI i))] := hl
  refine lv_iload_n hx hb dX1_tapeAt_0 rfl (lv_at hl 1 rfl) ?_
  refine bz_lt (tgt := 25) hx hb dX1_tapeAt_1 (by decide) (by omega) ?_
  refine lv_iload_n hx hb dX1_tapeAt_4 rfl (lv_at hl 1 rfl) ?_
  refine lv_aload_n hx hb dX1_tapeAt_5 rfl (lv_at hl 0 rfl) ?_
  refine va_get (D := (dC, dI)) (ci := 1) (v := .int (nI n)) (C := RX1) (T := TX1) (N := 7) hx hb hts hiX1 hown hK hP 0 rfl rfl 1 (by decide) hf13 (fun _ h9 => h9) rfl dX1_tapeAt_6 ?_
  refine bn_ge (tgt := 25) hx hb dX1_tapeAt_9 (by decide) (by omega) (by omega) (fun c9 => absurd c9 (by omega)) (fun c9 => ?_)
  refine lv_aload_n hx hb dX1_tapeAt_12 rfl (lv_at hl 0 rfl) ?_
  refine va_get (D := (dC, dI)) (ci := 1) (v := .ref ht) (C := RX1) (T := TX1) (N := 7) hx hb hts hiX1 hown hK hP 0 rfl rfl 0 (by decide) hf9 (fun _ h9 => h9) rfl dX1_tapeAt_13 ?_
  refine lv_iload_n hx hb dX1_tapeAt_16 rfl (lv_at hl 1 rfl) ?_
  refine ld_b hx hb hK hP 1 0 rfl rfl (by omega) (by omega) dX1_tapeAt_17 ?_
  refine lv_sipush (v := nI 255) hx hb dX1_tapeAt_18 (by decide) ?_
  refine lv_iand hx hb dX1_tapeAt_21 ?_
  refine tp_i (nI (T i)) (by rw [(hT i hi).1]; exact (sb_byte _ (hT i hi).2).1) ?_
  refine lv_goto (tgt := 26) hx hb dX1_tapeAt_22 (by decide) ?_
  exact rt_i hx hb hr (rfl) dX1_tapeAt_26 hlocks
set_option maxRecDepth 100000 in
set_option maxHeartbeats 4000000 in
/-- tapeAt(i) behind the tape -/
theorem ct_tapeAt_out (l : Launch) (dC : Nat → ClassId) (dI : Nat → Nat → Nat) (h0 ht hw a1 a2 a3 n w : Nat) (cT : ClassId) (f : Nat → Int32) (T : Nat → Nat) (hT : az_tp f T n) (hn : n ≤ 60) (i : Nat) (hi : n ≤ i) (hi2 : i < 2147483648) : Met l yX1_tapeAt wsX1_tapeAt ({ frames := 0, cells := 0, slots := 0, locals := 0 }) (rd_P (dC, dI) azCl [(h0, .inr (1, [.ref ht, .int (nI n), .ref hw, .int (nI w), .ref a1, .ref a2, .ref a3])), (ht, .inl (cT, 60, .inl f))] [(cT, .byte)] [.ref h0, .int (nI i)]) (vp_Si (fun r => r = -1)) 0 0 (fun _ => False) := by
  refine Met.ofW (cc := cX1_tapeAt) (maxL := 2) (ret := (some .int)) (by decide) rfl ?_
  intro p e s m args below meth c s₁ Bd hml hv
  obtain ⟨rfl, hP, hK⟩ := hv
  have hx := Bd.exec
  have hb := Bd.bytes
  have hr := Bd.returns
  have hts := atoms_spec (ws := wsX1_tapeAt) Bd.pre
  have hown : s.vm.findClass RX1 = some m.cls := findClass_of_methodNamed Bd.named
  have hlocks := Bd.notSynchronized
  have hiX1 : ∀ w ∈ wsX10, w ∈ wsX1_tapeAt := by decide +kernel
  have hf13 := hts (.fieldLink RX1 13 "AddressTexts" "tapeCount" "I") (by decide +kernel)
  have hl := lv_entry ([.ref h0, .int (nI i)]) (n := 2) (Nat.le_of_ble_eq_true rfl)
  rw [lg_entry_eq]
  generalize (lg_sl ([.ref h0, .int (nI i)]) ++ List.replicate (2 - (lg_sl ([.ref h0, .int (nI i)])).length) Slot.unset).toArray = ls at hl ⊢
  have hl : lv_has ls 2 [(0, .ref h0), (1, .int (nI i))] := hl
  refine lv_iload_n hx hb dX1_tapeAt_0 rfl (lv_at hl 1 rfl) ?_
  refine bz_lt (tgt := 25) hx hb dX1_tapeAt_1 (by decide) (by omega) ?_
  refine lv_iload_n hx hb dX1_tapeAt_4 rfl (lv_at hl 1 rfl) ?_
  refine lv_aload_n hx hb dX1_tapeAt_5 rfl (lv_at hl 0 rfl) ?_
  refine va_get (D := (dC, dI)) (ci := 1) (v := .int (nI n)) (C := RX1) (T := TX1) (N := 7) hx hb hts hiX1 hown hK hP 0 rfl rfl 1 (by decide) hf13 (fun _ h9 => h9) rfl dX1_tapeAt_6 ?_
  refine bn_ge (tgt := 25) hx hb dX1_tapeAt_9 (by decide) (by omega) (by omega) (fun c9 => ?_) (fun c9 => absurd c9 (by omega))
  refine lv_iconst (v := -1) hx hb dX1_tapeAt_25 (by decide) ?_
  exact rt_i hx hb hr (rfl) dX1_tapeAt_26 hlocks
set_option maxRecDepth 100000 in
set_option maxHeartbeats 4000000 in
/-- placeOf(mark, from) -/
theorem ct_placeOf (l : Launch) (dC : Nat → ClassId) (dI : Nat → Nat → Nat) (h0 ht hw a1 a2 a3 n w : Nat) (cT : ClassId) (f : Nat → Int32) (T : Nat → Nat) (hT : az_tp f T n) (hn : n ≤ 60) (mk fr : Nat) (hmk : mk < 256) (hfr : fr < 2147483648) : Met l yX1_placeOf wsX1_placeOf ({ frames := 1, cells := 0, slots := 0, locals := 21 }) (rd_P (dC, dI) azCl [(h0, .inr (1, [.ref ht, .int (nI n), .ref hw, .int (nI w), .ref a1, .ref a2, .ref a3])), (ht, .inl (cT, 60, .inl f))] [(cT, .byte)] [.ref h0, .int (nI mk), .int (nI fr)]) (vp_Si (fun r => r = nI (az_pl T n mk fr))) 0 0 (fun _ => False) := by
  refine Met.ofW (cc := cX1_placeOf) (maxL := 4) (ret := (some .int)) (by decide) rfl ?_
  intro p e s m args below meth c s₁ Bd hml hv
  obtain ⟨rfl, hP, hK⟩ := hv
  have hx := Bd.exec
  have hb := Bd.bytes
  have hr := Bd.returns
  have hts := atoms_spec (ws := wsX1_placeOf) Bd.pre
  have hown : s.vm.findClass RX1 = some m.cls := findClass_of_methodNamed Bd.named
  have hlocks := Bd.notSynchronized
  have hiX1 : ∀ w ∈ wsX10, w ∈ wsX1_placeOf := by decide +kernel
  have hf13 := hts (.fieldLink RX1 13 "AddressTexts" "tapeCount" "I") (by decide +kernel)
  have hl := lv_entry ([.ref h0, .int (nI mk), .int (nI fr)]) (n := 4) (Nat.le_of_ble_eq_true rfl)
  rw [lg_entry_eq]
  generalize (lg_sl ([.ref h0, .int (nI mk), .int (nI fr)]) ++ List.replicate (4 - (lg_sl ([.ref h0, .int (nI mk), .int (nI fr)])).length) Slot.unset).toArray = ls at hl ⊢
  have hl : lv_has ls 4 [(0, .ref h0), (1, .int (nI mk)), (2, .int (nI fr))] := hl
  refine lv_iload_n hx hb dX1_placeOf_0 rfl (lv_at hl 2 rfl) ?_
  refine lv_istore_n (lv' := [(3, .int (nI fr)), (0, .ref h0), (1, .int (nI mk)), (2, .int (nI fr))]) hx hb dX1_placeOf_1 rfl hl (by decide) rfl (fun ls hl => ?_)
  have lp2 : ∀ (N : Nat) (i : Nat), (az_pl T n mk i = az_pl T n mk fr) → (i < 2147483648) → (n - i) < N → ∀ (ls : Array Slot), lv_has ls 4 [(0, .ref h0), (1, .int (nI mk)), (2, .int (nI fr)), (3, .int (nI i))] → W p l e (headSpec wsX1_placeOf ({ frames := 1, cells := 0, slots := 0, locals := 21 })).room s m ([.ref h0, .int (nI mk), .int (nI fr)] : List Value).toArray below meth c s.heap [] 0 0 (MQ below (vp_Si (fun r => r = nI (az_pl T n mk fr))) ([.ref h0, .int (nI mk), .int (nI fr)] : List Value).toArray s 0 0 (fun _ => False)) (F0 m 2 ls []) := by
    intro N
    induction N with
    | zero => intro i hi hi2 hN; exact absurd hN (Nat.not_lt_zero _)
    | succ N ih =>
      intro i hi hi2 hN ls hl
      refine lv_iload_n hx hb dX1_placeOf_2 rfl (lv_at hl 3 rfl) ?_
      refine lv_aload_n hx hb dX1_placeOf_3 rfl (lv_at hl 0 rfl) ?_
      refine va_get (D := (dC, dI)) (ci := 1) (v := .int (nI n)) (C := RX1) (T := TX1) (N := 7) hx hb hts hiX1 hown hK hP 0 rfl rfl 1 (by decide) hf13 (fun _ h9 => h9) rfl dX1_placeOf_4 ?_
      refine bn_ge (tgt := 27) hx hb dX1_placeOf_7 (by decide) (by omega) (by omega) (fun c7 => ?_) (fun c7 => ?_)
      · refine lv_aload_n hx hb dX1_placeOf_27 rfl (lv_at hl 0 rfl) ?_
        refine va_get (D := (dC, dI)) (ci := 1) (v := .int (nI n)) (C := RX1) (T := TX1) (N := 7) hx hb hts hiX1 hown hK hP 0 rfl rfl 1 (by decide) hf13 (fun _ h9 => h9) rfl dX1_placeOf_28 ?_
        exact rt_i hx hb hr (by rw [← hi, az_pl_end c7]) dX1_placeOf_31 hlocks
      · have hTi := (hT i c7).2
        refine lv_aload_n hx hb dX1_placeOf_10 rfl (lv_at hl 0 rfl) ?_
        refine lv_iload_n hx hb dX1_placeOf_11 rfl (lv_at hl 3 rfl) ?_
        refine rc_Vi (As := [.int (nI i)]) (rest := []) ⟨hx, hb, hml, hown, hts⟩ (ct_tapeAt_in l dC dI h0 ht hw a1 a2 a3 n w cT f T hT hn i c7) (cwV 1 hts gX1_placeOf_X1_tapeAt rfl rfl rfl (by decide +kernel) ⟨Nat.le_of_ble_eq_true rfl, Nat.le_of_ble_eq_true rfl⟩) (hP.sub [0, 1] rfl) (hK.sub [0] rfl) 0 rfl rfl rfl hl.1 rfl (Nat.le_of_ble_eq_true rfl) dX1_placeOf_12 ⟨(Nat.zero_le _), (Nat.zero_le _)⟩ ?_
        refine lv_iload_n hx hb dX1_placeOf_15 rfl (lv_at hl 1 rfl) ?_
        refine bn_ne (tgt := 21) hx hb dX1_placeOf_16 (by decide) (by omega) (by omega) (fun c16 => ?_) (fun c16 => ?_)
        · refine lv_iinc (v := nI (i + 1)) (lv' := [(3, .int (nI (i + 1))), (0, .ref h0), (1, .int (nI mk)), (2, .int (nI fr))]) hx hb dX1_placeOf_21 hl (k := 3) rfl (nI_add _ 1) (by decide) rfl (fun ls hl => ?_)
          refine lv_goto (tgt := 2) hx hb dX1_placeOf_24 (by decide) ?_
          exact ih (i + 1) ((az_pl_miss c7 c16).symm.trans hi) (by omega) (by omega) ls (lv_sub hl [1, 2, 3, 0] rfl)
        · refine lv_iload_n hx hb dX1_placeOf_19 rfl (lv_at hl 3 rfl) ?_
          exact rt_i hx hb hr (by rw [← hi, az_pl_hit c7 c16]) dX1_placeOf_20 hlocks
  exact lp2 _ fr (rfl) (hfr) (Nat.lt_succ_self _) ls (lv_sub hl [1, 2, 3, 0] rfl)
set_option maxRecDepth 100000 in
set_option maxHeartbeats 4000000 in
/-- placeOfGap() -/
theorem ct_placeOfGap (l : Launch) (dC : Nat → ClassId) (dI : Nat → Nat → Nat) (h0 ht hw a1 a2 a3 n w : Nat) (cT : ClassId) (f : Nat → Int32) (T : Nat → Nat) (hT : az_tp f T n) (hn : n ≤ 60) : Met l yX1_placeOfGap wsX1_placeOfGap ({ frames := 1, cells := 0, slots := 0, locals := 21 }) (rd_P (dC, dI) azCl [(h0, .inr (1, [.ref ht, .int (nI n), .ref hw, .int (nI w), .ref a1, .ref a2, .ref a3])), (ht, .inl (cT, 60, .inl f))] [(cT, .byte)] [.ref h0]) (vp_Si (fun r => r = nI (az_gp T n 0))) 0 0 (fun _ => False) := by
  refine Met.ofW (cc := cX1_placeOfGap) (maxL := 2) (ret := (some .int)) (by decide) rfl ?_
  intro p e s m args below meth c s₁ Bd hml hv
  obtain ⟨rfl, hP, hK⟩ := hv
  have hx := Bd.exec
  have hb := Bd.bytes
  have hr := Bd.returns
  have hts := atoms_spec (ws := wsX1_placeOfGap) Bd.pre
  have hown : s.vm.findClass RX1 = some m.cls := findClass_of_methodNamed Bd.named
  have hlocks := Bd.notSynchronized
  have hiX1 : ∀ w ∈ wsX10, w ∈ wsX1_placeOfGap := by decide +kernel
  have hf13 := hts (.fieldLink RX1 13 "AddressTexts" "tapeCount" "I") (by decide +kernel)
  have hl := lv_entry ([.ref h0]) (n := 2) (Nat.le_of_ble_eq_true rfl)
  rw [lg_entry_eq]
  generalize (lg_sl ([.ref h0]) ++ List.replicate (2 - (lg_sl ([.ref h0])).length) Slot.unset).toArray = ls at hl ⊢
  have hl : lv_has ls 2 [(0, .ref h0)] := hl
  refine lv_iconst (v := nI 0) hx hb dX1_placeOfGap_0 (by decide) ?_
  refine lv_istore_n (lv' := [(1, .int (nI 0)), (0, .ref h0)]) hx hb dX1_placeOfGap_1 rfl hl (by decide) rfl (fun ls hl => ?_)
  have lp2 : ∀ (N : Nat) (i : Nat), (az_gp T n i = az_gp T n 0) → (i ≤ n) → (n - i) < N → ∀ (ls : Array Slot), lv_has ls 2 [(0, .ref h0), (1, .int (nI i))] → W p l e (headSpec wsX1_placeOfGap ({ frames := 1, cells := 0, slots := 0, locals := 21 })).room s m ([.ref h0] : List Value).toArray below meth c s.heap [] 0 0 (MQ below (vp_Si (fun r => r = nI (az_gp T n 0))) ([.ref h0] : List Value).toArray s 0 0 (fun _ => False)) (F0 m 2 ls []) := by
    intro N
    induction N with
    | zero => intro i hi hi2 hN; exact absurd hN (Nat.not_lt_zero _)
    | succ N ih =>
      intro i hi hi2 hN ls hl
      refine lv_iload_n hx hb dX1_placeOfGap_2 rfl (lv_at hl 1 rfl) ?_
      refine lv_aload_n hx hb dX1_placeOfGap_3 rfl (lv_at hl 0 rfl) ?_
      refine va_get (D := (dC, dI)) (ci := 1) (v := .int (nI n)) (C := RX1) (T := TX1) (N := 7) hx hb hts hiX1 hown hK hP 0 rfl rfl 1 (by decide) hf13 (fun _ h9 => h9) rfl dX1_placeOfGap_4 ?_
      refine bn_ge (tgt := 40) hx hb dX1_placeOfGap_7 (by decide) (by omega) (by omega) (fun c7 => ?_) (fun c7 => ?_)
      · refine lv_aload_n hx hb dX1_placeOfGap_40 rfl (lv_at hl 0 rfl) ?_
        refine va_get (D := (dC, dI)) (ci := 1) (v := .int (nI n)) (C := RX1) (T := TX1) (N := 7) hx hb hts hiX1 hown hK hP 0 rfl rfl 1 (by decide) hf13 (fun _ h9 => h9) rfl dX1_placeOfGap_41 ?_
        exact rt_i hx hb hr (by rw [← hi, az_gp_end c7]) dX1_placeOfGap_44 hlocks
      · have hTi := (hT i c7).2
        refine lv_aload_n hx hb dX1_placeOfGap_10 rfl (lv_at hl 0 rfl) ?_
        refine lv_iload_n hx hb dX1_placeOfGap_11 rfl (lv_at hl 1 rfl) ?_
        refine rc_Vi (As := [.int (nI i)]) (rest := []) ⟨hx, hb, hml, hown, hts⟩ (ct_tapeAt_in l dC dI h0 ht hw a1 a2 a3 n w cT f T hT hn i c7) (cwV 1 hts gX1_placeOfGap_X1_tapeAt rfl rfl rfl (by decide +kernel) ⟨Nat.le_of_ble_eq_true rfl, Nat.le_of_ble_eq_true rfl⟩) (hP.sub [0, 1] rfl) (hK.sub [0] rfl) 0 rfl rfl rfl hl.1 rfl (Nat.le_of_ble_eq_true rfl) dX1_placeOfGap_12 ⟨(Nat.zero_le _), (Nat.zero_le _)⟩ ?_
        refine lv_bipush (v := nI 58) hx hb dX1_placeOfGap_15 (by decide) ?_
        refine bn_ne (tgt := 34) hx hb dX1_placeOfGap_17 (by decide) (by omega) (by omega) (fun c17 => ?_) (fun c17 => ?_)
        · refine lv_iinc (v := nI (i + 1)) (lv' := [(1, .int (nI (i + 1))), (0, .ref h0)]) hx hb dX1_placeOfGap_34 hl (k := 1) rfl (nI_add _ 1) (by decide) rfl (fun ls hl => ?_)
          refine lv_goto (tgt := 2) hx hb dX1_placeOfGap_37 (by decide) ?_
          exact ih (i + 1) ((az_gp_miss c7 (by omega)).symm.trans hi) (by omega) (by omega) ls (lv_sub hl [1, 0] rfl)
        · refine lv_aload_n hx hb dX1_placeOfGap_20 rfl (lv_at hl 0 rfl) ?_
          refine lv_iload_n hx hb dX1_placeOfGap_21 rfl (lv_at hl 1 rfl) ?_
          refine lv_iconst (v := nI 1) hx hb dX1_placeOfGap_22 (by decide) ?_
          refine lv_iadd hx hb dX1_placeOfGap_23 ?_
          refine tp_i (nI (i + 1)) (nI_add _ _) ?_
          by_cases h24 : i + 1 < n
          · have hTj := (hT (i + 1) h24).2
            refine rc_Vi (As := [.int (nI (i + 1))]) (rest := []) ⟨hx, hb, hml, hown, hts⟩ (ct_tapeAt_in l dC dI h0 ht hw a1 a2 a3 n w cT f T hT hn (i + 1) h24) (cwV 1 hts gX1_placeOfGap_X1_tapeAt rfl rfl rfl (by decide +kernel) ⟨Nat.le_of_ble_eq_true rfl, Nat.le_of_ble_eq_true rfl⟩) (hP.sub [0, 1] rfl) (hK.sub [0] rfl) 0 rfl rfl rfl hl.1 rfl (Nat.le_of_ble_eq_true rfl) dX1_placeOfGap_24 ⟨(Nat.zero_le _), (Nat.zero_le _)⟩ ?_
            refine lv_bipush (v := nI 58) hx hb dX1_placeOfGap_27 (by decide) ?_
            refine bn_ne (tgt := 34) hx hb dX1_placeOfGap_29 (by decide) (by omega) (by omega) (fun c29 => ?_) (fun c29 => ?_)
            · refine lv_iinc (v := nI (i + 1)) (lv' := [(1, .int (nI (i + 1))), (0, .ref h0)]) hx hb dX1_placeOfGap_34 hl (k := 1) rfl (nI_add _ 1) (by decide) rfl (fun ls hl => ?_)
              refine lv_goto (tgt := 2) hx hb dX1_placeOfGap_37 (by decide) ?_
              exact ih (i + 1) ((az_gp_miss c7 (by omega)).symm.trans hi) (by omega) (by omega) ls (lv_sub hl [1, 0] rfl)
            · refine lv_iload_n hx hb dX1_placeOfGap_32 rfl (lv_at hl 1 rfl) ?_
              exact rt_i hx hb hr (by rw [← hi, az_gp_hit c7 c17 h24 c29]) dX1_placeOfGap_33 hlocks
          · refine rc_Vi (As := [.int (nI (i + 1))]) (rest := []) ⟨hx, hb, hml, hown, hts⟩ (ct_tapeAt_out l dC dI h0 ht hw a1 a2 a3 n w cT f T hT hn (i + 1) (Nat.not_lt.mp h24) (by omega)) (cwV 1 hts gX1_placeOfGap_X1_tapeAt rfl rfl rfl (by decide +kernel) ⟨Nat.le_of_ble_eq_true rfl, Nat.le_of_ble_eq_true rfl⟩) (hP.sub [0, 1] rfl) (hK.sub [0] rfl) 0 rfl rfl rfl hl.1 rfl (Nat.le_of_ble_eq_true rfl) dX1_placeOfGap_24 ⟨(Nat.zero_le _), (Nat.zero_le _)⟩ ?_
            refine lv_bipush (v := nI 58) hx hb dX1_placeOfGap_27 (by decide) ?_
            refine lv_icmp_ne (tgt := 34) hx hb dX1_placeOfGap_29 (by decide) (fun _ => ?_) (fun c => absurd c (by decide))
            refine lv_iinc (v := nI (i + 1)) (lv' := [(1, .int (nI (i + 1))), (0, .ref h0)]) hx hb dX1_placeOfGap_34 hl (k := 1) rfl (nI_add _ 1) (by decide) rfl (fun ls hl => ?_)
            refine lv_goto (tgt := 2) hx hb dX1_placeOfGap_37 (by decide) ?_
            exact ih (i + 1) ((az_gp_miss c7 (by omega)).symm.trans hi) (by omega) (by omega) ls (lv_sub hl [1, 0] rfl)
  exact lp2 _ 0 (rfl) (Nat.zero_le _) (Nat.lt_succ_self _) ls (lv_sub hl [1, 0] rfl)
set_option maxRecDepth 100000 in
set_option maxHeartbeats 4000000 in
/-- partsIn(from, to) -/
theorem ct_partsIn (l : Launch) (dC : Nat → ClassId) (dI : Nat → Nat → Nat) (h0 ht hw a1 a2 a3 n w : Nat) (cT : ClassId) (f : Nat → Int32) (T : Nat → Nat) (hT : az_tp f T n) (hn : n ≤ 60) (fr to : Nat) (hfr : fr < 2147483648) (hto : to ≤ n) : Met l yX1_partsIn wsX1_partsIn ({ frames := 1, cells := 0, slots := 0, locals := 21 }) (rd_P (dC, dI) azCl [(h0, .inr (1, [.ref ht, .int (nI n), .ref hw, .int (nI w), .ref a1, .ref a2, .ref a3])), (ht, .inl (cT, 60, .inl f))] [(cT, .byte)] [.ref h0, .int (nI fr), .int (nI to)]) (vp_Si (fun r => r = nI (az_cn T fr to))) 0 0 (fun _ => False) := by
  refine Met.ofW (cc := cX1_partsIn) (maxL := 5) (ret := (some .int)) (by decide) rfl ?_
  intro p e s m args below meth c s₁ Bd hml hv
  obtain ⟨rfl, hP, hK⟩ := hv
  have hx := Bd.exec
  have hb := Bd.bytes
  have hr := Bd.returns
  have hts := atoms_spec (ws := wsX1_partsIn) Bd.pre
  have hown : s.vm.findClass RX1 = some m.cls := findClass_of_methodNamed Bd.named
  have hlocks := Bd.notSynchronized
  have hl := lv_entry ([.ref h0, .int (nI fr), .int (nI to)]) (n := 5) (Nat.le_of_ble_eq_true rfl)
  rw [lg_entry_eq]
  generalize (lg_sl ([.ref h0, .int (nI fr), .int (nI to)]) ++ List.replicate (5 - (lg_sl ([.ref h0, .int (nI fr), .int (nI to)])).length) Slot.unset).toArray = ls at hl ⊢
  have hl : lv_has ls 5 [(0, .ref h0), (1, .int (nI fr)), (2, .int (nI to))] := hl
  refine lv_iload_n hx hb dX1_partsIn_0 rfl (lv_at hl 1 rfl) ?_
  refine lv_iload_n hx hb dX1_partsIn_1 rfl (lv_at hl 2 rfl) ?_
  refine bn_lt (tgt := 7) hx hb dX1_partsIn_2 (by decide) (by omega) (by omega) (fun c2 => ?_) (fun c2 => ?_)
  · refine lv_iconst (v := nI 1) hx hb dX1_partsIn_7 (by decide) ?_
    refine lv_istore_n (lv' := [(3, .int (nI 1)), (0, .ref h0), (1, .int (nI fr)), (2, .int (nI to))]) hx hb dX1_partsIn_8 rfl hl (by decide) rfl (fun ls hl => ?_)
    refine lv_iload_n hx hb dX1_partsIn_9 rfl (lv_at hl 2 rfl) ?_
    refine lv_istore (lv' := [(4, .int (nI fr)), (3, .int (nI 1)), (0, .ref h0), (1, .int (nI fr)), (2, .int (nI to))]) hx hb dX1_partsIn_10 hl (by decide) rfl (fun ls hl => ?_)
    have lp12 : ∀ (N : Nat) (i : Nat) (k : Nat), (i ≤ to) → (k + az_clF T (to - i) i = az_cn T fr to) → (k ≤ i + 1) → (to - i) < N → ∀ (ls : Array Slot), lv_has ls 5 [(0, .ref h0), (1, .int (nI fr)), (2, .int (nI to)), (3, .int (nI k)), (4, .int (nI i))] → W p l e (headSpec wsX1_partsIn ({ frames := 1, cells := 0, slots := 0, locals := 21 })).room s m ([.ref h0, .int (nI fr), .int (nI to)] : List Value).toArray below meth c s.heap [] 0 0 (MQ below (vp_Si (fun r => r = nI (az_cn T fr to))) ([.ref h0, .int (nI fr), .int (nI to)] : List Value).toArray s 0 0 (fun _ => False)) (F0 m 12 ls []) := by
      intro N
      induction N with
      | zero => intro i k hi hk hk2 hN; exact absurd hN (Nat.not_lt_zero _)
      | succ N ih =>
        intro i k hi hk hk2 hN ls hl
        refine lv_iload hx hb dX1_partsIn_12 (lv_at hl 4 rfl) ?_
        refine lv_iload_n hx hb dX1_partsIn_14 rfl (lv_at hl 2 rfl) ?_
        refine bn_ge (tgt := 38) hx hb dX1_partsIn_15 (by decide) (by omega) (by omega) (fun c15 => ?_) (fun c15 => ?_)
        · refine lv_iload_n hx hb dX1_partsIn_38 rfl (lv_at hl 3 rfl) ?_
          exact rt_i hx hb hr (by have h := hk; rw [show to - i = 0 by omega] at h; exact congrArg nI h) dX1_partsIn_39 hlocks
        · have hTi := (hT i (Nat.lt_of_lt_of_le c15 hto)).2
          refine lv_aload_n hx hb dX1_partsIn_18 rfl (lv_at hl 0 rfl) ?_
          refine lv_iload hx hb dX1_partsIn_19 (lv_at hl 4 rfl) ?_
          refine rc_Vi (As := [.int (nI i)]) (rest := []) ⟨hx, hb, hml, hown, hts⟩ (ct_tapeAt_in l dC dI h0 ht hw a1 a2 a3 n w cT f T hT hn i (Nat.lt_of_lt_of_le c15 hto)) (cwV 1 hts gX1_partsIn_X1_tapeAt rfl rfl rfl (by decide +kernel) ⟨Nat.le_of_ble_eq_true rfl, Nat.le_of_ble_eq_true rfl⟩) (hP.sub [0, 1] rfl) (hK.sub [0] rfl) 0 rfl rfl rfl hl.1 rfl (Nat.le_of_ble_eq_true rfl) dX1_partsIn_21 ⟨(Nat.zero_le _), (Nat.zero_le _)⟩ ?_
          refine lv_bipush (v := nI 58) hx hb dX1_partsIn_24 (by decide) ?_
          refine bn_ne (tgt := 32) hx hb dX1_partsIn_26 (by decide) (by omega) (by omega) (fun c26 => ?_) (fun c26 => ?_)
          · refine lv_iinc (v := nI (i + 1)) (lv' := [(4, .int (nI (i + 1))), (0, .ref h0), (1, .int (nI fr)), (2, .int (nI to)), (3, .int (nI k))]) hx hb dX1_partsIn_32 hl (k := 4) rfl (nI_add _ 1) (by decide) rfl (fun ls hl => ?_)
            refine lv_goto (tgt := 12) hx hb dX1_partsIn_35 (by decide) ?_
            exact ih (i + 1) k (by omega) (by first | (rw [← hk, az_cl_hit c15 c26]; omega) | (rw [← hk, az_cl_miss c15 c26])) (by omega) (by omega) ls (lv_sub hl [1, 2, 3, 4, 0] rfl)
          · refine lv_iinc (v := nI (k + 1)) (lv' := [(3, .int (nI (k + 1))), (0, .ref h0), (1, .int (nI fr)), (2, .int (nI to)), (4, .int (nI i))]) hx hb dX1_partsIn_29 hl (k := 3) rfl (nI_add _ 1) (by decide) rfl (fun ls hl => ?_)
            refine lv_iinc (v := nI (i + 1)) (lv' := [(4, .int (nI (i + 1))), (3, .int (nI (k + 1))), (0, .ref h0), (1, .int (nI fr)), (2, .int (nI to))]) hx hb dX1_partsIn_32 hl (k := 4) rfl (nI_add _ 1) (by decide) rfl (fun ls hl => ?_)
            refine lv_goto (tgt := 12) hx hb dX1_partsIn_35 (by decide) ?_
            exact ih (i + 1) (k + 1) (by omega) (by first | (rw [← hk, az_cl_hit c15 c26]; omega) | (rw [← hk, az_cl_miss c15 c26])) (by omega) (by omega) ls (lv_sub hl [2, 3, 4, 1, 0] rfl)
    exact lp12 _ fr 1 (Nat.le_of_lt c2) ((az_cn_1 c2).symm) (by omega) (Nat.lt_succ_self _) ls (lv_sub hl [2, 3, 4, 1, 0] rfl)
  · refine lv_iconst (v := nI 0) hx hb dX1_partsIn_5 (by decide) ?_
    exact rt_i hx hb hr (by rw [az_cn_0 c2]) dX1_partsIn_6 hlocks
set_option maxRecDepth 100000 in
set_option maxHeartbeats 4000000 in
/-- digitAt(i) -/
theorem ct_digitAt (l : Launch) (dC : Nat → ClassId) (dI : Nat → Nat → Nat) (h0 ht hw a1 a2 a3 n w : Nat) (cT : ClassId) (f : Nat → Int32) (T : Nat → Nat) (hT : az_tp f T n) (hn : n ≤ 60) (i : Nat) (hi : i < n) : Met l yX1_digitAt wsX1_digitAt ({ frames := 1, cells := 0, slots := 0, locals := 21 }) (rd_P (dC, dI) azCl [(h0, .inr (1, [.ref ht, .int (nI n), .ref hw, .int (nI w), .ref a1, .ref a2, .ref a3])), (ht, .inl (cT, 60, .inl f))] [(cT, .byte)] [.ref h0, .int (nI i)]) (vp_Si (fun r => r = az_o (az_hd (T i)))) 0 0 (fun _ => False) := by
  refine Met.ofW (cc := cX1_digitAt) (maxL := 3) (ret := (some .int)) (by decide) rfl ?_
  intro p e s m args below meth c s₁ Bd hml hv
  obtain ⟨rfl, hP, hK⟩ := hv
  have hx := Bd.exec
  have hb := Bd.bytes
  have hr := Bd.returns
  have hts := atoms_spec (ws := wsX1_digitAt) Bd.pre
  have hown : s.vm.findClass RX1 = some m.cls := findClass_of_methodNamed Bd.named
  have hlocks := Bd.notSynchronized
  have hl := lv_entry ([.ref h0, .int (nI i)]) (n := 3) (Nat.le_of_ble_eq_true rfl)
  rw [lg_entry_eq]
  generalize (lg_sl ([.ref h0, .int (nI i)]) ++ List.replicate (3 - (lg_sl ([.ref h0, .int (nI i)])).length) Slot.unset).toArray = ls at hl ⊢
  have hl : lv_has ls 3 [(0, .ref h0), (1, .int (nI i))] := hl
  have hTi := (hT i hi).2
  refine lv_aload_n hx hb dX1_digitAt_0 rfl (lv_at hl 0 rfl) ?_
  refine lv_iload_n hx hb dX1_digitAt_1 rfl (lv_at hl 1 rfl) ?_
  refine rc_Vi (As := [.int (nI i)]) (rest := []) ⟨hx, hb, hml, hown, hts⟩ (ct_tapeAt_in l dC dI h0 ht hw a1 a2 a3 n w cT f T hT hn i hi) (cwV 1 hts gX1_digitAt_X1_tapeAt rfl rfl rfl (by decide +kernel) ⟨Nat.le_of_ble_eq_true rfl, Nat.le_of_ble_eq_true rfl⟩) (hP.sub [0, 1] rfl) (hK.sub [0] rfl) 0 rfl rfl rfl hl.1 rfl (Nat.le_of_ble_eq_true rfl) dX1_digitAt_2 ⟨(Nat.zero_le _), (Nat.zero_le _)⟩ ?_
  refine lv_istore_n (lv' := [(2, .int (nI (T i))), (0, .ref h0), (1, .int (nI i))]) hx hb dX1_digitAt_5 rfl hl (by decide) rfl (fun ls hl => ?_)
  refine lv_iload_n hx hb dX1_digitAt_6 rfl (lv_at hl 0 rfl) ?_
  refine lv_bipush (v := nI 48) hx hb dX1_digitAt_7 (by decide) ?_
  refine bn_lt (tgt := 23) hx hb dX1_digitAt_9 (by decide) (by omega) (by omega) (fun c9 => ?_) (fun c9 => ?_)
  · refine lv_iload_n hx hb dX1_digitAt_23 rfl (lv_at hl 0 rfl) ?_
    refine lv_bipush (v := nI 97) hx hb dX1_digitAt_24 (by decide) ?_
    refine bn_lt (tgt := 43) hx hb dX1_digitAt_26 (by decide) (by omega) (by omega) (fun c26 => ?_) (fun c26 => ?_)
    · refine lv_iload_n hx hb dX1_digitAt_43 rfl (lv_at hl 0 rfl) ?_
      refine lv_bipush (v := nI 65) hx hb dX1_digitAt_44 (by decide) ?_
      refine bn_lt (tgt := 63) hx hb dX1_digitAt_46 (by decide) (by omega) (by omega) (fun c46 => ?_) (fun c46 => ?_)
      · refine lv_iconst (v := -1) hx hb dX1_digitAt_63 (by decide) ?_
        exact rt_i hx hb hr (by rw [az_hd_n (c := T i) (by omega) (by omega) (by omega)]; rfl) dX1_digitAt_64 hlocks
      · refine lv_iload_n hx hb dX1_digitAt_49 rfl (lv_at hl 0 rfl) ?_
        refine lv_bipush (v := nI 70) hx hb dX1_digitAt_50 (by decide) ?_
        refine bn_gt (tgt := 63) hx hb dX1_digitAt_52 (by decide) (by omega) (by omega) (fun c52 => ?_) (fun c52 => ?_)
        · refine lv_iconst (v := -1) hx hb dX1_digitAt_63 (by decide) ?_
          exact rt_i hx hb hr (by rw [az_hd_n (c := T i) (by omega) (by omega) (by omega)]; rfl) dX1_digitAt_64 hlocks
        · refine lv_iload_n hx hb dX1_digitAt_55 rfl (lv_at hl 0 rfl) ?_
          refine lv_bipush (v := nI 65) hx hb dX1_digitAt_56 (by decide) ?_
          refine lv_isub hx hb dX1_digitAt_58 ?_
          refine tp_i (nI ((T i) - 65)) (pk_sub (by omega)) ?_
          refine lv_bipush (v := nI 10) hx hb dX1_digitAt_59 (by decide) ?_
          refine lv_iadd hx hb dX1_digitAt_61 ?_
          refine tp_i (nI (((T i) - 65) + 10)) (nI_add _ _) ?_
          exact rt_i hx hb hr (by rw [az_hd_c (c := T i) (by omega) (by omega)]; rfl) dX1_digitAt_62 hlocks
    · refine lv_iload_n hx hb dX1_digitAt_29 rfl (lv_at hl 0 rfl) ?_
      refine lv_bipush (v := nI 102) hx hb dX1_digitAt_30 (by decide) ?_
      refine bn_gt (tgt := 43) hx hb dX1_digitAt_32 (by decide) (by omega) (by omega) (fun c32 => ?_) (fun c32 => ?_)
      · refine lv_iload_n hx hb dX1_digitAt_43 rfl (lv_at hl 0 rfl) ?_
        refine lv_bipush (v := nI 65) hx hb dX1_digitAt_44 (by decide) ?_
        refine bn_lt (tgt := 63) hx hb dX1_digitAt_46 (by decide) (by omega) (by omega) (fun c46 => ?_) (fun c46 => ?_)
        · refine lv_iconst (v := -1) hx hb dX1_digitAt_63 (by decide) ?_
          exact rt_i hx hb hr (by rw [az_hd_n (c := T i) (by omega) (by omega) (by omega)]; rfl) dX1_digitAt_64 hlocks
        · refine lv_iload_n hx hb dX1_digitAt_49 rfl (lv_at hl 0 rfl) ?_
          refine lv_bipush (v := nI 70) hx hb dX1_digitAt_50 (by decide) ?_
          refine bn_gt (tgt := 63) hx hb dX1_digitAt_52 (by decide) (by omega) (by omega) (fun c52 => ?_) (fun c52 => ?_)
          · refine lv_iconst (v := -1) hx hb dX1_digitAt_63 (by decide) ?_
            exact rt_i hx hb hr (by rw [az_hd_n (c := T i) (by omega) (by omega) (by omega)]; rfl) dX1_digitAt_64 hlocks
          · refine lv_iload_n hx hb dX1_digitAt_55 rfl (lv_at hl 0 rfl) ?_
            refine lv_bipush (v := nI 65) hx hb dX1_digitAt_56 (by decide) ?_
            refine lv_isub hx hb dX1_digitAt_58 ?_
            refine tp_i (nI ((T i) - 65)) (pk_sub (by omega)) ?_
            refine lv_bipush (v := nI 10) hx hb dX1_digitAt_59 (by decide) ?_
            refine lv_iadd hx hb dX1_digitAt_61 ?_
            refine tp_i (nI (((T i) - 65) + 10)) (nI_add _ _) ?_
            exact rt_i hx hb hr (by rw [az_hd_c (c := T i) (by omega) (by omega)]; rfl) dX1_digitAt_62 hlocks
      · refine lv_iload_n hx hb dX1_digitAt_35 rfl (lv_at hl 0 rfl) ?_
        refine lv_bipush (v := nI 97) hx hb dX1_digitAt_36 (by decide) ?_
        refine lv_isub hx hb dX1_digitAt_38 ?_
        refine tp_i (nI ((T i) - 97)) (pk_sub (by omega)) ?_
        refine lv_bipush (v := nI 10) hx hb dX1_digitAt_39 (by decide) ?_
        refine lv_iadd hx hb dX1_digitAt_41 ?_
        refine tp_i (nI (((T i) - 97) + 10)) (nI_add _ _) ?_
        exact rt_i hx hb hr (by rw [az_hd_b (c := T i) (by omega) (by omega)]; rfl) dX1_digitAt_42 hlocks
  · refine lv_iload_n hx hb dX1_digitAt_12 rfl (lv_at hl 0 rfl) ?_
    refine lv_bipush (v := nI 57) hx hb dX1_digitAt_13 (by decide) ?_
    refine bn_gt (tgt := 23) hx hb dX1_digitAt_15 (by decide) (by omega) (by omega) (fun c15 => ?_) (fun c15 => ?_)
    · refine lv_iload_n hx hb dX1_digitAt_23 rfl (lv_at hl 0 rfl) ?_
      refine lv_bipush (v := nI 97) hx hb dX1_digitAt_24 (by decide) ?_
      refine bn_lt (tgt := 43) hx hb dX1_digitAt_26 (by decide) (by omega) (by omega) (fun c26 => ?_) (fun c26 => ?_)
      · refine lv_iload_n hx hb dX1_digitAt_43 rfl (lv_at hl 0 rfl) ?_
        refine lv_bipush (v := nI 65) hx hb dX1_digitAt_44 (by decide) ?_
        refine bn_lt (tgt := 63) hx hb dX1_digitAt_46 (by decide) (by omega) (by omega) (fun c46 => ?_) (fun c46 => ?_)
        · refine lv_iconst (v := -1) hx hb dX1_digitAt_63 (by decide) ?_
          exact rt_i hx hb hr (by rw [az_hd_n (c := T i) (by omega) (by omega) (by omega)]; rfl) dX1_digitAt_64 hlocks
        · refine lv_iload_n hx hb dX1_digitAt_49 rfl (lv_at hl 0 rfl) ?_
          refine lv_bipush (v := nI 70) hx hb dX1_digitAt_50 (by decide) ?_
          refine bn_gt (tgt := 63) hx hb dX1_digitAt_52 (by decide) (by omega) (by omega) (fun c52 => ?_) (fun c52 => ?_)
          · refine lv_iconst (v := -1) hx hb dX1_digitAt_63 (by decide) ?_
            exact rt_i hx hb hr (by rw [az_hd_n (c := T i) (by omega) (by omega) (by omega)]; rfl) dX1_digitAt_64 hlocks
          · refine lv_iload_n hx hb dX1_digitAt_55 rfl (lv_at hl 0 rfl) ?_
            refine lv_bipush (v := nI 65) hx hb dX1_digitAt_56 (by decide) ?_
            refine lv_isub hx hb dX1_digitAt_58 ?_
            refine tp_i (nI ((T i) - 65)) (pk_sub (by omega)) ?_
            refine lv_bipush (v := nI 10) hx hb dX1_digitAt_59 (by decide) ?_
            refine lv_iadd hx hb dX1_digitAt_61 ?_
            refine tp_i (nI (((T i) - 65) + 10)) (nI_add _ _) ?_
            exact rt_i hx hb hr (by rw [az_hd_c (c := T i) (by omega) (by omega)]; rfl) dX1_digitAt_62 hlocks
      · refine lv_iload_n hx hb dX1_digitAt_29 rfl (lv_at hl 0 rfl) ?_
        refine lv_bipush (v := nI 102) hx hb dX1_digitAt_30 (by decide) ?_
        refine bn_gt (tgt := 43) hx hb dX1_digitAt_32 (by decide) (by omega) (by omega) (fun c32 => ?_) (fun c32 => ?_)
        · refine lv_iload_n hx hb dX1_digitAt_43 rfl (lv_at hl 0 rfl) ?_
          refine lv_bipush (v := nI 65) hx hb dX1_digitAt_44 (by decide) ?_
          refine bn_lt (tgt := 63) hx hb dX1_digitAt_46 (by decide) (by omega) (by omega) (fun c46 => ?_) (fun c46 => ?_)
          · refine lv_iconst (v := -1) hx hb dX1_digitAt_63 (by decide) ?_
            exact rt_i hx hb hr (by rw [az_hd_n (c := T i) (by omega) (by omega) (by omega)]; rfl) dX1_digitAt_64 hlocks
          · refine lv_iload_n hx hb dX1_digitAt_49 rfl (lv_at hl 0 rfl) ?_
            refine lv_bipush (v := nI 70) hx hb dX1_digitAt_50 (by decide) ?_
            refine bn_gt (tgt := 63) hx hb dX1_digitAt_52 (by decide) (by omega) (by omega) (fun c52 => ?_) (fun c52 => ?_)
            · refine lv_iconst (v := -1) hx hb dX1_digitAt_63 (by decide) ?_
              exact rt_i hx hb hr (by rw [az_hd_n (c := T i) (by omega) (by omega) (by omega)]; rfl) dX1_digitAt_64 hlocks
            · refine lv_iload_n hx hb dX1_digitAt_55 rfl (lv_at hl 0 rfl) ?_
              refine lv_bipush (v := nI 65) hx hb dX1_digitAt_56 (by decide) ?_
              refine lv_isub hx hb dX1_digitAt_58 ?_
              refine tp_i (nI ((T i) - 65)) (pk_sub (by omega)) ?_
              refine lv_bipush (v := nI 10) hx hb dX1_digitAt_59 (by decide) ?_
              refine lv_iadd hx hb dX1_digitAt_61 ?_
              refine tp_i (nI (((T i) - 65) + 10)) (nI_add _ _) ?_
              exact rt_i hx hb hr (by rw [az_hd_c (c := T i) (by omega) (by omega)]; rfl) dX1_digitAt_62 hlocks
        · refine lv_iload_n hx hb dX1_digitAt_35 rfl (lv_at hl 0 rfl) ?_
          refine lv_bipush (v := nI 97) hx hb dX1_digitAt_36 (by decide) ?_
          refine lv_isub hx hb dX1_digitAt_38 ?_
          refine tp_i (nI ((T i) - 97)) (pk_sub (by omega)) ?_
          refine lv_bipush (v := nI 10) hx hb dX1_digitAt_39 (by decide) ?_
          refine lv_iadd hx hb dX1_digitAt_41 ?_
          refine tp_i (nI (((T i) - 97) + 10)) (nI_add _ _) ?_
          exact rt_i hx hb hr (by rw [az_hd_b (c := T i) (by omega) (by omega)]; rfl) dX1_digitAt_42 hlocks
    · refine lv_iload_n hx hb dX1_digitAt_18 rfl (lv_at hl 0 rfl) ?_
      refine lv_bipush (v := nI 48) hx hb dX1_digitAt_19 (by decide) ?_
      refine lv_isub hx hb dX1_digitAt_21 ?_
      refine tp_i (nI ((T i) - 48)) (pk_sub (by omega)) ?_
      exact rt_i hx hb hr (by rw [az_hd_a (c := T i) (by omega) (by omega)]; rfl) dX1_digitAt_22 hlocks
set_option maxRecDepth 100000 in
set_option maxHeartbeats 4000000 in
/-- decimalIn(from, to, most) -/
theorem ct_decimalIn (l : Launch) (dC : Nat → ClassId) (dI : Nat → Nat → Nat) (h0 ht hw a1 a2 a3 n w : Nat) (cT : ClassId) (f : Nat → Int32) (T : Nat → Nat) (hT : az_tp f T n) (hn : n ≤ 60) (fr to most : Nat) (hfr : fr < 2147483648) (hto : to ≤ n) (hft : fr ≤ n → fr ≤ to) (hmo : most ≤ 255) : Met l yX1_decimalIn wsX1_decimalIn ({ frames := 2, cells := 0, slots := 0, locals := 43 }) (rd_P (dC, dI) azCl [(h0, .inr (1, [.ref ht, .int (nI n), .ref hw, .int (nI w), .ref a1, .ref a2, .ref a3])), (ht, .inl (cT, 60, .inl f))] [(cT, .byte)] [.ref h0, .int (nI fr), .int (nI to), .int (nI most)]) (vp_Si (fun r => r = az_o (az_dc T fr to most))) 0 0 (fun _ => False) := by
  refine Met.ofW (cc := cX1_decimalIn) (maxL := 8) (ret := (some .int)) (by decide) rfl ?_
  intro p e s m args below meth c s₁ Bd hml hv
  obtain ⟨rfl, hP, hK⟩ := hv
  have hx := Bd.exec
  have hb := Bd.bytes
  have hr := Bd.returns
  have hts := atoms_spec (ws := wsX1_decimalIn) Bd.pre
  have hown : s.vm.findClass RX1 = some m.cls := findClass_of_methodNamed Bd.named
  have hlocks := Bd.notSynchronized
  have hl := lv_entry ([.ref h0, .int (nI fr), .int (nI to), .int (nI most)]) (n := 8) (Nat.le_of_ble_eq_true rfl)
  rw [lg_entry_eq]
  generalize (lg_sl ([.ref h0, .int (nI fr), .int (nI to), .int (nI most)]) ++ List.replicate (8 - (lg_sl ([.ref h0, .int (nI fr), .int (nI to), .int (nI most)])).length) Slot.unset).toArray = ls at hl ⊢
  have hl : lv_has ls 8 [(0, .ref h0), (1, .int (nI fr)), (2, .int (nI to)), (3, .int (nI most))] := hl
  refine lv_aload_n hx hb dX1_decimalIn_0 rfl (lv_at hl 0 rfl) ?_
  refine lv_iload_n hx hb dX1_decimalIn_1 rfl (lv_at hl 1 rfl) ?_
  by_cases h2 : fr < n
  · have hTf := (hT fr h2).2
    have hle := hft (Nat.le_of_lt h2)
    refine rc_Vi (As := [.int (nI fr)]) (rest := []) ⟨hx, hb, hml, hown, hts⟩ (ct_tapeAt_in l dC dI h0 ht hw a1 a2 a3 n w cT f T hT hn fr h2) (cwV 1 hts gX1_decimalIn_X1_tapeAt rfl rfl rfl (by decide +kernel) ⟨Nat.le_of_ble_eq_true rfl, Nat.le_of_ble_eq_true rfl⟩) (hP.sub [0, 1] rfl) (hK.sub [0] rfl) 0 rfl rfl rfl hl.1 rfl (Nat.le_of_ble_eq_true rfl) dX1_decimalIn_2 ⟨(Nat.zero_le _), (Nat.zero_le _)⟩ ?_
    refine lv_bipush (v := nI 48) hx hb dX1_decimalIn_5 (by decide) ?_
    refine bn_ne (tgt := 21) hx hb dX1_decimalIn_7 (by decide) (by omega) (by omega) (fun c7 => ?_) (fun c7 => ?_)
    · refine lv_iconst (v := nI 0) hx hb dX1_decimalIn_21 (by decide) ?_
      refine lv_istore (lv' := [(4, .int (nI 0)), (0, .ref h0), (1, .int (nI fr)), (2, .int (nI to)), (3, .int (nI most))]) hx hb dX1_decimalIn_22 hl (by decide) rfl (fun ls hl => ?_)
      refine lv_iload_n hx hb dX1_decimalIn_24 rfl (lv_at hl 2 rfl) ?_
      refine lv_iload_n hx hb dX1_decimalIn_25 rfl (lv_at hl 3 rfl) ?_
      refine bn_ge (tgt := 34) hx hb dX1_decimalIn_26 (by decide) (by omega) (by omega) (fun c26 => ?_) (fun c26 => ?_)
      · refine lv_iconst (v := -1) hx hb dX1_decimalIn_34 (by decide) ?_
        exact rt_i hx hb hr (by rw [az_dc_n (T := T) (fr := fr) (to := to) (by omega)]; rfl) dX1_decimalIn_35 hlocks
      · refine lv_iload hx hb dX1_decimalIn_29 (lv_at hl 0 rfl) ?_
        refine lv_if_eq (tgt := 36) hx hb dX1_decimalIn_31 (by decide) (fun _ => ?_) (fun c => absurd c (by decide))
        refine lv_iconst (v := nI 0) hx hb dX1_decimalIn_36 (by decide) ?_
        refine lv_istore (lv' := [(5, .int (nI 0)), (4, .int (nI 0)), (0, .ref h0), (1, .int (nI fr)), (2, .int (nI to)), (3, .int (nI most))]) hx hb dX1_decimalIn_37 hl (by decide) rfl (fun ls hl => ?_)
        refine lv_iload_n hx hb dX1_decimalIn_39 rfl (lv_at hl 3 rfl) ?_
        refine lv_istore (lv' := [(6, .int (nI fr)), (5, .int (nI 0)), (4, .int (nI 0)), (0, .ref h0), (1, .int (nI fr)), (2, .int (nI to)), (3, .int (nI most))]) hx hb dX1_decimalIn_40 hl (by decide) rfl (fun ls hl => ?_)
        have lp42 : ∀ (N : Nat) (i : Nat) (v : Nat), (fr ≤ i) → (i ≤ to) → (v ≤ most) → (az_dcF T most (to - i) i v = az_dc T fr to most) → (to - i) < N → ∀ (ls : Array Slot), lv_has ls 8 [(0, .ref h0), (1, .int (nI fr)), (2, .int (nI to)), (3, .int (nI most)), (5, .int (nI v)), (6, .int (nI i))] → W p l e (headSpec wsX1_decimalIn ({ frames := 2, cells := 0, slots := 0, locals := 43 })).room s m ([.ref h0, .int (nI fr), .int (nI to), .int (nI most)] : List Value).toArray below meth c s.heap [] 0 0 (MQ below (vp_Si (fun r => r = az_o (az_dc T fr to most))) ([.ref h0, .int (nI fr), .int (nI to), .int (nI most)] : List Value).toArray s 0 0 (fun _ => False)) (F0 m 42 ls []) := by
          intro N
          induction N with
          | zero => intro i v hi hi2 hv ha hN; exact absurd hN (Nat.not_lt_zero _)
          | succ N ih =>
            intro i v hi hi2 hv ha hN ls hl
            refine lv_iload hx hb dX1_decimalIn_42 (lv_at hl 5 rfl) ?_
            refine lv_iload_n hx hb dX1_decimalIn_44 rfl (lv_at hl 2 rfl) ?_
            refine bn_ge (tgt := 95) hx hb dX1_decimalIn_45 (by decide) (by omega) (by omega) (fun c45 => ?_) (fun c45 => ?_)
            · refine lv_iload hx hb dX1_decimalIn_95 (lv_at hl 4 rfl) ?_
              exact rt_i hx hb hr (by have h := ha; rw [show to - i = 0 by omega] at h; exact congrArg az_o h) dX1_decimalIn_97 hlocks
            · have hin : i < n := Nat.lt_of_lt_of_le c45 hto
              refine lv_aload_n hx hb dX1_decimalIn_48 rfl (lv_at hl 0 rfl) ?_
              refine lv_iload hx hb dX1_decimalIn_49 (lv_at hl 5 rfl) ?_
              refine rc_Vi (As := [.int (nI i)]) (rest := []) ⟨hx, hb, hml, hown, hts⟩ (ct_digitAt l dC dI h0 ht hw a1 a2 a3 n w cT f T hT hn i hin) (cwV 1 hts gX1_decimalIn_X1_digitAt rfl rfl rfl (by decide +kernel) ⟨Nat.le_of_ble_eq_true rfl, Nat.le_of_ble_eq_true rfl⟩) (hP.sub [0, 1] rfl) (hK.sub [0] rfl) 0 rfl rfl rfl hl.1 rfl (Nat.le_of_ble_eq_true rfl) dX1_decimalIn_51 ⟨(Nat.zero_le _), (Nat.zero_le _)⟩ ?_
              rcases hd : az_hd (T i) with _ | d
              · refine tp_i (-1) (rfl) ?_
                refine lv_istore (lv' := [(7, .int (-1)), (0, .ref h0), (1, .int (nI fr)), (2, .int (nI to)), (3, .int (nI most)), (5, .int (nI v)), (6, .int (nI i))]) hx hb dX1_decimalIn_54 hl (by decide) rfl (fun ls hl => ?_)
                refine lv_iload hx hb dX1_decimalIn_56 (lv_at hl 0 rfl) ?_
                refine lv_iconst (v := -1) hx hb dX1_decimalIn_58 (by decide) ?_
                refine lv_icmp_eq (tgt := 69) hx hb dX1_decimalIn_59 (by decide) (fun _ => ?_) (fun c => absurd c (by decide))
                refine lv_iconst (v := -1) hx hb dX1_decimalIn_69 (by decide) ?_
                exact rt_i hx hb hr (by rw [← ha, az_dc_bad (T := T) c45 (by first | exact az_hd_ne hd | omega)]; rfl) dX1_decimalIn_70 hlocks
              · have hq := az_hd_q hd
                refine tp_i (nI d) (rfl) ?_
                refine lv_istore (lv' := [(7, .int (nI d)), (0, .ref h0), (1, .int (nI fr)), (2, .int (nI to)), (3, .int (nI most)), (5, .int (nI v)), (6, .int (nI i))]) hx hb dX1_decimalIn_54 hl (by decide) rfl (fun ls hl => ?_)
                refine lv_iload hx hb dX1_decimalIn_56 (lv_at hl 0 rfl) ?_
                refine lv_iconst (v := -1) hx hb dX1_decimalIn_58 (by decide) ?_
                refine lv_icmp_eq (tgt := 69) hx hb dX1_decimalIn_59 (by decide) (fun c => absurd c (nI_m1 (by omega))) (fun _ => ?_)
                refine lv_iload hx hb dX1_decimalIn_62 (lv_at hl 0 rfl) ?_
                refine lv_bipush (v := nI 9) hx hb dX1_decimalIn_64 (by decide) ?_
                refine bn_le (tgt := 71) hx hb dX1_decimalIn_66 (by decide) (by omega) (by omega) (fun c66 => ?_) (fun c66 => ?_)
                · refine lv_iload hx hb dX1_decimalIn_71 (lv_at hl 5 rfl) ?_
                  refine lv_bipush (v := nI 10) hx hb dX1_decimalIn_73 (by decide) ?_
                  refine lv_imul hx hb dX1_decimalIn_75 ?_
                  refine tp_i (nI (v * 10)) (pk_mul _ _) ?_
                  refine lv_iload hx hb dX1_decimalIn_76 (lv_at hl 0 rfl) ?_
                  refine lv_iadd hx hb dX1_decimalIn_78 ?_
                  refine tp_i (nI ((v * 10) + d)) (nI_add _ _) ?_
                  refine lv_istore (lv' := [(5, .int (nI ((v * 10) + d))), (7, .int (nI d)), (0, .ref h0), (1, .int (nI fr)), (2, .int (nI to)), (3, .int (nI most)), (6, .int (nI i))]) hx hb dX1_decimalIn_79 hl (by decide) rfl (fun ls hl => ?_)
                  refine lv_iload hx hb dX1_decimalIn_81 (lv_at hl 0 rfl) ?_
                  refine lv_iload_n hx hb dX1_decimalIn_83 rfl (lv_at hl 5 rfl) ?_
                  refine bn_le (tgt := 89) hx hb dX1_decimalIn_84 (by decide) (by omega) (by omega) (fun c84 => ?_) (fun c84 => ?_)
                  · refine lv_iinc (v := nI (i + 1)) (lv' := [(6, .int (nI (i + 1))), (5, .int (nI ((v * 10) + d))), (7, .int (nI d)), (0, .ref h0), (1, .int (nI fr)), (2, .int (nI to)), (3, .int (nI most))]) hx hb dX1_decimalIn_89 hl (k := 6) rfl (nI_add _ 1) (by decide) rfl (fun ls hl => ?_)
                    refine lv_goto (tgt := 42) hx hb dX1_decimalIn_92 (by decide) ?_
                    exact ih (i + 1) (v * 10 + d) (by omega) (by omega) (by omega) (by rw [← ha, az_dc_step (T := T) (most := most) (v := v) c45 (by omega) (by omega), show d = T i - 48 by omega]) (by omega) ls (lv_sub hl [3, 4, 5, 6, 1, 0] rfl)
                  · refine lv_iconst (v := -1) hx hb dX1_decimalIn_87 (by decide) ?_
                    exact rt_i hx hb hr (by rw [← ha, az_dc_big (T := T) (most := most) (v := v) c45 (by omega) (by omega)]; rfl) dX1_decimalIn_88 hlocks
                · refine lv_iconst (v := -1) hx hb dX1_decimalIn_69 (by decide) ?_
                  exact rt_i hx hb hr (by rw [← ha, az_dc_bad (T := T) c45 (by first | exact az_hd_ne hd | omega)]; rfl) dX1_decimalIn_70 hlocks
        exact lp42 _ fr 0 (Nat.le_refl _) (by omega) (Nat.zero_le _) ((az_dc_s (by omega)).symm) (Nat.lt_succ_self _) ls (lv_sub hl [3, 4, 5, 6, 1, 0] rfl)
    · refine lv_iload_n hx hb dX1_decimalIn_10 rfl (lv_at hl 2 rfl) ?_
      refine lv_iload_n hx hb dX1_decimalIn_11 rfl (lv_at hl 1 rfl) ?_
      refine lv_isub hx hb dX1_decimalIn_12 ?_
      refine tp_i (nI (to - fr)) (pk_sub (by omega)) ?_
      refine lv_iconst (v := nI 1) hx hb dX1_decimalIn_13 (by decide) ?_
      refine bn_le (tgt := 21) hx hb dX1_decimalIn_14 (by decide) (by omega) (by omega) (fun c14 => ?_) (fun c14 => ?_)
      · refine lv_iconst (v := nI 0) hx hb dX1_decimalIn_21 (by decide) ?_
        refine lv_istore (lv' := [(4, .int (nI 0)), (0, .ref h0), (1, .int (nI fr)), (2, .int (nI to)), (3, .int (nI most))]) hx hb dX1_decimalIn_22 hl (by decide) rfl (fun ls hl => ?_)
        refine lv_iload_n hx hb dX1_decimalIn_24 rfl (lv_at hl 2 rfl) ?_
        refine lv_iload_n hx hb dX1_decimalIn_25 rfl (lv_at hl 3 rfl) ?_
        refine bn_ge (tgt := 34) hx hb dX1_decimalIn_26 (by decide) (by omega) (by omega) (fun c26 => ?_) (fun c26 => ?_)
        · refine lv_iconst (v := -1) hx hb dX1_decimalIn_34 (by decide) ?_
          exact rt_i hx hb hr (by rw [az_dc_n (T := T) (fr := fr) (to := to) (by omega)]; rfl) dX1_decimalIn_35 hlocks
        · refine lv_iload hx hb dX1_decimalIn_29 (lv_at hl 0 rfl) ?_
          refine lv_if_eq (tgt := 36) hx hb dX1_decimalIn_31 (by decide) (fun _ => ?_) (fun c => absurd c (by decide))
          refine lv_iconst (v := nI 0) hx hb dX1_decimalIn_36 (by decide) ?_
          refine lv_istore (lv' := [(5, .int (nI 0)), (4, .int (nI 0)), (0, .ref h0), (1, .int (nI fr)), (2, .int (nI to)), (3, .int (nI most))]) hx hb dX1_decimalIn_37 hl (by decide) rfl (fun ls hl => ?_)
          refine lv_iload_n hx hb dX1_decimalIn_39 rfl (lv_at hl 3 rfl) ?_
          refine lv_istore (lv' := [(6, .int (nI fr)), (5, .int (nI 0)), (4, .int (nI 0)), (0, .ref h0), (1, .int (nI fr)), (2, .int (nI to)), (3, .int (nI most))]) hx hb dX1_decimalIn_40 hl (by decide) rfl (fun ls hl => ?_)
          have lp42 : ∀ (N : Nat) (i : Nat) (v : Nat), (fr ≤ i) → (i ≤ to) → (v ≤ most) → (az_dcF T most (to - i) i v = az_dc T fr to most) → (to - i) < N → ∀ (ls : Array Slot), lv_has ls 8 [(0, .ref h0), (1, .int (nI fr)), (2, .int (nI to)), (3, .int (nI most)), (5, .int (nI v)), (6, .int (nI i))] → W p l e (headSpec wsX1_decimalIn ({ frames := 2, cells := 0, slots := 0, locals := 43 })).room s m ([.ref h0, .int (nI fr), .int (nI to), .int (nI most)] : List Value).toArray below meth c s.heap [] 0 0 (MQ below (vp_Si (fun r => r = az_o (az_dc T fr to most))) ([.ref h0, .int (nI fr), .int (nI to), .int (nI most)] : List Value).toArray s 0 0 (fun _ => False)) (F0 m 42 ls []) := by
            intro N
            induction N with
            | zero => intro i v hi hi2 hv ha hN; exact absurd hN (Nat.not_lt_zero _)
            | succ N ih =>
              intro i v hi hi2 hv ha hN ls hl
              refine lv_iload hx hb dX1_decimalIn_42 (lv_at hl 5 rfl) ?_
              refine lv_iload_n hx hb dX1_decimalIn_44 rfl (lv_at hl 2 rfl) ?_
              refine bn_ge (tgt := 95) hx hb dX1_decimalIn_45 (by decide) (by omega) (by omega) (fun c45 => ?_) (fun c45 => ?_)
              · refine lv_iload hx hb dX1_decimalIn_95 (lv_at hl 4 rfl) ?_
                exact rt_i hx hb hr (by have h := ha; rw [show to - i = 0 by omega] at h; exact congrArg az_o h) dX1_decimalIn_97 hlocks
              · have hin : i < n := Nat.lt_of_lt_of_le c45 hto
                refine lv_aload_n hx hb dX1_decimalIn_48 rfl (lv_at hl 0 rfl) ?_
                refine lv_iload hx hb dX1_decimalIn_49 (lv_at hl 5 rfl) ?_
                refine rc_Vi (As := [.int (nI i)]) (rest := []) ⟨hx, hb, hml, hown, hts⟩ (ct_digitAt l dC dI h0 ht hw a1 a2 a3 n w cT f T hT hn i hin) (cwV 1 hts gX1_decimalIn_X1_digitAt rfl rfl rfl (by decide +kernel) ⟨Nat.le_of_ble_eq_true rfl, Nat.le_of_ble_eq_true rfl⟩) (hP.sub [0, 1] rfl) (hK.sub [0] rfl) 0 rfl rfl rfl hl.1 rfl (Nat.le_of_ble_eq_true rfl) dX1_decimalIn_51 ⟨(Nat.zero_le _), (Nat.zero_le _)⟩ ?_
                rcases hd : az_hd (T i) with _ | d
                · refine tp_i (-1) (rfl) ?_
                  refine lv_istore (lv' := [(7, .int (-1)), (0, .ref h0), (1, .int (nI fr)), (2, .int (nI to)), (3, .int (nI most)), (5, .int (nI v)), (6, .int (nI i))]) hx hb dX1_decimalIn_54 hl (by decide) rfl (fun ls hl => ?_)
                  refine lv_iload hx hb dX1_decimalIn_56 (lv_at hl 0 rfl) ?_
                  refine lv_iconst (v := -1) hx hb dX1_decimalIn_58 (by decide) ?_
                  refine lv_icmp_eq (tgt := 69) hx hb dX1_decimalIn_59 (by decide) (fun _ => ?_) (fun c => absurd c (by decide))
                  refine lv_iconst (v := -1) hx hb dX1_decimalIn_69 (by decide) ?_
                  exact rt_i hx hb hr (by rw [← ha, az_dc_bad (T := T) c45 (by first | exact az_hd_ne hd | omega)]; rfl) dX1_decimalIn_70 hlocks
                · have hq := az_hd_q hd
                  refine tp_i (nI d) (rfl) ?_
                  refine lv_istore (lv' := [(7, .int (nI d)), (0, .ref h0), (1, .int (nI fr)), (2, .int (nI to)), (3, .int (nI most)), (5, .int (nI v)), (6, .int (nI i))]) hx hb dX1_decimalIn_54 hl (by decide) rfl (fun ls hl => ?_)
                  refine lv_iload hx hb dX1_decimalIn_56 (lv_at hl 0 rfl) ?_
                  refine lv_iconst (v := -1) hx hb dX1_decimalIn_58 (by decide) ?_
                  refine lv_icmp_eq (tgt := 69) hx hb dX1_decimalIn_59 (by decide) (fun c => absurd c (nI_m1 (by omega))) (fun _ => ?_)
                  refine lv_iload hx hb dX1_decimalIn_62 (lv_at hl 0 rfl) ?_
                  refine lv_bipush (v := nI 9) hx hb dX1_decimalIn_64 (by decide) ?_
                  refine bn_le (tgt := 71) hx hb dX1_decimalIn_66 (by decide) (by omega) (by omega) (fun c66 => ?_) (fun c66 => ?_)
                  · refine lv_iload hx hb dX1_decimalIn_71 (lv_at hl 5 rfl) ?_
                    refine lv_bipush (v := nI 10) hx hb dX1_decimalIn_73 (by decide) ?_
                    refine lv_imul hx hb dX1_decimalIn_75 ?_
                    refine tp_i (nI (v * 10)) (pk_mul _ _) ?_
                    refine lv_iload hx hb dX1_decimalIn_76 (lv_at hl 0 rfl) ?_
                    refine lv_iadd hx hb dX1_decimalIn_78 ?_
                    refine tp_i (nI ((v * 10) + d)) (nI_add _ _) ?_
                    refine lv_istore (lv' := [(5, .int (nI ((v * 10) + d))), (7, .int (nI d)), (0, .ref h0), (1, .int (nI fr)), (2, .int (nI to)), (3, .int (nI most)), (6, .int (nI i))]) hx hb dX1_decimalIn_79 hl (by decide) rfl (fun ls hl => ?_)
                    refine lv_iload hx hb dX1_decimalIn_81 (lv_at hl 0 rfl) ?_
                    refine lv_iload_n hx hb dX1_decimalIn_83 rfl (lv_at hl 5 rfl) ?_
                    refine bn_le (tgt := 89) hx hb dX1_decimalIn_84 (by decide) (by omega) (by omega) (fun c84 => ?_) (fun c84 => ?_)
                    · refine lv_iinc (v := nI (i + 1)) (lv' := [(6, .int (nI (i + 1))), (5, .int (nI ((v * 10) + d))), (7, .int (nI d)), (0, .ref h0), (1, .int (nI fr)), (2, .int (nI to)), (3, .int (nI most))]) hx hb dX1_decimalIn_89 hl (k := 6) rfl (nI_add _ 1) (by decide) rfl (fun ls hl => ?_)
                      refine lv_goto (tgt := 42) hx hb dX1_decimalIn_92 (by decide) ?_
                      exact ih (i + 1) (v * 10 + d) (by omega) (by omega) (by omega) (by rw [← ha, az_dc_step (T := T) (most := most) (v := v) c45 (by omega) (by omega), show d = T i - 48 by omega]) (by omega) ls (lv_sub hl [3, 4, 5, 6, 1, 0] rfl)
                    · refine lv_iconst (v := -1) hx hb dX1_decimalIn_87 (by decide) ?_
                      exact rt_i hx hb hr (by rw [← ha, az_dc_big (T := T) (most := most) (v := v) c45 (by omega) (by omega)]; rfl) dX1_decimalIn_88 hlocks
                  · refine lv_iconst (v := -1) hx hb dX1_decimalIn_69 (by decide) ?_
                    exact rt_i hx hb hr (by rw [← ha, az_dc_bad (T := T) c45 (by first | exact az_hd_ne hd | omega)]; rfl) dX1_decimalIn_70 hlocks
          exact lp42 _ fr 0 (Nat.le_refl _) (by omega) (Nat.zero_le _) ((az_dc_s (by omega)).symm) (Nat.lt_succ_self _) ls (lv_sub hl [3, 4, 5, 6, 1, 0] rfl)
      · refine lv_iconst (v := nI 1) hx hb dX1_decimalIn_17 (by decide) ?_
        refine lv_goto (tgt := 22) hx hb dX1_decimalIn_18 (by decide) ?_
        refine lv_istore (lv' := [(4, .int (nI 1)), (0, .ref h0), (1, .int (nI fr)), (2, .int (nI to)), (3, .int (nI most))]) hx hb dX1_decimalIn_22 hl (by decide) rfl (fun ls hl => ?_)
        refine lv_iload_n hx hb dX1_decimalIn_24 rfl (lv_at hl 2 rfl) ?_
        refine lv_iload_n hx hb dX1_decimalIn_25 rfl (lv_at hl 3 rfl) ?_
        refine bn_ge (tgt := 34) hx hb dX1_decimalIn_26 (by decide) (by omega) (by omega) (fun c26 => ?_) (fun c26 => ?_)
        · refine lv_iconst (v := -1) hx hb dX1_decimalIn_34 (by decide) ?_
          exact rt_i hx hb hr (by rw [az_dc_n (T := T) (fr := fr) (to := to) (by omega)]; rfl) dX1_decimalIn_35 hlocks
        · refine lv_iload hx hb dX1_decimalIn_29 (lv_at hl 0 rfl) ?_
          refine lv_if_eq (tgt := 36) hx hb dX1_decimalIn_31 (by decide) (fun c => absurd c (by decide)) (fun _ => ?_)
          refine lv_iconst (v := -1) hx hb dX1_decimalIn_34 (by decide) ?_
          exact rt_i hx hb hr (by rw [az_dc_n (T := T) (fr := fr) (to := to) (by omega)]; rfl) dX1_decimalIn_35 hlocks
  · refine rc_Vi (As := [.int (nI fr)]) (rest := []) ⟨hx, hb, hml, hown, hts⟩ (ct_tapeAt_out l dC dI h0 ht hw a1 a2 a3 n w cT f T hT hn fr (Nat.not_lt.mp h2) (by omega)) (cwV 1 hts gX1_decimalIn_X1_tapeAt rfl rfl rfl (by decide +kernel) ⟨Nat.le_of_ble_eq_true rfl, Nat.le_of_ble_eq_true rfl⟩) (hP.sub [0, 1] rfl) (hK.sub [0] rfl) 0 rfl rfl rfl hl.1 rfl (Nat.le_of_ble_eq_true rfl) dX1_decimalIn_2 ⟨(Nat.zero_le _), (Nat.zero_le _)⟩ ?_
    refine lv_bipush (v := nI 48) hx hb dX1_decimalIn_5 (by decide) ?_
    refine lv_icmp_ne (tgt := 21) hx hb dX1_decimalIn_7 (by decide) (fun _ => ?_) (fun c => absurd c (by decide))
    refine lv_iconst (v := nI 0) hx hb dX1_decimalIn_21 (by decide) ?_
    refine lv_istore (lv' := [(4, .int (nI 0)), (0, .ref h0), (1, .int (nI fr)), (2, .int (nI to)), (3, .int (nI most))]) hx hb dX1_decimalIn_22 hl (by decide) rfl (fun ls hl => ?_)
    refine lv_iload_n hx hb dX1_decimalIn_24 rfl (lv_at hl 2 rfl) ?_
    refine lv_iload_n hx hb dX1_decimalIn_25 rfl (lv_at hl 3 rfl) ?_
    refine bn_ge (tgt := 34) hx hb dX1_decimalIn_26 (by decide) (by omega) (by omega) (fun c26 => ?_) (fun c26 => ?_)
    · refine lv_iconst (v := -1) hx hb dX1_decimalIn_34 (by decide) ?_
      exact rt_i hx hb hr (by rw [az_dc_n (T := T) (fr := fr) (to := to) (by omega)]; rfl) dX1_decimalIn_35 hlocks
    · refine lv_iload hx hb dX1_decimalIn_29 (lv_at hl 0 rfl) ?_
      refine lv_if_eq (tgt := 36) hx hb dX1_decimalIn_31 (by decide) (fun _ => ?_) (fun c => absurd c (by decide))
      refine lv_iconst (v := nI 0) hx hb dX1_decimalIn_36 (by decide) ?_
      refine lv_istore (lv' := [(5, .int (nI 0)), (4, .int (nI 0)), (0, .ref h0), (1, .int (nI fr)), (2, .int (nI to)), (3, .int (nI most))]) hx hb dX1_decimalIn_37 hl (by decide) rfl (fun ls hl => ?_)
      refine lv_iload_n hx hb dX1_decimalIn_39 rfl (lv_at hl 3 rfl) ?_
      refine lv_istore (lv' := [(6, .int (nI fr)), (5, .int (nI 0)), (4, .int (nI 0)), (0, .ref h0), (1, .int (nI fr)), (2, .int (nI to)), (3, .int (nI most))]) hx hb dX1_decimalIn_40 hl (by decide) rfl (fun ls hl => ?_)
      have lp42 : ∀ (N : Nat) (i : Nat) (v : Nat), (fr ≤ i) → (i ≤ to) → (v ≤ most) → (az_dcF T most (to - i) i v = az_dc T fr to most) → (to - i) < N → ∀ (ls : Array Slot), lv_has ls 8 [(0, .ref h0), (1, .int (nI fr)), (2, .int (nI to)), (3, .int (nI most)), (5, .int (nI v)), (6, .int (nI i))] → W p l e (headSpec wsX1_decimalIn ({ frames := 2, cells := 0, slots := 0, locals := 43 })).room s m ([.ref h0, .int (nI fr), .int (nI to), .int (nI most)] : List Value).toArray below meth c s.heap [] 0 0 (MQ below (vp_Si (fun r => r = az_o (az_dc T fr to most))) ([.ref h0, .int (nI fr), .int (nI to), .int (nI most)] : List Value).toArray s 0 0 (fun _ => False)) (F0 m 42 ls []) := by
        intro N
        induction N with
        | zero => intro i v hi hi2 hv ha hN; exact absurd hN (Nat.not_lt_zero _)
        | succ N ih =>
          intro i v hi hi2 hv ha hN ls hl
          refine lv_iload hx hb dX1_decimalIn_42 (lv_at hl 5 rfl) ?_
          refine lv_iload_n hx hb dX1_decimalIn_44 rfl (lv_at hl 2 rfl) ?_
          refine bn_ge (tgt := 95) hx hb dX1_decimalIn_45 (by decide) (by omega) (by omega) (fun c45 => ?_) (fun c45 => ?_)
          · refine lv_iload hx hb dX1_decimalIn_95 (lv_at hl 4 rfl) ?_
            exact rt_i hx hb hr (by have h := ha; rw [show to - i = 0 by omega] at h; exact congrArg az_o h) dX1_decimalIn_97 hlocks
          · have hin : i < n := Nat.lt_of_lt_of_le c45 hto
            refine lv_aload_n hx hb dX1_decimalIn_48 rfl (lv_at hl 0 rfl) ?_
            refine lv_iload hx hb dX1_decimalIn_49 (lv_at hl 5 rfl) ?_
            refine rc_Vi (As := [.int (nI i)]) (rest := []) ⟨hx, hb, hml, hown, hts⟩ (ct_digitAt l dC dI h0 ht hw a1 a2 a3 n w cT f T hT hn i hin) (cwV 1 hts gX1_decimalIn_X1_digitAt rfl rfl rfl (by decide +kernel) ⟨Nat.le_of_ble_eq_true rfl, Nat.le_of_ble_eq_true rfl⟩) (hP.sub [0, 1] rfl) (hK.sub [0] rfl) 0 rfl rfl rfl hl.1 rfl (Nat.le_of_ble_eq_true rfl) dX1_decimalIn_51 ⟨(Nat.zero_le _), (Nat.zero_le _)⟩ ?_
            rcases hd : az_hd (T i) with _ | d
            · refine tp_i (-1) (rfl) ?_
              refine lv_istore (lv' := [(7, .int (-1)), (0, .ref h0), (1, .int (nI fr)), (2, .int (nI to)), (3, .int (nI most)), (5, .int (nI v)), (6, .int (nI i))]) hx hb dX1_decimalIn_54 hl (by decide) rfl (fun ls hl => ?_)
              refine lv_iload hx hb dX1_decimalIn_56 (lv_at hl 0 rfl) ?_
              refine lv_iconst (v := -1) hx hb dX1_decimalIn_58 (by decide) ?_
              refine lv_icmp_eq (tgt := 69) hx hb dX1_decimalIn_59 (by decide) (fun _ => ?_) (fun c => absurd c (by decide))
              refine lv_iconst (v := -1) hx hb dX1_decimalIn_69 (by decide) ?_
              exact rt_i hx hb hr (by rw [← ha, az_dc_bad (T := T) c45 (by first | exact az_hd_ne hd | omega)]; rfl) dX1_decimalIn_70 hlocks
            · have hq := az_hd_q hd
              refine tp_i (nI d) (rfl) ?_
              refine lv_istore (lv' := [(7, .int (nI d)), (0, .ref h0), (1, .int (nI fr)), (2, .int (nI to)), (3, .int (nI most)), (5, .int (nI v)), (6, .int (nI i))]) hx hb dX1_decimalIn_54 hl (by decide) rfl (fun ls hl => ?_)
              refine lv_iload hx hb dX1_decimalIn_56 (lv_at hl 0 rfl) ?_
              refine lv_iconst (v := -1) hx hb dX1_decimalIn_58 (by decide) ?_
              refine lv_icmp_eq (tgt := 69) hx hb dX1_decimalIn_59 (by decide) (fun c => absurd c (nI_m1 (by omega))) (fun _ => ?_)
              refine lv_iload hx hb dX1_decimalIn_62 (lv_at hl 0 rfl) ?_
              refine lv_bipush (v := nI 9) hx hb dX1_decimalIn_64 (by decide) ?_
              refine bn_le (tgt := 71) hx hb dX1_decimalIn_66 (by decide) (by omega) (by omega) (fun c66 => ?_) (fun c66 => ?_)
              · refine lv_iload hx hb dX1_decimalIn_71 (lv_at hl 5 rfl) ?_
                refine lv_bipush (v := nI 10) hx hb dX1_decimalIn_73 (by decide) ?_
                refine lv_imul hx hb dX1_decimalIn_75 ?_
                refine tp_i (nI (v * 10)) (pk_mul _ _) ?_
                refine lv_iload hx hb dX1_decimalIn_76 (lv_at hl 0 rfl) ?_
                refine lv_iadd hx hb dX1_decimalIn_78 ?_
                refine tp_i (nI ((v * 10) + d)) (nI_add _ _) ?_
                refine lv_istore (lv' := [(5, .int (nI ((v * 10) + d))), (7, .int (nI d)), (0, .ref h0), (1, .int (nI fr)), (2, .int (nI to)), (3, .int (nI most)), (6, .int (nI i))]) hx hb dX1_decimalIn_79 hl (by decide) rfl (fun ls hl => ?_)
                refine lv_iload hx hb dX1_decimalIn_81 (lv_at hl 0 rfl) ?_
                refine lv_iload_n hx hb dX1_decimalIn_83 rfl (lv_at hl 5 rfl) ?_
                refine bn_le (tgt := 89) hx hb dX1_decimalIn_84 (by decide) (by omega) (by omega) (fun c84 => ?_) (fun c84 => ?_)
                · refine lv_iinc (v := nI (i + 1)) (lv' := [(6, .int (nI (i + 1))), (5, .int (nI ((v * 10) + d))), (7, .int (nI d)), (0, .ref h0), (1, .int (nI fr)), (2, .int (nI to)), (3, .int (nI most))]) hx hb dX1_decimalIn_89 hl (k := 6) rfl (nI_add _ 1) (by decide) rfl (fun ls hl => ?_)
                  refine lv_goto (tgt := 42) hx hb dX1_decimalIn_92 (by decide) ?_
                  exact ih (i + 1) (v * 10 + d) (by omega) (by omega) (by omega) (by rw [← ha, az_dc_step (T := T) (most := most) (v := v) c45 (by omega) (by omega), show d = T i - 48 by omega]) (by omega) ls (lv_sub hl [3, 4, 5, 6, 1, 0] rfl)
                · refine lv_iconst (v := -1) hx hb dX1_decimalIn_87 (by decide) ?_
                  exact rt_i hx hb hr (by rw [← ha, az_dc_big (T := T) (most := most) (v := v) c45 (by omega) (by omega)]; rfl) dX1_decimalIn_88 hlocks
              · refine lv_iconst (v := -1) hx hb dX1_decimalIn_69 (by decide) ?_
                exact rt_i hx hb hr (by rw [← ha, az_dc_bad (T := T) c45 (by first | exact az_hd_ne hd | omega)]; rfl) dX1_decimalIn_70 hlocks
      exact lp42 _ fr 0 (Nat.le_refl _) (by omega) (Nat.zero_le _) ((az_dc_s (by omega)).symm) (Nat.lt_succ_self _) ls (lv_sub hl [3, 4, 5, 6, 1, 0] rfl)
set_option maxRecDepth 100000 in
set_option maxHeartbeats 4000000 in
/-- hexadecimalIn(from, to) -/
theorem ct_hexadecimalIn (l : Launch) (dC : Nat → ClassId) (dI : Nat → Nat → Nat) (h0 ht hw a1 a2 a3 n w : Nat) (cT : ClassId) (f : Nat → Int32) (T : Nat → Nat) (hT : az_tp f T n) (hn : n ≤ 60) (fr to : Nat) (hfr : fr < 2147483648) (hto : to ≤ n) : Met l yX1_hexadecimalIn wsX1_hexadecimalIn ({ frames := 2, cells := 0, slots := 0, locals := 43 }) (rd_P (dC, dI) azCl [(h0, .inr (1, [.ref ht, .int (nI n), .ref hw, .int (nI w), .ref a1, .ref a2, .ref a3])), (ht, .inl (cT, 60, .inl f))] [(cT, .byte)] [.ref h0, .int (nI fr), .int (nI to)]) (vp_Si (fun r => r = az_o (az_hx T fr to))) 0 0 (fun _ => False) := by
  refine Met.ofW (cc := cX1_hexadecimalIn) (maxL := 6) (ret := (some .int)) (by decide) rfl ?_
  intro p e s m args below meth c s₁ Bd hml hv
  obtain ⟨rfl, hP, hK⟩ := hv
  have hx := Bd.exec
  have hb := Bd.bytes
  have hr := Bd.returns
  have hts := atoms_spec (ws := wsX1_hexadecimalIn) Bd.pre
  have hown : s.vm.findClass RX1 = some m.cls := findClass_of_methodNamed Bd.named
  have hlocks := Bd.notSynchronized
  have hl := lv_entry ([.ref h0, .int (nI fr), .int (nI to)]) (n := 6) (Nat.le_of_ble_eq_true rfl)
  rw [lg_entry_eq]
  generalize (lg_sl ([.ref h0, .int (nI fr), .int (nI to)]) ++ List.replicate (6 - (lg_sl ([.ref h0, .int (nI fr), .int (nI to)])).length) Slot.unset).toArray = ls at hl ⊢
  have hl : lv_has ls 6 [(0, .ref h0), (1, .int (nI fr)), (2, .int (nI to))] := hl
  refine lv_iload_n hx hb dX1_hexadecimalIn_0 rfl (lv_at hl 1 rfl) ?_
  refine lv_iload_n hx hb dX1_hexadecimalIn_1 rfl (lv_at hl 2 rfl) ?_
  refine bn_ge (tgt := 12) hx hb dX1_hexadecimalIn_2 (by decide) (by omega) (by omega) (fun c2 => ?_) (fun c2 => ?_)
  · refine lv_iconst (v := -1) hx hb dX1_hexadecimalIn_12 (by decide) ?_
    exact rt_i hx hb hr (by rw [az_hx_n (T := T) (fr := fr) (to := to) (by omega)]; rfl) dX1_hexadecimalIn_13 hlocks
  · refine lv_iload_n hx hb dX1_hexadecimalIn_5 rfl (lv_at hl 2 rfl) ?_
    refine lv_iload_n hx hb dX1_hexadecimalIn_6 rfl (lv_at hl 1 rfl) ?_
    refine lv_isub hx hb dX1_hexadecimalIn_7 ?_
    refine tp_i (nI (to - fr)) (pk_sub (by omega)) ?_
    refine lv_iconst (v := nI 4) hx hb dX1_hexadecimalIn_8 (by decide) ?_
    refine bn_le (tgt := 14) hx hb dX1_hexadecimalIn_9 (by decide) (by omega) (by omega) (fun c9 => ?_) (fun c9 => ?_)
    · refine lv_iconst (v := nI 0) hx hb dX1_hexadecimalIn_14 (by decide) ?_
      refine lv_istore_n (lv' := [(3, .int (nI 0)), (0, .ref h0), (1, .int (nI fr)), (2, .int (nI to))]) hx hb dX1_hexadecimalIn_15 rfl hl (by decide) rfl (fun ls hl => ?_)
      refine lv_iload_n hx hb dX1_hexadecimalIn_16 rfl (lv_at hl 2 rfl) ?_
      refine lv_istore (lv' := [(4, .int (nI fr)), (3, .int (nI 0)), (0, .ref h0), (1, .int (nI fr)), (2, .int (nI to))]) hx hb dX1_hexadecimalIn_17 hl (by decide) rfl (fun ls hl => ?_)
      have lp19 : ∀ (N : Nat) (i : Nat) (v : Nat), (fr ≤ i) → (i ≤ to) → (v < 16 ^ (i - fr)) → (az_hxF T (to - i) i v = az_hx T fr to) → (to - i) < N → ∀ (ls : Array Slot), lv_has ls 6 [(0, .ref h0), (1, .int (nI fr)), (2, .int (nI to)), (3, .int (nI v)), (4, .int (nI i))] → W p l e (headSpec wsX1_hexadecimalIn ({ frames := 2, cells := 0, slots := 0, locals := 43 })).room s m ([.ref h0, .int (nI fr), .int (nI to)] : List Value).toArray below meth c s.heap [] 0 0 (MQ below (vp_Si (fun r => r = az_o (az_hx T fr to))) ([.ref h0, .int (nI fr), .int (nI to)] : List Value).toArray s 0 0 (fun _ => False)) (F0 m 19 ls []) := by
        intro N
        induction N with
        | zero => intro i v hi hi2 hv ha hN; exact absurd hN (Nat.not_lt_zero _)
        | succ N ih =>
          intro i v hi hi2 hv ha hN ls hl
          refine lv_iload hx hb dX1_hexadecimalIn_19 (lv_at hl 4 rfl) ?_
          refine lv_iload_n hx hb dX1_hexadecimalIn_21 rfl (lv_at hl 2 rfl) ?_
          refine bn_ge (tgt := 54) hx hb dX1_hexadecimalIn_22 (by decide) (by omega) (by omega) (fun c22 => ?_) (fun c22 => ?_)
          · refine lv_iload_n hx hb dX1_hexadecimalIn_54 rfl (lv_at hl 3 rfl) ?_
            exact rt_i hx hb hr (by have h := ha; rw [show to - i = 0 by omega] at h; exact congrArg az_o h) dX1_hexadecimalIn_55 hlocks
          · have hin : i < n := Nat.lt_of_lt_of_le c22 hto
            have hv4 : 16 ^ (i - fr) ≤ 4096 := az_p16 (by omega)
            refine lv_aload_n hx hb dX1_hexadecimalIn_25 rfl (lv_at hl 0 rfl) ?_
            refine lv_iload hx hb dX1_hexadecimalIn_26 (lv_at hl 4 rfl) ?_
            refine rc_Vi (As := [.int (nI i)]) (rest := []) ⟨hx, hb, hml, hown, hts⟩ (ct_digitAt l dC dI h0 ht hw a1 a2 a3 n w cT f T hT hn i hin) (cwV 1 hts gX1_hexadecimalIn_X1_digitAt rfl rfl rfl (by decide +kernel) ⟨Nat.le_of_ble_eq_true rfl, Nat.le_of_ble_eq_true rfl⟩) (hP.sub [0, 1] rfl) (hK.sub [0] rfl) 0 rfl rfl rfl hl.1 rfl (Nat.le_of_ble_eq_true rfl) dX1_hexadecimalIn_28 ⟨(Nat.zero_le _), (Nat.zero_le _)⟩ ?_
            rcases hd : az_hd (T i) with _ | d
            · refine tp_i (-1) (rfl) ?_
              refine lv_istore (lv' := [(5, .int (-1)), (0, .ref h0), (1, .int (nI fr)), (2, .int (nI to)), (3, .int (nI v)), (4, .int (nI i))]) hx hb dX1_hexadecimalIn_31 hl (by decide) rfl (fun ls hl => ?_)
              refine lv_iload hx hb dX1_hexadecimalIn_33 (lv_at hl 0 rfl) ?_
              refine lv_iconst (v := -1) hx hb dX1_hexadecimalIn_35 (by decide) ?_
              refine lv_icmp_ne (tgt := 41) hx hb dX1_hexadecimalIn_36 (by decide) (fun c => absurd c (by decide)) (fun _ => ?_)
              refine lv_iconst (v := -1) hx hb dX1_hexadecimalIn_39 (by decide) ?_
              exact rt_i hx hb hr (by rw [← ha, az_hx_bad c22 hd]; rfl) dX1_hexadecimalIn_40 hlocks
            · have hq := az_hd_q hd
              refine tp_i (nI d) (rfl) ?_
              refine lv_istore (lv' := [(5, .int (nI d)), (0, .ref h0), (1, .int (nI fr)), (2, .int (nI to)), (3, .int (nI v)), (4, .int (nI i))]) hx hb dX1_hexadecimalIn_31 hl (by decide) rfl (fun ls hl => ?_)
              refine lv_iload hx hb dX1_hexadecimalIn_33 (lv_at hl 0 rfl) ?_
              refine lv_iconst (v := -1) hx hb dX1_hexadecimalIn_35 (by decide) ?_
              refine lv_icmp_ne (tgt := 41) hx hb dX1_hexadecimalIn_36 (by decide) (fun _ => ?_) (fun c => absurd c (nI_m1 (by omega)))
              refine lv_iload_n hx hb dX1_hexadecimalIn_41 rfl (lv_at hl 4 rfl) ?_
              refine lv_iconst (v := nI 4) hx hb dX1_hexadecimalIn_42 (by decide) ?_
              refine lv_ishl hx hb dX1_hexadecimalIn_43 ?_
              refine tp_i (nI (v * 16)) (pk_shlN _ 4 (by decide) (by omega)) ?_
              refine lv_iload hx hb dX1_hexadecimalIn_44 (lv_at hl 0 rfl) ?_
              refine lv_ior hx hb dX1_hexadecimalIn_46 ?_
              refine tp_i (nI (v * 16 + d)) (az_or16 (by omega)) ?_
              refine lv_istore_n (lv' := [(3, .int (nI (v * 16 + d))), (5, .int (nI d)), (0, .ref h0), (1, .int (nI fr)), (2, .int (nI to)), (4, .int (nI i))]) hx hb dX1_hexadecimalIn_47 rfl hl (by decide) rfl (fun ls hl => ?_)
              refine lv_iinc (v := nI (i + 1)) (lv' := [(4, .int (nI (i + 1))), (3, .int (nI (v * 16 + d))), (5, .int (nI d)), (0, .ref h0), (1, .int (nI fr)), (2, .int (nI to))]) hx hb dX1_hexadecimalIn_48 hl (k := 5) rfl (nI_add _ 1) (by decide) rfl (fun ls hl => ?_)
              refine lv_goto (tgt := 19) hx hb dX1_hexadecimalIn_51 (by decide) ?_
              exact ih (i + 1) (v * 16 + d) (by omega) (by omega) (by rw [show i + 1 - fr = (i - fr) + 1 by omega]; exact az_p16s hv (by omega)) (by rw [← ha, az_hx_step c22 hd]) (by omega) ls (lv_sub hl [3, 4, 5, 1, 0] rfl)
      exact lp19 _ fr 0 (Nat.le_refl _) (by omega) (by rw [Nat.sub_self]; decide) ((az_hx_s (by omega) (by omega)).symm) (Nat.lt_succ_self _) ls (lv_sub hl [2, 3, 4, 1, 0] rfl)
    · refine lv_iconst (v := -1) hx hb dX1_hexadecimalIn_12 (by decide) ?_
      exact rt_i hx hb hr (by rw [az_hx_n (T := T) (fr := fr) (to := to) (by omega)]; rfl) dX1_hexadecimalIn_13 hlocks
