set_option maxRecDepth 100000 in
set_option maxHeartbeats 4000000 in
/-- bit(which, k) -/
theorem ct_m_bit (l : Launch) (dC : Nat → ClassId) (dI : Nat → Nat → Nat) (m0 mt mb mf ml mp mo n w : Nat) (xm xg : Int32) (dF : ClassId) (Fm : Nat → Int32) (dB : ClassId) (B : Nat → Int32) (wh k f V : Nat) (hwh : wh < 2) (hf : Fm wh = nI f) (hf6 : f ≤ 6) (hB : az_by B (16 * wh) V) (hk : k < az_wl f) : Met l yXM_bit wsXM_bit ({ frames := 0, cells := 0, slots := 0, locals := 0 }) (rd_P (dC, dI) azCl [(m0, .inr (2, [.ref mt, .int (nI n), .ref mb, .ref mf, .ref ml, .ref mp, .int xm, .int xg, .ref mo, .int (nI w)])), (mf, .inl (dF, 2, .inl Fm)), (mb, .inl (dB, 32, .inl B))] [(dF, .int), (dB, .int)] [.ref m0, .int (nI wh), .int (nI k)]) (vp_Si (fun r => r = nI (az_bit f V k))) 0 0 (fun _ => False) := by
  refine Met.ofW (cc := cXM_bit) (maxL := 4) (ret := (some .int)) (by decide) rfl ?_
  intro p e s m args below meth c s₁ Bd hml hv
  obtain ⟨rfl, hP, hK⟩ := hv
  have hx := Bd.exec
  have hb := Bd.bytes
  have hr := Bd.returns
  have hts := atoms_spec (ws := wsXM_bit) Bd.pre
  have hown : s.vm.findClass RXM = some m.cls := findClass_of_methodNamed Bd.named
  have hlocks := Bd.notSynchronized
  have hiXM : ∀ w ∈ wsXM0, w ∈ wsXM_bit := by decide +kernel
  have hf16 := hts (.fieldLink RXM 16 "AddressTextsModel" "family" "[I") (by decide +kernel)
  have hf13 := hts (.fieldLink RXM 13 "AddressTextsModel" "bytes" "[I") (by decide +kernel)
  have hl := lv_entry ([.ref m0, .int (nI wh), .int (nI k)]) (n := 4) (Nat.le_of_ble_eq_true rfl)
  rw [lg_entry_eq]
  generalize (lg_sl ([.ref m0, .int (nI wh), .int (nI k)]) ++ List.replicate (4 - (lg_sl ([.ref m0, .int (nI wh), .int (nI k)])).length) Slot.unset).toArray = ls at hl ⊢
  have hl : lv_has ls 4 [(0, .ref m0), (1, .int (nI wh)), (2, .int (nI k))] := hl
  have hwl := az_wl_le f
  refine lv_aload_n hx hb dXM_bit_0 rfl (lv_at hl 0 rfl) ?_
  refine va_get (D := (dC, dI)) (ci := 2) (v := .ref mf) (C := RXM) (T := TXM) (N := 10) hx hb hts hiXM hown hK hP 0 rfl rfl 3 (by decide) hf16 (fun _ h9 => h9) rfl dXM_bit_1 ?_
  refine lv_iload_n hx hb dXM_bit_4 rfl (lv_at hl 1 rfl) ?_
  refine ld_i hx hb hK hP 1 0 rfl rfl (by omega) (by omega) dXM_bit_5 ?_
  refine tp_i (nI f) (hf) ?_
  refine lv_iconst (v := nI 4) hx hb dXM_bit_6 (by decide) ?_
  refine bn_ne (tgt := 17) hx hb dXM_bit_7 (by decide) (by omega) (by omega) (fun c7 => ?_) (fun c7 => ?_)
  · refine lv_iload_n hx hb dXM_bit_17 rfl (lv_at hl 2 rfl) ?_
    refine lv_istore_n (lv' := [(3, .int (nI k)), (0, .ref m0), (1, .int (nI wh)), (2, .int (nI k))]) hx hb dXM_bit_18 rfl hl (by decide) rfl (fun ls hl => ?_)
    obtain ⟨at_, hat⟩ : ∃ z, z = k := ⟨_, rfl⟩
    rw [← hat] at hl
    have h127 : at_ < 128 ∧ 127 - at_ = az_wl f - 1 - k := by first | (subst c7; have : az_wl 4 = 32 := rfl; omega) | (have := az_wl_n c7; omega)
    refine lv_aload_n hx hb dXM_bit_19 rfl (lv_at hl 1 rfl) ?_
    refine va_get (D := (dC, dI)) (ci := 2) (v := .ref mb) (C := RXM) (T := TXM) (N := 10) hx hb hts hiXM hown hK hP 0 rfl rfl 2 (by decide) hf13 (fun _ h9 => h9) rfl dXM_bit_20 ?_
    refine lv_bipush (v := nI 16) hx hb dXM_bit_23 (by decide) ?_
    refine lv_iload_n hx hb dXM_bit_25 rfl (lv_at hl 2 rfl) ?_
    refine lv_imul hx hb dXM_bit_26 ?_
    refine tp_i (nI (16 * wh)) (pk_mul _ _) ?_
    refine lv_iload_n hx hb dXM_bit_27 rfl (lv_at hl 0 rfl) ?_
    refine lv_bipush (v := nI 8) hx hb dXM_bit_28 (by decide) ?_
    refine lv_idiv hx hb dXM_bit_30 (by decide) ?_
    refine tp_i (nI (at_ / 8)) (pk_div (by omega) (by omega) (by omega)) ?_
    refine lv_iadd hx hb dXM_bit_31 ?_
    refine tp_i (nI ((16 * wh) + (at_ / 8))) (nI_add _ _) ?_
    refine ld_i hx hb hK hP 2 1 rfl rfl (by omega) (by omega) dXM_bit_32 ?_
    refine tp_i (nI (az_byte V (at_ / 8))) (hB (at_ / 8) (by omega)) ?_
    refine lv_bipush (v := nI 7) hx hb dXM_bit_33 (by decide) ?_
    refine lv_iload_n hx hb dXM_bit_35 rfl (lv_at hl 0 rfl) ?_
    refine lv_bipush (v := nI 8) hx hb dXM_bit_36 (by decide) ?_
    refine lv_irem hx hb dXM_bit_38 (by decide) ?_
    refine tp_i (nI (at_ % 8)) (pk_rem (by omega) (by omega) (by omega)) ?_
    refine lv_isub hx hb dXM_bit_39 ?_
    refine tp_i (nI (7 - (at_ % 8))) (pk_sub (by omega)) ?_
    refine lv_ishr hx hb dXM_bit_40 ?_
    refine tp_i (nI (az_byte V (at_ / 8) / 2 ^ (7 - at_ % 8))) (pk_shrN (by have := az_byte_lt V (at_ / 8); omega) _ _ (s_l _ (by omega))) ?_
    refine lv_iconst (v := nI 1) hx hb dXM_bit_41 (by decide) ?_
    refine lv_iand hx hb dXM_bit_42 ?_
    refine tp_i (nI (az_bit f V k)) ((pk_andN (by have := az_byte_lt V (at_ / 8); have := Nat.div_le_self (az_byte V (at_ / 8)) (2 ^ (7 - at_ % 8)); omega) 1 (by decide)).trans (congrArg nI (by unfold az_bit; rw [← h127.2]; exact az_bit_e h127.1))) ?_
    exact rt_i hx hb hr (rfl) dXM_bit_43 hlocks
  · refine lv_bipush (v := nI 96) hx hb dXM_bit_10 (by decide) ?_
    refine lv_iload_n hx hb dXM_bit_12 rfl (lv_at hl 2 rfl) ?_
    refine lv_iadd hx hb dXM_bit_13 ?_
    refine tp_i (nI (96 + k)) (nI_add _ _) ?_
    refine lv_goto (tgt := 18) hx hb dXM_bit_14 (by decide) ?_
    refine lv_istore_n (lv' := [(3, .int (nI (96 + k))), (0, .ref m0), (1, .int (nI wh)), (2, .int (nI k))]) hx hb dXM_bit_18 rfl hl (by decide) rfl (fun ls hl => ?_)
    obtain ⟨at_, hat⟩ : ∃ z, z = 96 + k := ⟨_, rfl⟩
    rw [← hat] at hl
    have h127 : at_ < 128 ∧ 127 - at_ = az_wl f - 1 - k := by first | (subst c7; have : az_wl 4 = 32 := rfl; omega) | (have := az_wl_n c7; omega)
    refine lv_aload_n hx hb dXM_bit_19 rfl (lv_at hl 1 rfl) ?_
    refine va_get (D := (dC, dI)) (ci := 2) (v := .ref mb) (C := RXM) (T := TXM) (N := 10) hx hb hts hiXM hown hK hP 0 rfl rfl 2 (by decide) hf13 (fun _ h9 => h9) rfl dXM_bit_20 ?_
    refine lv_bipush (v := nI 16) hx hb dXM_bit_23 (by decide) ?_
    refine lv_iload_n hx hb dXM_bit_25 rfl (lv_at hl 2 rfl) ?_
    refine lv_imul hx hb dXM_bit_26 ?_
    refine tp_i (nI (16 * wh)) (pk_mul _ _) ?_
    refine lv_iload_n hx hb dXM_bit_27 rfl (lv_at hl 0 rfl) ?_
    refine lv_bipush (v := nI 8) hx hb dXM_bit_28 (by decide) ?_
    refine lv_idiv hx hb dXM_bit_30 (by decide) ?_
    refine tp_i (nI (at_ / 8)) (pk_div (by omega) (by omega) (by omega)) ?_
    refine lv_iadd hx hb dXM_bit_31 ?_
    refine tp_i (nI ((16 * wh) + (at_ / 8))) (nI_add _ _) ?_
    refine ld_i hx hb hK hP 2 1 rfl rfl (by omega) (by omega) dXM_bit_32 ?_
    refine tp_i (nI (az_byte V (at_ / 8))) (hB (at_ / 8) (by omega)) ?_
    refine lv_bipush (v := nI 7) hx hb dXM_bit_33 (by decide) ?_
    refine lv_iload_n hx hb dXM_bit_35 rfl (lv_at hl 0 rfl) ?_
    refine lv_bipush (v := nI 8) hx hb dXM_bit_36 (by decide) ?_
    refine lv_irem hx hb dXM_bit_38 (by decide) ?_
    refine tp_i (nI (at_ % 8)) (pk_rem (by omega) (by omega) (by omega)) ?_
    refine lv_isub hx hb dXM_bit_39 ?_
    refine tp_i (nI (7 - (at_ % 8))) (pk_sub (by omega)) ?_
    refine lv_ishr hx hb dXM_bit_40 ?_
    refine tp_i (nI (az_byte V (at_ / 8) / 2 ^ (7 - at_ % 8))) (pk_shrN (by have := az_byte_lt V (at_ / 8); omega) _ _ (s_l _ (by omega))) ?_
    refine lv_iconst (v := nI 1) hx hb dXM_bit_41 (by decide) ?_
    refine lv_iand hx hb dXM_bit_42 ?_
    refine tp_i (nI (az_bit f V k)) ((pk_andN (by have := az_byte_lt V (at_ / 8); have := Nat.div_le_self (az_byte V (at_ / 8)) (2 ^ (7 - at_ % 8)); omega) 1 (by decide)).trans (congrArg nI (by unfold az_bit; rw [← h127.2]; exact az_bit_e h127.1))) ?_
    exact rt_i hx hb hr (rfl) dXM_bit_43 hlocks
set_option maxRecDepth 100000 in
set_option maxHeartbeats 4000000 in
/-- covers() -/
theorem ct_m_covers (l : Launch) (dC : Nat → ClassId) (dI : Nat → Nat → Nat) (m0 mt mb mf ml mp mo n w : Nat) (xm xg : Int32) (dB : ClassId) (B : Nat → Int32) (dF : ClassId) (Fm : Nat → Int32) (dL : ClassId) (Ln : Nat → Int32) (f1 l1 V1 f2 l2 V2 : Nat) (h1 : az_ad f1 l1 V1) (h2 : az_ad f2 l2 V2) (hF0 : Fm 0 = nI f1) (hF1 : Fm 1 = nI f2) (hL0 : Ln 0 = nI l1) (hL1 : Ln 1 = nI l2) (hB0 : az_by B 0 V1) (hB1 : az_by B 16 V2) : Met l yXM_covers wsXM_covers ({ frames := 1, cells := 0, slots := 0, locals := 23 }) (rd_P (dC, dI) azCl [(m0, .inr (2, [.ref mt, .int (nI n), .ref mb, .ref mf, .ref ml, .ref mp, .int xm, .int xg, .ref mo, .int (nI w)])), (mb, .inl (dB, 32, .inl B)), (mf, .inl (dF, 2, .inl Fm)), (ml, .inl (dL, 2, .inl Ln))] [(dB, .int), (dF, .int), (dL, .int)] [.ref m0]) (vp_Si (fun r => r = az_b (f1 = f2 ∧ l1 ≤ l2 ∧ az_cut V1 (az_wl f1 - l1) = az_cut V2 (az_wl f1 - l1)))) 0 0 (fun _ => False) := by
  refine Met.ofW (cc := cXM_covers) (maxL := 3) (ret := (some .boolean)) (by decide) rfl ?_
  intro p e s m args below meth c s₁ Bd hml hv
  obtain ⟨rfl, hP, hK⟩ := hv
  have hx := Bd.exec
  have hb := Bd.bytes
  have hr := Bd.returns
  have hts := atoms_spec (ws := wsXM_covers) Bd.pre
  have hown : s.vm.findClass RXM = some m.cls := findClass_of_methodNamed Bd.named
  have hlocks := Bd.notSynchronized
  have hiXM : ∀ w ∈ wsXM0, w ∈ wsXM_covers := by decide +kernel
  have hf16 := hts (.fieldLink RXM 16 "AddressTextsModel" "family" "[I") (by decide +kernel)
  have hf19 := hts (.fieldLink RXM 19 "AddressTextsModel" "length" "[I") (by decide +kernel)
  have hl := lv_entry ([.ref m0]) (n := 3) (Nat.le_of_ble_eq_true rfl)
  rw [lg_entry_eq]
  generalize (lg_sl ([.ref m0]) ++ List.replicate (3 - (lg_sl ([.ref m0])).length) Slot.unset).toArray = ls at hl ⊢
  have hl : lv_has ls 3 [(0, .ref m0)] := hl
  have hV := az_ad_V h1
  have hU := az_ad_V h2
  have hf1 := az_ad_6 h1
  have hf2 := az_ad_6 h2
  have hl1 := h1.2
  have hl2 := h2.2
  have hw1 := az_wl_le f1
  have hw2 := az_wl_le f2
  refine lv_aload_n hx hb dXM_covers_0 rfl (lv_at hl 0 rfl) ?_
  refine va_get (D := (dC, dI)) (ci := 2) (v := .ref mf) (C := RXM) (T := TXM) (N := 10) hx hb hts hiXM hown hK hP 0 rfl rfl 3 (by decide) hf16 (fun _ h9 => h9) rfl dXM_covers_1 ?_
  refine lv_iconst (v := nI 0) hx hb dXM_covers_4 (by decide) ?_
  refine ld_i hx hb hK hP 2 1 rfl rfl (by omega) (by omega) dXM_covers_5 ?_
  refine tp_i (nI f1) (hF0) ?_
  refine lv_aload_n hx hb dXM_covers_6 rfl (lv_at hl 0 rfl) ?_
  refine va_get (D := (dC, dI)) (ci := 2) (v := .ref mf) (C := RXM) (T := TXM) (N := 10) hx hb hts hiXM hown hK hP 0 rfl rfl 3 (by decide) hf16 (fun _ h9 => h9) rfl dXM_covers_7 ?_
  refine lv_iconst (v := nI 1) hx hb dXM_covers_10 (by decide) ?_
  refine ld_i hx hb hK hP 2 1 rfl rfl (by omega) (by omega) dXM_covers_11 ?_
  refine tp_i (nI f2) (hF1) ?_
  refine bn_ne (tgt := 34) hx hb dXM_covers_12 (by decide) (by omega) (by omega) (fun c12 => ?_) (fun c12 => ?_)
  · refine lv_iconst (v := nI 0) hx hb dXM_covers_34 (by decide) ?_
    refine lv_istore_n (lv' := [(1, .int (nI 0)), (0, .ref m0)]) hx hb dXM_covers_35 rfl hl (by decide) rfl (fun ls hl => ?_)
    refine lv_iconst (v := nI 0) hx hb dXM_covers_36 (by decide) ?_
    refine lv_istore_n (lv' := [(2, .int (nI 0)), (1, .int (nI 0)), (0, .ref m0)]) hx hb dXM_covers_37 rfl hl (by decide) rfl (fun ls hl => ?_)
    refine lv_iload_n hx hb dXM_covers_38 rfl (lv_at hl 0 rfl) ?_
    refine lv_aload_n hx hb dXM_covers_39 rfl (lv_at hl 2 rfl) ?_
    refine va_get (D := (dC, dI)) (ci := 2) (v := .ref ml) (C := RXM) (T := TXM) (N := 10) hx hb hts hiXM hown hK hP 0 rfl rfl 4 (by decide) hf19 (fun _ h9 => h9) rfl dXM_covers_40 ?_
    refine lv_iconst (v := nI 0) hx hb dXM_covers_43 (by decide) ?_
    refine ld_i hx hb hK hP 3 2 rfl rfl (by omega) (by omega) dXM_covers_44 ?_
    refine tp_i (nI l1) (hL0) ?_
    refine bn_ge (tgt := 79) hx hb dXM_covers_45 (by decide) (by omega) (by omega) (fun c45 => ?_) (fun c45 => ?_)
    · refine lv_iload_n hx hb dXM_covers_79 rfl (lv_at hl 1 rfl) ?_
      exact rt_z hx hb hr (by first | rfl | (rcases hi with ⟨hi, _⟩ | ⟨hi, _⟩ <;> (subst hi; rfl))) ((az_b_f (fun q => by first | exact c12 q.1 | exact absurd q.2.1 (by omega))).symm) dXM_covers_80 hlocks
    · refine lv_iload_n hx hb dXM_covers_48 rfl (lv_at hl 1 rfl) ?_
      refine lv_if_eq (tgt := 79) hx hb dXM_covers_49 (by decide) (fun _ => ?_) (fun c => absurd c (by decide))
      refine lv_iload_n hx hb dXM_covers_79 rfl (lv_at hl 1 rfl) ?_
      exact rt_z hx hb hr (by first | rfl | (rcases hi with ⟨hi, _⟩ | ⟨hi, _⟩ <;> (subst hi; rfl))) ((az_b_f (fun q => by first | exact c12 q.1 | exact absurd q.2.1 (by omega))).symm) dXM_covers_80 hlocks
  · refine lv_aload_n hx hb dXM_covers_15 rfl (lv_at hl 0 rfl) ?_
    refine va_get (D := (dC, dI)) (ci := 2) (v := .ref ml) (C := RXM) (T := TXM) (N := 10) hx hb hts hiXM hown hK hP 0 rfl rfl 4 (by decide) hf19 (fun _ h9 => h9) rfl dXM_covers_16 ?_
    refine lv_iconst (v := nI 0) hx hb dXM_covers_19 (by decide) ?_
    refine ld_i hx hb hK hP 3 2 rfl rfl (by omega) (by omega) dXM_covers_20 ?_
    refine tp_i (nI l1) (hL0) ?_
    refine lv_aload_n hx hb dXM_covers_21 rfl (lv_at hl 0 rfl) ?_
    refine va_get (D := (dC, dI)) (ci := 2) (v := .ref ml) (C := RXM) (T := TXM) (N := 10) hx hb hts hiXM hown hK hP 0 rfl rfl 4 (by decide) hf19 (fun _ h9 => h9) rfl dXM_covers_22 ?_
    refine lv_iconst (v := nI 1) hx hb dXM_covers_25 (by decide) ?_
    refine ld_i hx hb hK hP 3 2 rfl rfl (by omega) (by omega) dXM_covers_26 ?_
    refine tp_i (nI l2) (hL1) ?_
    refine bn_gt (tgt := 34) hx hb dXM_covers_27 (by decide) (by omega) (by omega) (fun c27 => ?_) (fun c27 => ?_)
    · refine lv_iconst (v := nI 0) hx hb dXM_covers_34 (by decide) ?_
      refine lv_istore_n (lv' := [(1, .int (nI 0)), (0, .ref m0)]) hx hb dXM_covers_35 rfl hl (by decide) rfl (fun ls hl => ?_)
      refine lv_iconst (v := nI 0) hx hb dXM_covers_36 (by decide) ?_
      refine lv_istore_n (lv' := [(2, .int (nI 0)), (1, .int (nI 0)), (0, .ref m0)]) hx hb dXM_covers_37 rfl hl (by decide) rfl (fun ls hl => ?_)
      refine lv_iload_n hx hb dXM_covers_38 rfl (lv_at hl 0 rfl) ?_
      refine lv_aload_n hx hb dXM_covers_39 rfl (lv_at hl 2 rfl) ?_
      refine va_get (D := (dC, dI)) (ci := 2) (v := .ref ml) (C := RXM) (T := TXM) (N := 10) hx hb hts hiXM hown hK hP 0 rfl rfl 4 (by decide) hf19 (fun _ h9 => h9) rfl dXM_covers_40 ?_
      refine lv_iconst (v := nI 0) hx hb dXM_covers_43 (by decide) ?_
      refine ld_i hx hb hK hP 3 2 rfl rfl (by omega) (by omega) dXM_covers_44 ?_
      refine tp_i (nI l1) (hL0) ?_
      refine bn_ge (tgt := 79) hx hb dXM_covers_45 (by decide) (by omega) (by omega) (fun c45 => ?_) (fun c45 => ?_)
      · refine lv_iload_n hx hb dXM_covers_79 rfl (lv_at hl 1 rfl) ?_
        exact rt_z hx hb hr (by first | rfl | (rcases hi with ⟨hi, _⟩ | ⟨hi, _⟩ <;> (subst hi; rfl))) ((az_b_f (fun q => by first | exact c12 q.1 | exact absurd q.2.1 (by omega))).symm) dXM_covers_80 hlocks
      · refine lv_iload_n hx hb dXM_covers_48 rfl (lv_at hl 1 rfl) ?_
        refine lv_if_eq (tgt := 79) hx hb dXM_covers_49 (by decide) (fun _ => ?_) (fun c => absurd c (by decide))
        refine lv_iload_n hx hb dXM_covers_79 rfl (lv_at hl 1 rfl) ?_
        exact rt_z hx hb hr (by first | rfl | (rcases hi with ⟨hi, _⟩ | ⟨hi, _⟩ <;> (subst hi; rfl))) ((az_b_f (fun q => by first | exact c12 q.1 | exact absurd q.2.1 (by omega))).symm) dXM_covers_80 hlocks
    · refine lv_iconst (v := nI 1) hx hb dXM_covers_30 (by decide) ?_
      refine lv_goto (tgt := 35) hx hb dXM_covers_31 (by decide) ?_
      refine lv_istore_n (lv' := [(1, .int (nI 1)), (0, .ref m0)]) hx hb dXM_covers_35 rfl hl (by decide) rfl (fun ls hl => ?_)
      refine lv_iconst (v := nI 0) hx hb dXM_covers_36 (by decide) ?_
      refine lv_istore_n (lv' := [(2, .int (nI 0)), (1, .int (nI 1)), (0, .ref m0)]) hx hb dXM_covers_37 rfl hl (by decide) rfl (fun ls hl => ?_)
      have lp38 : ∀ (N : Nat) (k : Nat) (is_ : Nat), (k ≤ l1) → (is_ ≤ 1) → ((is_ = 1 ∧ V1 / 2 ^ (az_wl f1 - k) = V2 / 2 ^ (az_wl f1 - k)) ∨ (is_ = 0 ∧ V1 / 2 ^ (az_wl f1 - k) ≠ V2 / 2 ^ (az_wl f1 - k))) → (l1 - k) < N → ∀ (ls : Array Slot), lv_has ls 3 [(0, .ref m0), (1, .int (nI is_)), (2, .int (nI k))] → W p l e (headSpec wsXM_covers ({ frames := 1, cells := 0, slots := 0, locals := 23 })).room s m ([.ref m0] : List Value).toArray below meth c s.heap [] 0 0 (MQ below (vp_Si (fun r => r = az_b (f1 = f2 ∧ l1 ≤ l2 ∧ az_cut V1 (az_wl f1 - l1) = az_cut V2 (az_wl f1 - l1)))) ([.ref m0] : List Value).toArray s 0 0 (fun _ => False)) (F0 m 38 ls []) := by
        intro N
        induction N with
        | zero => intro k is_ hk hi1 hi hN; exact absurd hN (Nat.not_lt_zero _)
        | succ N ih =>
          intro k is_ hk hi1 hi hN ls hl
          refine lv_iload_n hx hb dXM_covers_38 rfl (lv_at hl 2 rfl) ?_
          refine lv_aload_n hx hb dXM_covers_39 rfl (lv_at hl 0 rfl) ?_
          refine va_get (D := (dC, dI)) (ci := 2) (v := .ref ml) (C := RXM) (T := TXM) (N := 10) hx hb hts hiXM hown hK hP 0 rfl rfl 4 (by decide) hf19 (fun _ h9 => h9) rfl dXM_covers_40 ?_
          refine lv_iconst (v := nI 0) hx hb dXM_covers_43 (by decide) ?_
          refine ld_i hx hb hK hP 3 2 rfl rfl (by omega) (by omega) dXM_covers_44 ?_
          refine tp_i (nI l1) (hL0) ?_
          refine bn_ge (tgt := 79) hx hb dXM_covers_45 (by decide) (by omega) (by omega) (fun c45 => ?_) (fun c45 => ?_)
          · refine lv_iload_n hx hb dXM_covers_79 rfl (lv_at hl 1 rfl) ?_
            exact rt_z hx hb hr (by first | rfl | (rcases hi with ⟨hi, _⟩ | ⟨hi, _⟩ <;> (subst hi; rfl))) (by rcases hi with ⟨hi, he⟩ | ⟨hi, he⟩; exact (by first | (exfalso; omega) | (rw [hi]; exact (az_b_t ⟨c12, c27, az_cut_eq.mpr (by rw [show l1 = k by omega]; exact he)⟩).symm)); exact (by rw [hi]; exact (az_b_f (fun q => he (az_fine (by omega) (az_cut_eq.mp q.2.2)))).symm)) dXM_covers_80 hlocks
          · refine lv_iload_n hx hb dXM_covers_48 rfl (lv_at hl 1 rfl) ?_
            refine bz_eq (tgt := 79) hx hb dXM_covers_49 (by decide) (by omega) (fun c49 => ?_) (fun c49 => ?_)
            · refine lv_iload_n hx hb dXM_covers_79 rfl (lv_at hl 1 rfl) ?_
              exact rt_z hx hb hr (by first | rfl | (rcases hi with ⟨hi, _⟩ | ⟨hi, _⟩ <;> (subst hi; rfl))) (by rcases hi with ⟨hi, he⟩ | ⟨hi, he⟩; exact (by first | (exfalso; omega) | (rw [hi]; exact (az_b_t ⟨c12, c27, az_cut_eq.mpr (by rw [show l1 = k by omega]; exact he)⟩).symm)); exact (by rw [hi]; exact (az_b_f (fun q => he (az_fine (by omega) (az_cut_eq.mp q.2.2)))).symm)) dXM_covers_80 hlocks
            · refine lv_aload_n hx hb dXM_covers_52 rfl (lv_at hl 0 rfl) ?_
              refine lv_iconst (v := nI 0) hx hb dXM_covers_53 (by decide) ?_
              refine lv_iload_n hx hb dXM_covers_54 rfl (lv_at hl 2 rfl) ?_
              refine rc_Vi (As := [.int (nI 0), .int (nI k)]) (rest := []) ⟨hx, hb, hml, hown, hts⟩ (ct_m_bit l dC dI m0 mt mb mf ml mp mo n w xm xg dF Fm dB B 0 k f1 V1 (by omega) hF0 (by omega) hB0 (by omega)) (cwV 2 hts gXM_covers_XM_bit rfl rfl rfl (by decide +kernel) ⟨Nat.le_of_ble_eq_true rfl, Nat.le_of_ble_eq_true rfl⟩) (hP.sub [0, 2, 1] rfl) (hK.sub [1, 0] rfl) 0 rfl rfl rfl hl.1 rfl (Nat.le_of_ble_eq_true rfl) dXM_covers_55 ⟨(Nat.zero_le _), (Nat.zero_le _)⟩ ?_
              refine lv_aload_n hx hb dXM_covers_58 rfl (lv_at hl 0 rfl) ?_
              refine lv_iconst (v := nI 1) hx hb dXM_covers_59 (by decide) ?_
              refine lv_iload_n hx hb dXM_covers_60 rfl (lv_at hl 2 rfl) ?_
              refine rc_Vi (As := [.int (nI 1), .int (nI k)]) (rest := [.int (nI (az_bit f1 V1 k))]) ⟨hx, hb, hml, hown, hts⟩ (ct_m_bit l dC dI m0 mt mb mf ml mp mo n w xm xg dF Fm dB B 1 k f1 V2 (by omega) (by rw [hF1, c12]) (by omega) hB1 (by omega)) (cwV 2 hts gXM_covers_XM_bit rfl rfl rfl (by decide +kernel) ⟨Nat.le_of_ble_eq_true rfl, Nat.le_of_ble_eq_true rfl⟩) (hP.sub [0, 2, 1] rfl) (hK.sub [1, 0] rfl) 0 rfl rfl rfl hl.1 rfl (Nat.le_of_ble_eq_true rfl) dXM_covers_61 ⟨(Nat.zero_le _), (Nat.zero_le _)⟩ ?_
              have hb1 : az_bit f1 V1 k < 2 := Nat.mod_lt _ (by decide)
              have hb2 : az_bit f1 V2 k < 2 := Nat.mod_lt _ (by decide)
              refine bn_ne (tgt := 71) hx hb dXM_covers_64 (by decide) (by omega) (by omega) (fun c64 => ?_) (fun c64 => ?_)
              · refine lv_iconst (v := nI 0) hx hb dXM_covers_71 (by decide) ?_
                refine lv_istore_n (lv' := [(1, .int (nI 0)), (0, .ref m0), (2, .int (nI k))]) hx hb dXM_covers_72 rfl hl (by decide) rfl (fun ls hl => ?_)
                refine lv_iinc (v := nI (k + 1)) (lv' := [(2, .int (nI (k + 1))), (1, .int (nI 0)), (0, .ref m0)]) hx hb dXM_covers_73 hl (k := 2) rfl (nI_add _ 1) (by decide) rfl (fun ls hl => ?_)
                refine lv_goto (tgt := 38) hx hb dXM_covers_76 (by decide) ?_
                exact ih (k + 1) 0 (by omega) (by omega) (by rcases hi with ⟨hi, he⟩ | ⟨hi, he⟩; exact (Or.inr ⟨rfl, by rw [az_bit_s (f := f1) (V := V1) (k := k) (by omega), az_bit_s (f := f1) (V := V2) (k := k) (by omega), he]; omega⟩); exact (absurd hi c49)) (by omega) ls (lv_sub hl [2, 1, 0] rfl)
              · refine lv_iconst (v := nI 1) hx hb dXM_covers_67 (by decide) ?_
                refine lv_goto (tgt := 72) hx hb dXM_covers_68 (by decide) ?_
                refine lv_istore_n (lv' := [(1, .int (nI 1)), (0, .ref m0), (2, .int (nI k))]) hx hb dXM_covers_72 rfl hl (by decide) rfl (fun ls hl => ?_)
                refine lv_iinc (v := nI (k + 1)) (lv' := [(2, .int (nI (k + 1))), (1, .int (nI 1)), (0, .ref m0)]) hx hb dXM_covers_73 hl (k := 2) rfl (nI_add _ 1) (by decide) rfl (fun ls hl => ?_)
                refine lv_goto (tgt := 38) hx hb dXM_covers_76 (by decide) ?_
                exact ih (k + 1) 1 (by omega) (by omega) (by rcases hi with ⟨hi, he⟩ | ⟨hi, he⟩; exact (Or.inl ⟨rfl, by rw [az_bit_s (f := f1) (V := V1) (k := k) (by omega), az_bit_s (f := f1) (V := V2) (k := k) (by omega), he, c64]⟩); exact (absurd hi c49)) (by omega) ls (lv_sub hl [2, 1, 0] rfl)
      exact lp38 _ 0 1 (Nat.zero_le _) (Nat.le_refl _) (Or.inl ⟨rfl, by rw [Nat.sub_zero, az_ad_0 h1, c12, az_ad_0 h2]⟩) (Nat.lt_succ_self _) ls (lv_sub hl [2, 1, 0] rfl)
set_option maxRecDepth 100000 in
set_option maxHeartbeats 4000000 in
/-- order() -/
theorem ct_m_order (l : Launch) (dC : Nat → ClassId) (dI : Nat → Nat → Nat) (m0 mt mb mf ml mp mo n w : Nat) (xm xg : Int32) (dB : ClassId) (B : Nat → Int32) (dF : ClassId) (Fm : Nat → Int32) (dL : ClassId) (Ln : Nat → Int32) (f1 l1 V1 f2 l2 V2 : Nat) (h1 : az_ad f1 l1 V1) (h2 : az_ad f2 l2 V2) (hF0 : Fm 0 = nI f1) (hF1 : Fm 1 = nI f2) (hL0 : Ln 0 = nI l1) (hL1 : Ln 1 = nI l2) (hB0 : az_by B 0 V1) (hB1 : az_by B 16 V2) : Met l yXM_order wsXM_order ({ frames := 0, cells := 0, slots := 0, locals := 0 }) (rd_P (dC, dI) azCl [(m0, .inr (2, [.ref mt, .int (nI n), .ref mb, .ref mf, .ref ml, .ref mp, .int xm, .int xg, .ref mo, .int (nI w)])), (mb, .inl (dB, 32, .inl B)), (mf, .inl (dF, 2, .inl Fm)), (ml, .inl (dL, 2, .inl Ln))] [(dB, .int), (dF, .int), (dL, .int)] [.ref m0]) (vp_Si (fun r => r = az_ord f1 V1 l1 f2 V2 l2)) 0 0 (fun _ => False) := by
  refine Met.ofW (cc := cXM_order) (maxL := 2) (ret := (some .int)) (by decide) rfl ?_
  intro p e s m args below meth c s₁ Bd hml hv
  obtain ⟨rfl, hP, hK⟩ := hv
  have hx := Bd.exec
  have hb := Bd.bytes
  have hr := Bd.returns
  have hts := atoms_spec (ws := wsXM_order) Bd.pre
  have hown : s.vm.findClass RXM = some m.cls := findClass_of_methodNamed Bd.named
  have hlocks := Bd.notSynchronized
  have hiXM : ∀ w ∈ wsXM0, w ∈ wsXM_order := by decide +kernel
  have hf16 := hts (.fieldLink RXM 16 "AddressTextsModel" "family" "[I") (by decide +kernel)
  have hf19 := hts (.fieldLink RXM 19 "AddressTextsModel" "length" "[I") (by decide +kernel)
  have hf13 := hts (.fieldLink RXM 13 "AddressTextsModel" "bytes" "[I") (by decide +kernel)
  have hl := lv_entry ([.ref m0]) (n := 2) (Nat.le_of_ble_eq_true rfl)
  rw [lg_entry_eq]
  generalize (lg_sl ([.ref m0]) ++ List.replicate (2 - (lg_sl ([.ref m0])).length) Slot.unset).toArray = ls at hl ⊢
  have hl : lv_has ls 2 [(0, .ref m0)] := hl
  have hV := az_ad_V h1
  have hU := az_ad_V h2
  have hf1 := az_ad_6 h1
  have hf2 := az_ad_6 h2
  have hl1 := h1.2
  have hl2 := h2.2
  have hw1 := az_wl_le f1
  have hw2 := az_wl_le f2
  refine lv_aload_n hx hb dXM_order_0 rfl (lv_at hl 0 rfl) ?_
  refine va_get (D := (dC, dI)) (ci := 2) (v := .ref mf) (C := RXM) (T := TXM) (N := 10) hx hb hts hiXM hown hK hP 0 rfl rfl 3 (by decide) hf16 (fun _ h9 => h9) rfl dXM_order_1 ?_
  refine lv_iconst (v := nI 0) hx hb dXM_order_4 (by decide) ?_
  refine ld_i hx hb hK hP 2 1 rfl rfl (by omega) (by omega) dXM_order_5 ?_
  refine tp_i (nI f1) (hF0) ?_
  refine lv_aload_n hx hb dXM_order_6 rfl (lv_at hl 0 rfl) ?_
  refine va_get (D := (dC, dI)) (ci := 2) (v := .ref mf) (C := RXM) (T := TXM) (N := 10) hx hb hts hiXM hown hK hP 0 rfl rfl 3 (by decide) hf16 (fun _ h9 => h9) rfl dXM_order_7 ?_
  refine lv_iconst (v := nI 1) hx hb dXM_order_10 (by decide) ?_
  refine ld_i hx hb hK hP 2 1 rfl rfl (by omega) (by omega) dXM_order_11 ?_
  refine tp_i (nI f2) (hF1) ?_
  refine bn_eq (tgt := 36) hx hb dXM_order_12 (by decide) (by omega) (by omega) (fun c12 => ?_) (fun c12 => ?_)
  · refine lv_iconst (v := nI 0) hx hb dXM_order_36 (by decide) ?_
    refine lv_istore_n (lv' := [(1, .int (nI 0)), (0, .ref m0)]) hx hb dXM_order_37 rfl hl (by decide) rfl (fun ls hl => ?_)
    have lp38 : ∀ (N : Nat) (k : Nat), (k ≤ 16) → (V1 / 2 ^ (128 - 8 * k) = V2 / 2 ^ (128 - 8 * k)) → (16 - k) < N → ∀ (ls : Array Slot), lv_has ls 2 [(0, .ref m0), (1, .int (nI k))] → W p l e (headSpec wsXM_order ({ frames := 0, cells := 0, slots := 0, locals := 0 })).room s m ([.ref m0] : List Value).toArray below meth c s.heap [] 0 0 (MQ below (vp_Si (fun r => r = az_ord f1 V1 l1 f2 V2 l2)) ([.ref m0] : List Value).toArray s 0 0 (fun _ => False)) (F0 m 38 ls []) := by
      intro N
      induction N with
      | zero => intro k hk hq hN; exact absurd hN (Nat.not_lt_zero _)
      | succ N ih =>
        intro k hk hq hN ls hl
        refine lv_iload_n hx hb dXM_order_38 rfl (lv_at hl 1 rfl) ?_
        refine lv_bipush (v := nI 16) hx hb dXM_order_39 (by decide) ?_
        refine bn_ge (tgt := 92) hx hb dXM_order_41 (by decide) (by omega) (by omega) (fun c41 => ?_) (fun c41 => ?_)
        · have hVV : V1 = V2 := by have h := hq; rw [show 128 - 8 * k = 0 by omega, Nat.pow_zero, Nat.div_one, Nat.div_one] at h; exact h
          refine lv_aload_n hx hb dXM_order_92 rfl (lv_at hl 0 rfl) ?_
          refine va_get (D := (dC, dI)) (ci := 2) (v := .ref ml) (C := RXM) (T := TXM) (N := 10) hx hb hts hiXM hown hK hP 0 rfl rfl 4 (by decide) hf19 (fun _ h9 => h9) rfl dXM_order_93 ?_
          refine lv_iconst (v := nI 0) hx hb dXM_order_96 (by decide) ?_
          refine ld_i hx hb hK hP 3 2 rfl rfl (by omega) (by omega) dXM_order_97 ?_
          refine tp_i (nI l1) (hL0) ?_
          refine lv_aload_n hx hb dXM_order_98 rfl (lv_at hl 0 rfl) ?_
          refine va_get (D := (dC, dI)) (ci := 2) (v := .ref ml) (C := RXM) (T := TXM) (N := 10) hx hb hts hiXM hown hK hP 0 rfl rfl 4 (by decide) hf19 (fun _ h9 => h9) rfl dXM_order_99 ?_
          refine lv_iconst (v := nI 1) hx hb dXM_order_102 (by decide) ?_
          refine ld_i hx hb hK hP 3 2 rfl rfl (by omega) (by omega) dXM_order_103 ?_
          refine tp_i (nI l2) (hL1) ?_
          refine bn_ge (tgt := 111) hx hb dXM_order_104 (by decide) (by omega) (by omega) (fun c104 => ?_) (fun c104 => ?_)
          · refine lv_aload_n hx hb dXM_order_111 rfl (lv_at hl 0 rfl) ?_
            refine va_get (D := (dC, dI)) (ci := 2) (v := .ref ml) (C := RXM) (T := TXM) (N := 10) hx hb hts hiXM hown hK hP 0 rfl rfl 4 (by decide) hf19 (fun _ h9 => h9) rfl dXM_order_112 ?_
            refine lv_iconst (v := nI 0) hx hb dXM_order_115 (by decide) ?_
            refine ld_i hx hb hK hP 3 2 rfl rfl (by omega) (by omega) dXM_order_116 ?_
            refine tp_i (nI l1) (hL0) ?_
            refine lv_aload_n hx hb dXM_order_117 rfl (lv_at hl 0 rfl) ?_
            refine va_get (D := (dC, dI)) (ci := 2) (v := .ref ml) (C := RXM) (T := TXM) (N := 10) hx hb hts hiXM hown hK hP 0 rfl rfl 4 (by decide) hf19 (fun _ h9 => h9) rfl dXM_order_118 ?_
            refine lv_iconst (v := nI 1) hx hb dXM_order_121 (by decide) ?_
            refine ld_i hx hb hK hP 3 2 rfl rfl (by omega) (by omega) dXM_order_122 ?_
            refine tp_i (nI l2) (hL1) ?_
            refine bn_le (tgt := 130) hx hb dXM_order_123 (by decide) (by omega) (by omega) (fun c123 => ?_) (fun c123 => ?_)
            · refine lv_iconst (v := nI 0) hx hb dXM_order_130 (by decide) ?_
              exact rt_i hx hb hr (by unfold az_ord; rw [if_neg (fun q => q c12), if_neg (fun q => q hVV)]; first | rw [if_pos (show l1 ≠ l2 by omega), if_pos (show l1 < l2 by omega)] | rw [if_pos (show l1 ≠ l2 by omega), if_neg (show ¬ l1 < l2 by omega)] | rw [if_neg (show ¬ l1 ≠ l2 by omega)]) dXM_order_131 hlocks
            · refine lv_iconst (v := nI 1) hx hb dXM_order_126 (by decide) ?_
              refine lv_goto (tgt := 131) hx hb dXM_order_127 (by decide) ?_
              exact rt_i hx hb hr (by unfold az_ord; rw [if_neg (fun q => q c12), if_neg (fun q => q hVV)]; first | rw [if_pos (show l1 ≠ l2 by omega), if_pos (show l1 < l2 by omega)] | rw [if_pos (show l1 ≠ l2 by omega), if_neg (show ¬ l1 < l2 by omega)] | rw [if_neg (show ¬ l1 ≠ l2 by omega)]) dXM_order_131 hlocks
          · refine lv_iconst (v := -1) hx hb dXM_order_107 (by decide) ?_
            refine lv_goto (tgt := 131) hx hb dXM_order_108 (by decide) ?_
            exact rt_i hx hb hr (by unfold az_ord; rw [if_neg (fun q => q c12), if_neg (fun q => q hVV)]; first | rw [if_pos (show l1 ≠ l2 by omega), if_pos (show l1 < l2 by omega)] | rw [if_pos (show l1 ≠ l2 by omega), if_neg (show ¬ l1 < l2 by omega)] | rw [if_neg (show ¬ l1 ≠ l2 by omega)]) dXM_order_131 hlocks
        · have hb1 := az_byte_lt V1 k
          have hb2 := az_byte_lt V2 k
          refine lv_aload_n hx hb dXM_order_44 rfl (lv_at hl 0 rfl) ?_
          refine va_get (D := (dC, dI)) (ci := 2) (v := .ref mb) (C := RXM) (T := TXM) (N := 10) hx hb hts hiXM hown hK hP 0 rfl rfl 2 (by decide) hf13 (fun _ h9 => h9) rfl dXM_order_45 ?_
          refine lv_iload_n hx hb dXM_order_48 rfl (lv_at hl 1 rfl) ?_
          refine ld_i hx hb hK hP 1 0 rfl rfl (by omega) (by omega) dXM_order_49 ?_
          refine tp_i (nI (az_byte V1 k)) (by have h := hB0 k (by omega); rw [Nat.zero_add] at h; exact h) ?_
          refine lv_aload_n hx hb dXM_order_50 rfl (lv_at hl 0 rfl) ?_
          refine va_get (D := (dC, dI)) (ci := 2) (v := .ref mb) (C := RXM) (T := TXM) (N := 10) hx hb hts hiXM hown hK hP 0 rfl rfl 2 (by decide) hf13 (fun _ h9 => h9) rfl dXM_order_51 ?_
          refine lv_bipush (v := nI 16) hx hb dXM_order_54 (by decide) ?_
          refine lv_iload_n hx hb dXM_order_56 rfl (lv_at hl 1 rfl) ?_
          refine lv_iadd hx hb dXM_order_57 ?_
          refine tp_i (nI (16 + k)) (nI_add _ _) ?_
          refine ld_i hx hb hK hP 1 0 rfl rfl (by omega) (by omega) dXM_order_58 ?_
          refine tp_i (nI (az_byte V2 k)) (hB1 k (by omega)) ?_
          refine bn_eq (tgt := 86) hx hb dXM_order_59 (by decide) (by omega) (by omega) (fun c59 => ?_) (fun c59 => ?_)
          · refine lv_iinc (v := nI (k + 1)) (lv' := [(1, .int (nI (k + 1))), (0, .ref m0)]) hx hb dXM_order_86 hl (k := 1) rfl (nI_add _ 1) (by decide) rfl (fun ls hl => ?_)
            refine lv_goto (tgt := 38) hx hb dXM_order_89 (by decide) ?_
            exact ih (k + 1) (by omega) (by rw [az_byte_s (by omega), az_byte_s (by omega), hq, c59]) (by omega) ls (lv_sub hl [1, 0] rfl)
          · refine lv_aload_n hx hb dXM_order_62 rfl (lv_at hl 0 rfl) ?_
            refine va_get (D := (dC, dI)) (ci := 2) (v := .ref mb) (C := RXM) (T := TXM) (N := 10) hx hb hts hiXM hown hK hP 0 rfl rfl 2 (by decide) hf13 (fun _ h9 => h9) rfl dXM_order_63 ?_
            refine lv_iload_n hx hb dXM_order_66 rfl (lv_at hl 1 rfl) ?_
            refine ld_i hx hb hK hP 1 0 rfl rfl (by omega) (by omega) dXM_order_67 ?_
            refine tp_i (nI (az_byte V1 k)) (by have h := hB0 k (by omega); rw [Nat.zero_add] at h; exact h) ?_
            refine lv_aload_n hx hb dXM_order_68 rfl (lv_at hl 0 rfl) ?_
            refine va_get (D := (dC, dI)) (ci := 2) (v := .ref mb) (C := RXM) (T := TXM) (N := 10) hx hb hts hiXM hown hK hP 0 rfl rfl 2 (by decide) hf13 (fun _ h9 => h9) rfl dXM_order_69 ?_
            refine lv_bipush (v := nI 16) hx hb dXM_order_72 (by decide) ?_
            refine lv_iload_n hx hb dXM_order_74 rfl (lv_at hl 1 rfl) ?_
            refine lv_iadd hx hb dXM_order_75 ?_
            refine tp_i (nI (16 + k)) (nI_add _ _) ?_
            refine ld_i hx hb hK hP 1 0 rfl rfl (by omega) (by omega) dXM_order_76 ?_
            refine tp_i (nI (az_byte V2 k)) (hB1 k (by omega)) ?_
            refine bn_ge (tgt := 84) hx hb dXM_order_77 (by decide) (by omega) (by omega) (fun c77 => ?_) (fun c77 => ?_)
            · refine lv_iconst (v := nI 1) hx hb dXM_order_84 (by decide) ?_
              exact rt_i hx hb hr (by have hs1 := az_byte_s (V := V1) (k := k) (by omega); have hs2 := az_byte_s (V := V2) (k := k) (by omega); have hne : V1 / 2 ^ (128 - 8 * (k + 1)) ≠ V2 / 2 ^ (128 - 8 * (k + 1)) := (by omega); unfold az_ord; rw [if_neg (fun q => q c12), if_pos (show V1 ≠ V2 from fun q => hne (by rw [q]))]; first | rw [if_pos ((az_dlt hne).mpr (by omega))] | rw [if_neg (fun q => by have := (az_dlt hne).mp q; omega)]) dXM_order_85 hlocks
            · refine lv_iconst (v := -1) hx hb dXM_order_80 (by decide) ?_
              refine lv_goto (tgt := 85) hx hb dXM_order_81 (by decide) ?_
              exact rt_i hx hb hr (by have hs1 := az_byte_s (V := V1) (k := k) (by omega); have hs2 := az_byte_s (V := V2) (k := k) (by omega); have hne : V1 / 2 ^ (128 - 8 * (k + 1)) ≠ V2 / 2 ^ (128 - 8 * (k + 1)) := (by omega); unfold az_ord; rw [if_neg (fun q => q c12), if_pos (show V1 ≠ V2 from fun q => hne (by rw [q]))]; first | rw [if_pos ((az_dlt hne).mpr (by omega))] | rw [if_neg (fun q => by have := (az_dlt hne).mp q; omega)]) dXM_order_85 hlocks
    exact lp38 _ 0 (Nat.zero_le _) (by rw [Nat.div_eq_of_lt hV, Nat.div_eq_of_lt hU]) (Nat.lt_succ_self _) ls (lv_sub hl [1, 0] rfl)
  · refine lv_aload_n hx hb dXM_order_15 rfl (lv_at hl 0 rfl) ?_
    refine va_get (D := (dC, dI)) (ci := 2) (v := .ref mf) (C := RXM) (T := TXM) (N := 10) hx hb hts hiXM hown hK hP 0 rfl rfl 3 (by decide) hf16 (fun _ h9 => h9) rfl dXM_order_16 ?_
    refine lv_iconst (v := nI 0) hx hb dXM_order_19 (by decide) ?_
    refine ld_i hx hb hK hP 2 1 rfl rfl (by omega) (by omega) dXM_order_20 ?_
    refine tp_i (nI f1) (hF0) ?_
    refine lv_aload_n hx hb dXM_order_21 rfl (lv_at hl 0 rfl) ?_
    refine va_get (D := (dC, dI)) (ci := 2) (v := .ref mf) (C := RXM) (T := TXM) (N := 10) hx hb hts hiXM hown hK hP 0 rfl rfl 3 (by decide) hf16 (fun _ h9 => h9) rfl dXM_order_22 ?_
    refine lv_iconst (v := nI 1) hx hb dXM_order_25 (by decide) ?_
    refine ld_i hx hb hK hP 2 1 rfl rfl (by omega) (by omega) dXM_order_26 ?_
    refine tp_i (nI f2) (hF1) ?_
    refine bn_ge (tgt := 34) hx hb dXM_order_27 (by decide) (by omega) (by omega) (fun c27 => ?_) (fun c27 => ?_)
    · refine lv_iconst (v := nI 1) hx hb dXM_order_34 (by decide) ?_
      exact rt_i hx hb hr (by unfold az_ord; rw [if_pos c12]; first | rw [if_pos (show f1 = 4 by have := az_ad_f h1; have := az_ad_f h2; omega)] | rw [if_neg (show ¬ f1 = 4 by have := az_ad_f h1; have := az_ad_f h2; omega)]) dXM_order_35 hlocks
    · refine lv_iconst (v := -1) hx hb dXM_order_30 (by decide) ?_
      refine lv_goto (tgt := 35) hx hb dXM_order_31 (by decide) ?_
      exact rt_i hx hb hr (by unfold az_ord; rw [if_pos c12]; first | rw [if_pos (show f1 = 4 by have := az_ad_f h1; have := az_ad_f h2; omega)] | rw [if_neg (show ¬ f1 = 4 by have := az_ad_f h1; have := az_ad_f h2; omega)]) dXM_order_35 hlocks
set_option maxRecDepth 100000 in
set_option maxHeartbeats 4000000 in
/-- length() -/
theorem ct_m_length (l : Launch) (dC : Nat → ClassId) (dI : Nat → Nat → Nat) (sz : Nat) (m0 mt mb mf ml mp mo n w : Nat) (xm xg : Int32) (dT : ClassId) (F : Nat → Int32) (T : Nat → Nat) (hF : az_mt F T n) (hn : n ≤ 60) (dF : ClassId) (Fm : Nat → Int32) (dL : ClassId) (Ln : Nat → Int32) (f1 l1 V1 : Nat) (h1 : az_ad f1 l1 V1) (hF0 : Fm 0 = nI f1) : Met l yXM_length wsXM_length ({ frames := 2, cells := 0, slots := 0, locals := 45 }) (wr_P (dC, dI) azCl [(m0, .inr (2, [.ref mt, .int (nI n), .ref mb, .ref mf, .ref ml, .ref mp, .int xm, .int xg, .ref mo, .int (nI w)])), (mt, .inl (dT, 60, .inl F)), (mf, .inl (dF, 2, .inl Fm)), (ml, .inl (dL, 2, .inl Ln))] [(dT, .int), (dF, .int), (dL, .int)] sz [.ref m0]) (va_Qi (fun r u => (az_dc T 0 n (az_wl f1) = none ∧ r = -1 ∧ u.2 = l1 ∧ u.1 = Ln) ∨ (az_dc T 0 n (az_wl f1) = some u.2 ∧ r = nI u.2 ∧ u.2 ≤ az_wl f1 ∧ u.1 0 = nI u.2 ∧ ∀ j, j ≠ 0 → u.1 j = Ln j)) (wr_B (dC, dI) azCl [(dT, .int), (dF, .int), (dL, .int)] (va_A [(m0, .inr (2, [.ref mt, .int (nI n), .ref mb, .ref mf, .ref ml, .ref mp, .int xm, .int xg, .ref mo, .int (nI w)])), (mt, .inl (dT, 60, .inl F)), (mf, .inl (dF, 2, .inl Fm)), (ml, .inl (dL, 2, .inl Ln))] sz) (fun u : (Nat → Int32) × Nat => [(m0, .inr (2, [.ref mt, .int (nI 0), .ref mb, .ref mf, .ref ml, .ref mp, .int xm, .int xg, .ref mo, .int (nI w)])), (mt, .inl (dT, 60, .inl F)), (mf, .inl (dF, 2, .inl Fm)), (ml, .inl (dL, 2, .inl u.1))])) (va_A [(m0, .inr (2, [.ref mt, .int (nI n), .ref mb, .ref mf, .ref ml, .ref mp, .int xm, .int xg, .ref mo, .int (nI w)])), (mt, .inl (dT, 60, .inl F)), (mf, .inl (dF, 2, .inl Fm)), (ml, .inl (dL, 2, .inl Ln))] sz)) 0 0 (va_A [(m0, .inr (2, [.ref mt, .int (nI n), .ref mb, .ref mf, .ref ml, .ref mp, .int xm, .int xg, .ref mo, .int (nI w)])), (mt, .inl (dT, 60, .inl F)), (mf, .inl (dF, 2, .inl Fm)), (ml, .inl (dL, 2, .inl Ln))] sz) := by
  refine Met.ofW (cc := cXM_length) (maxL := 2) (ret := (some .int)) (by decide) rfl ?_
  intro p e s m args below meth c s₁ Bd hml hv
  obtain ⟨rfl, hsz, hP, hK, hD0⟩ := hv
  have hx := Bd.exec
  have hb := Bd.bytes
  have hr := Bd.returns
  have hts := atoms_spec (ws := wsXM_length) Bd.pre
  have hown : s.vm.findClass RXM = some m.cls := findClass_of_methodNamed Bd.named
  have hlocks := Bd.notSynchronized
  subst hsz
  have hD := hD0.self (sz := s.heap.size)
  generalize hAe : va_A [(m0, .inr (2, [.ref mt, .int (nI n), .ref mb, .ref mf, .ref ml, .ref mp, .int xm, .int xg, .ref mo, .int (nI w)])), (mt, .inl (dT, 60, .inl F)), (mf, .inl (dF, 2, .inl Fm)), (ml, .inl (dL, 2, .inl Ln))] s.heap.size = A at hD ⊢
  have hA : ∀ q : Nat, s.heap.size ≤ q → A q := fun q h => by rw [← hAe]; exact Or.inr h
  have hS : va_S A s.heap s.heap [] := va_S.rf
  have hP : va_P (dC, dI) azCl [(m0, .inr (2, [.ref mt, .int (nI n), .ref mb, .ref mf, .ref ml, .ref mp, .int xm, .int xg, .ref mo, .int (nI w)])), (mt, .inl (dT, 60, .inl F)), (mf, .inl (dF, 2, .inl Fm)), (ml, .inl (dL, 2, .inl Ln))] s.heap := hP
  have hiXM : ∀ w ∈ wsXM0, w ∈ wsXM_length := by decide +kernel
  have hf28 := hts (.fieldLink RXM 28 "AddressTextsModel" "size" "I") (by decide +kernel)
  have hf16 := hts (.fieldLink RXM 16 "AddressTextsModel" "family" "[I") (by decide +kernel)
  have hf19 := hts (.fieldLink RXM 19 "AddressTextsModel" "length" "[I") (by decide +kernel)
  have hl := lv_entry ([.ref m0]) (n := 2) (Nat.le_of_ble_eq_true rfl)
  rw [lg_entry_eq]
  generalize (lg_sl ([.ref m0]) ++ List.replicate (2 - (lg_sl ([.ref m0])).length) Slot.unset).toArray = ls at hl ⊢
  have hl : lv_has ls 2 [(0, .ref m0)] := hl
  have hf1 := az_ad_6 h1
  have hwl := az_wl_le f1
  refine lv_aload_n hx hb dXM_length_0 rfl (lv_at hl 0 rfl) ?_
  refine lv_iconst (v := nI 0) hx hb dXM_length_1 (by decide) ?_
  refine lv_aload_n hx hb dXM_length_2 rfl (lv_at hl 0 rfl) ?_
  refine va_get (D := (dC, dI)) (ci := 2) (v := .int (nI n)) (C := RXM) (T := TXM) (N := 10) hx hb hts hiXM hown hK hP 0 rfl rfl 1 (by decide) hf28 (fun _ h9 => h9) rfl dXM_length_3 ?_
  refine lv_aload_n hx hb dXM_length_6 rfl (lv_at hl 0 rfl) ?_
  refine va_get (D := (dC, dI)) (ci := 2) (v := .ref mf) (C := RXM) (T := TXM) (N := 10) hx hb hts hiXM hown hK hP 0 rfl rfl 3 (by decide) hf16 (fun _ h9 => h9) rfl dXM_length_7 ?_
  refine lv_iconst (v := nI 0) hx hb dXM_length_10 (by decide) ?_
  refine ld_i hx hb hK hP 2 1 rfl rfl (by omega) (by omega) dXM_length_11 ?_
  refine tp_i (nI f1) (hF0) ?_
  refine lv_iconst (v := nI 4) hx hb dXM_length_12 (by decide) ?_
  refine bn_ne (tgt := 21) hx hb dXM_length_13 (by decide) (by omega) (by omega) (fun c13 => ?_) (fun c13 => ?_)
  · refine lv_sipush (v := nI 128) hx hb dXM_length_21 (by decide) ?_
    refine tp_i (nI (az_wl f1)) (congrArg nI (by first | (rw [c13]; rfl) | exact (az_wl_n c13).symm)) ?_
    refine rc_Vi (As := [.int (nI 0), .int (nI n), .int (nI (az_wl f1))]) (rest := []) ⟨hx, hb, hml, hown, hts⟩ (ct_m_decimal l dC dI m0 mt mb mf ml mp mo n w xm xg dT F T hF hn 0 n (az_wl f1) (Nat.zero_le _) (Nat.le_refl _) (by omega)) (cwV 3 hts gXM_length_XM_decimal rfl rfl rfl (by decide +kernel) ⟨Nat.le_of_ble_eq_true rfl, Nat.le_of_ble_eq_true rfl⟩) (hP.sub [0, 1] rfl) (hK.sub [0] rfl) 0 rfl rfl rfl hl.1 rfl (Nat.le_of_ble_eq_true rfl) dXM_length_24 ⟨(Nat.zero_le _), (Nat.zero_le _)⟩ ?_
    rcases hd : az_dc T 0 n (az_wl f1) with _ | d
    · refine tp_i (-1) (rfl) ?_
      refine lv_istore_n (lv' := [(1, .int (-1)), (0, .ref m0)]) hx hb dXM_length_27 rfl hl (by decide) rfl (fun ls hl => ?_)
      refine lv_aload_n hx hb dXM_length_28 rfl (lv_at hl 1 rfl) ?_
      refine lv_iconst (v := nI 0) hx hb dXM_length_29 (by decide) ?_
      refine va_put (D := (dC, dI)) (ci := 2) (v := .int (nI 0)) (ty := .int) (C := RXM) (T := TXM) (N := 10) hx hb hts hiXM tyXM tyXM_ok nmXM hown hK hP hD hS 0 rfl rfl 1 (by decide) hf28 (fun _ h9 => h9) rfl (by decide +kernel) rfl rfl (Nat.le_of_ble_eq_true rfl) dXM_length_30 (fun H locs hP hD hS => ?_)
      have hP : va_P (dC, dI) azCl [(m0, .inr (2, [.ref mt, .int (nI 0), .ref mb, .ref mf, .ref ml, .ref mp, .int xm, .int xg, .ref mo, .int (nI w)])), (mt, .inl (dT, 60, .inl F)), (mf, .inl (dF, 2, .inl Fm)), (ml, .inl (dL, 2, .inl Ln))] H := hP
      have hD : va_D A [(m0, .inr (2, [.ref mt, .int (nI 0), .ref mb, .ref mf, .ref ml, .ref mp, .int xm, .int xg, .ref mo, .int (nI w)])), (mt, .inl (dT, 60, .inl F)), (mf, .inl (dF, 2, .inl Fm)), (ml, .inl (dL, 2, .inl Ln))] := hD
      refine lv_iload_n hx hb dXM_length_33 rfl (lv_at hl 0 rfl) ?_
      refine lv_if_lt (tgt := 44) hx hb dXM_length_34 (by decide) (fun _ => ?_) (fun c => absurd c (by decide))
      refine lv_iload_n hx hb dXM_length_44 rfl (lv_at hl 0 rfl) ?_
      exact wt_i hx hb hr ((Ln, l1)) (Or.inl ⟨by first | rfl | exact hd, rfl, rfl, rfl⟩) (hP.sub [0, 1, 2, 3] rfl) hK (hD.sub [0, 1, 2, 3] (by decide) rfl) hS dXM_length_45 hlocks
    · have hdl := az_dc_le hd
      refine tp_i (nI d) (rfl) ?_
      refine lv_istore_n (lv' := [(1, .int (nI d)), (0, .ref m0)]) hx hb dXM_length_27 rfl hl (by decide) rfl (fun ls hl => ?_)
      refine lv_aload_n hx hb dXM_length_28 rfl (lv_at hl 1 rfl) ?_
      refine lv_iconst (v := nI 0) hx hb dXM_length_29 (by decide) ?_
      refine va_put (D := (dC, dI)) (ci := 2) (v := .int (nI 0)) (ty := .int) (C := RXM) (T := TXM) (N := 10) hx hb hts hiXM tyXM tyXM_ok nmXM hown hK hP hD hS 0 rfl rfl 1 (by decide) hf28 (fun _ h9 => h9) rfl (by decide +kernel) rfl rfl (Nat.le_of_ble_eq_true rfl) dXM_length_30 (fun H locs hP hD hS => ?_)
      have hP : va_P (dC, dI) azCl [(m0, .inr (2, [.ref mt, .int (nI 0), .ref mb, .ref mf, .ref ml, .ref mp, .int xm, .int xg, .ref mo, .int (nI w)])), (mt, .inl (dT, 60, .inl F)), (mf, .inl (dF, 2, .inl Fm)), (ml, .inl (dL, 2, .inl Ln))] H := hP
      have hD : va_D A [(m0, .inr (2, [.ref mt, .int (nI 0), .ref mb, .ref mf, .ref ml, .ref mp, .int xm, .int xg, .ref mo, .int (nI w)])), (mt, .inl (dT, 60, .inl F)), (mf, .inl (dF, 2, .inl Fm)), (ml, .inl (dL, 2, .inl Ln))] := hD
      refine lv_iload_n hx hb dXM_length_33 rfl (lv_at hl 0 rfl) ?_
      refine bz_lt (tgt := 44) hx hb dXM_length_34 (by decide) (by omega) ?_
      refine lv_aload_n hx hb dXM_length_37 rfl (lv_at hl 1 rfl) ?_
      refine va_get (D := (dC, dI)) (ci := 2) (v := .ref ml) (C := RXM) (T := TXM) (N := 10) hx hb hts hiXM hown hK hP 0 rfl rfl 4 (by decide) hf19 (fun _ h9 => h9) rfl dXM_length_38 ?_
      refine lv_iconst (v := nI 0) hx hb dXM_length_41 (by decide) ?_
      refine lv_iload_n hx hb dXM_length_42 rfl (lv_at hl 0 rfl) ?_
      refine st_i hx hb hK hP hD hS 3 2 rfl rfl (by omega) (by omega) dXM_length_43 (fun H locs hP hD hS => ?_)
      have hP : va_P (dC, dI) azCl [(m0, .inr (2, [.ref mt, .int (nI 0), .ref mb, .ref mf, .ref ml, .ref mp, .int xm, .int xg, .ref mo, .int (nI w)])), (mt, .inl (dT, 60, .inl F)), (mf, .inl (dF, 2, .inl Fm)), (ml, .inl (dL, 2, .inl (upd Ln 0 (nI d))))] H := hP
      have hD : va_D A [(m0, .inr (2, [.ref mt, .int (nI 0), .ref mb, .ref mf, .ref ml, .ref mp, .int xm, .int xg, .ref mo, .int (nI w)])), (mt, .inl (dT, 60, .inl F)), (mf, .inl (dF, 2, .inl Fm)), (ml, .inl (dL, 2, .inl (upd Ln 0 (nI d))))] := hD
      refine lv_iload_n hx hb dXM_length_44 rfl (lv_at hl 0 rfl) ?_
      exact wt_i hx hb hr ((upd Ln 0 (nI d), d)) (Or.inr ⟨by first | rfl | exact hd, rfl, hdl, rfl, fun j hj => pk_un hj⟩) (hP.sub [0, 1, 2, 3] rfl) hK (hD.sub [0, 1, 2, 3] (by decide) rfl) hS dXM_length_45 hlocks
  · refine lv_bipush (v := nI 32) hx hb dXM_length_16 (by decide) ?_
    refine lv_goto (tgt := 24) hx hb dXM_length_18 (by decide) ?_
    refine tp_i (nI (az_wl f1)) (congrArg nI (by first | (rw [c13]; rfl) | exact (az_wl_n c13).symm)) ?_
    refine rc_Vi (As := [.int (nI 0), .int (nI n), .int (nI (az_wl f1))]) (rest := []) ⟨hx, hb, hml, hown, hts⟩ (ct_m_decimal l dC dI m0 mt mb mf ml mp mo n w xm xg dT F T hF hn 0 n (az_wl f1) (Nat.zero_le _) (Nat.le_refl _) (by omega)) (cwV 3 hts gXM_length_XM_decimal rfl rfl rfl (by decide +kernel) ⟨Nat.le_of_ble_eq_true rfl, Nat.le_of_ble_eq_true rfl⟩) (hP.sub [0, 1] rfl) (hK.sub [0] rfl) 0 rfl rfl rfl hl.1 rfl (Nat.le_of_ble_eq_true rfl) dXM_length_24 ⟨(Nat.zero_le _), (Nat.zero_le _)⟩ ?_
    rcases hd : az_dc T 0 n (az_wl f1) with _ | d
    · refine tp_i (-1) (rfl) ?_
      refine lv_istore_n (lv' := [(1, .int (-1)), (0, .ref m0)]) hx hb dXM_length_27 rfl hl (by decide) rfl (fun ls hl => ?_)
      refine lv_aload_n hx hb dXM_length_28 rfl (lv_at hl 1 rfl) ?_
      refine lv_iconst (v := nI 0) hx hb dXM_length_29 (by decide) ?_
      refine va_put (D := (dC, dI)) (ci := 2) (v := .int (nI 0)) (ty := .int) (C := RXM) (T := TXM) (N := 10) hx hb hts hiXM tyXM tyXM_ok nmXM hown hK hP hD hS 0 rfl rfl 1 (by decide) hf28 (fun _ h9 => h9) rfl (by decide +kernel) rfl rfl (Nat.le_of_ble_eq_true rfl) dXM_length_30 (fun H locs hP hD hS => ?_)
      have hP : va_P (dC, dI) azCl [(m0, .inr (2, [.ref mt, .int (nI 0), .ref mb, .ref mf, .ref ml, .ref mp, .int xm, .int xg, .ref mo, .int (nI w)])), (mt, .inl (dT, 60, .inl F)), (mf, .inl (dF, 2, .inl Fm)), (ml, .inl (dL, 2, .inl Ln))] H := hP
      have hD : va_D A [(m0, .inr (2, [.ref mt, .int (nI 0), .ref mb, .ref mf, .ref ml, .ref mp, .int xm, .int xg, .ref mo, .int (nI w)])), (mt, .inl (dT, 60, .inl F)), (mf, .inl (dF, 2, .inl Fm)), (ml, .inl (dL, 2, .inl Ln))] := hD
      refine lv_iload_n hx hb dXM_length_33 rfl (lv_at hl 0 rfl) ?_
      refine lv_if_lt (tgt := 44) hx hb dXM_length_34 (by decide) (fun _ => ?_) (fun c => absurd c (by decide))
      refine lv_iload_n hx hb dXM_length_44 rfl (lv_at hl 0 rfl) ?_
      exact wt_i hx hb hr ((Ln, l1)) (Or.inl ⟨by first | rfl | exact hd, rfl, rfl, rfl⟩) (hP.sub [0, 1, 2, 3] rfl) hK (hD.sub [0, 1, 2, 3] (by decide) rfl) hS dXM_length_45 hlocks
    · have hdl := az_dc_le hd
      refine tp_i (nI d) (rfl) ?_
      refine lv_istore_n (lv' := [(1, .int (nI d)), (0, .ref m0)]) hx hb dXM_length_27 rfl hl (by decide) rfl (fun ls hl => ?_)
      refine lv_aload_n hx hb dXM_length_28 rfl (lv_at hl 1 rfl) ?_
      refine lv_iconst (v := nI 0) hx hb dXM_length_29 (by decide) ?_
      refine va_put (D := (dC, dI)) (ci := 2) (v := .int (nI 0)) (ty := .int) (C := RXM) (T := TXM) (N := 10) hx hb hts hiXM tyXM tyXM_ok nmXM hown hK hP hD hS 0 rfl rfl 1 (by decide) hf28 (fun _ h9 => h9) rfl (by decide +kernel) rfl rfl (Nat.le_of_ble_eq_true rfl) dXM_length_30 (fun H locs hP hD hS => ?_)
      have hP : va_P (dC, dI) azCl [(m0, .inr (2, [.ref mt, .int (nI 0), .ref mb, .ref mf, .ref ml, .ref mp, .int xm, .int xg, .ref mo, .int (nI w)])), (mt, .inl (dT, 60, .inl F)), (mf, .inl (dF, 2, .inl Fm)), (ml, .inl (dL, 2, .inl Ln))] H := hP
      have hD : va_D A [(m0, .inr (2, [.ref mt, .int (nI 0), .ref mb, .ref mf, .ref ml, .ref mp, .int xm, .int xg, .ref mo, .int (nI w)])), (mt, .inl (dT, 60, .inl F)), (mf, .inl (dF, 2, .inl Fm)), (ml, .inl (dL, 2, .inl Ln))] := hD
      refine lv_iload_n hx hb dXM_length_33 rfl (lv_at hl 0 rfl) ?_
      refine bz_lt (tgt := 44) hx hb dXM_length_34 (by decide) (by omega) ?_
      refine lv_aload_n hx hb dXM_length_37 rfl (lv_at hl 1 rfl) ?_
      refine va_get (D := (dC, dI)) (ci := 2) (v := .ref ml) (C := RXM) (T := TXM) (N := 10) hx hb hts hiXM hown hK hP 0 rfl rfl 4 (by decide) hf19 (fun _ h9 => h9) rfl dXM_length_38 ?_
      refine lv_iconst (v := nI 0) hx hb dXM_length_41 (by decide) ?_
      refine lv_iload_n hx hb dXM_length_42 rfl (lv_at hl 0 rfl) ?_
      refine st_i hx hb hK hP hD hS 3 2 rfl rfl (by omega) (by omega) dXM_length_43 (fun H locs hP hD hS => ?_)
      have hP : va_P (dC, dI) azCl [(m0, .inr (2, [.ref mt, .int (nI 0), .ref mb, .ref mf, .ref ml, .ref mp, .int xm, .int xg, .ref mo, .int (nI w)])), (mt, .inl (dT, 60, .inl F)), (mf, .inl (dF, 2, .inl Fm)), (ml, .inl (dL, 2, .inl (upd Ln 0 (nI d))))] H := hP
      have hD : va_D A [(m0, .inr (2, [.ref mt, .int (nI 0), .ref mb, .ref mf, .ref ml, .ref mp, .int xm, .int xg, .ref mo, .int (nI w)])), (mt, .inl (dT, 60, .inl F)), (mf, .inl (dF, 2, .inl Fm)), (ml, .inl (dL, 2, .inl (upd Ln 0 (nI d))))] := hD
      refine lv_iload_n hx hb dXM_length_44 rfl (lv_at hl 0 rfl) ?_
      exact wt_i hx hb hr ((upd Ln 0 (nI d), d)) (Or.inr ⟨by first | rfl | exact hd, rfl, hdl, rfl, fun j hj => pk_un hj⟩) (hP.sub [0, 1, 2, 3] rfl) hK (hD.sub [0, 1, 2, 3] (by decide) rfl) hS dXM_length_45 hlocks
