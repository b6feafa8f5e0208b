set_option maxRecDepth 100000 in
set_option maxHeartbeats 4000000 in
/-- isDigit(c) -/
theorem ct_m_isDigit (l : Launch) (ch : Nat) (hc : ch < 256) : Met l yXM_isDigit wsXM_isDigit ({ frames := 0, cells := 0, slots := 0, locals := 0 }) (va_Pc [.int (nI ch)] (fun _ => True)) (vp_Si (fun r => r = az_b (48 ≤ ch ∧ ch ≤ 57))) 0 0 (fun _ => False) := by
  refine Met.ofW (cc := cXM_isDigit) (maxL := 1) (ret := (some .boolean)) (by decide) rfl ?_
  intro p e s m args below meth c s₁ Bd hml hv
  obtain ⟨rfl, -⟩ := hv
  have hx := Bd.exec
  have hb := Bd.bytes
  have hr := Bd.returns
  have hts := atoms_spec (ws := wsXM_isDigit) Bd.pre
  have hown : s.vm.findClass RXM = some m.cls := findClass_of_methodNamed Bd.named
  have hlocks := Bd.notSynchronized
  have hl := lv_entry ([.int (nI ch)]) (n := 1) (Nat.le_of_ble_eq_true rfl)
  rw [lg_entry_eq]
  generalize (lg_sl ([.int (nI ch)]) ++ List.replicate (1 - (lg_sl ([.int (nI ch)])).length) Slot.unset).toArray = ls at hl ⊢
  have hl : lv_has ls 1 [(0, .int (nI ch))] := hl
  refine lv_iload_n hx hb dXM_isDigit_0 rfl (lv_at hl 0 rfl) ?_
  refine lv_bipush (v := nI 48) hx hb dXM_isDigit_1 (by decide) ?_
  refine bn_lt (tgt := 16) hx hb dXM_isDigit_3 (by decide) (by omega) (by omega) (fun c3 => ?_) (fun c3 => ?_)
  · refine lv_iconst (v := nI 0) hx hb dXM_isDigit_16 (by decide) ?_
    exact rt_z hx hb hr (rfl) ((az_b_f (by omega)).symm) dXM_isDigit_17 hlocks
  · refine lv_iload_n hx hb dXM_isDigit_6 rfl (lv_at hl 0 rfl) ?_
    refine lv_bipush (v := nI 57) hx hb dXM_isDigit_7 (by decide) ?_
    refine bn_gt (tgt := 16) hx hb dXM_isDigit_9 (by decide) (by omega) (by omega) (fun c9 => ?_) (fun c9 => ?_)
    · refine lv_iconst (v := nI 0) hx hb dXM_isDigit_16 (by decide) ?_
      exact rt_z hx hb hr (rfl) ((az_b_f (by omega)).symm) dXM_isDigit_17 hlocks
    · refine lv_iconst (v := nI 1) hx hb dXM_isDigit_12 (by decide) ?_
      refine lv_goto (tgt := 17) hx hb dXM_isDigit_13 (by decide) ?_
      exact rt_z hx hb hr (rfl) ((az_b_t (by omega)).symm) dXM_isDigit_17 hlocks
set_option maxRecDepth 100000 in
set_option maxHeartbeats 4000000 in
/-- hexadecimal(c) -/
theorem ct_m_hexadecimal (l : Launch) (ch : Nat) (hc : ch < 256) : Met l yXM_hexadecimal wsXM_hexadecimal ({ frames := 1, cells := 0, slots := 0, locals := 20 }) (va_Pc [.int (nI ch)] (fun _ => True)) (vp_Si (fun r => r = az_o (az_hd ch))) 0 0 (fun _ => False) := by
  refine Met.ofW (cc := cXM_hexadecimal) (maxL := 1) (ret := (some .int)) (by decide) rfl ?_
  intro p e s m args below meth c s₁ Bd hml hv
  obtain ⟨rfl, -⟩ := hv
  have hx := Bd.exec
  have hb := Bd.bytes
  have hr := Bd.returns
  have hts := atoms_spec (ws := wsXM_hexadecimal) Bd.pre
  have hown : s.vm.findClass RXM = some m.cls := findClass_of_methodNamed Bd.named
  have hlocks := Bd.notSynchronized
  have hl := lv_entry ([.int (nI ch)]) (n := 1) (Nat.le_of_ble_eq_true rfl)
  rw [lg_entry_eq]
  generalize (lg_sl ([.int (nI ch)]) ++ List.replicate (1 - (lg_sl ([.int (nI ch)])).length) Slot.unset).toArray = ls at hl ⊢
  have hl : lv_has ls 1 [(0, .int (nI ch))] := hl
  refine lv_iload_n hx hb dXM_hexadecimal_0 rfl (lv_at hl 0 rfl) ?_
  refine rc_Si (As := [.int (nI ch)]) (rest := []) ⟨hx, hb, hml, hown, hts⟩ (ct_m_isDigit l ch hc) (cwS 1 hts gXM_hexadecimal_XM_isDigit rfl rfl rfl (by decide +kernel) ⟨Nat.le_of_ble_eq_true rfl, Nat.le_of_ble_eq_true rfl⟩) rfl hl.1 rfl (Nat.le_of_ble_eq_true rfl) dXM_hexadecimal_1 ⟨(Nat.zero_le _), (Nat.zero_le _)⟩ ?_
  by_cases hdg : 48 ≤ ch ∧ ch ≤ 57
  · refine tp_i (nI 1) (az_b_t hdg) ?_
    refine lv_if_eq (tgt := 14) hx hb dXM_hexadecimal_4 (by decide) (fun c => absurd c (by decide)) (fun _ => ?_)
    refine lv_iload_n hx hb dXM_hexadecimal_7 rfl (lv_at hl 0 rfl) ?_
    refine lv_bipush (v := nI 48) hx hb dXM_hexadecimal_8 (by decide) ?_
    refine lv_isub hx hb dXM_hexadecimal_10 ?_
    refine tp_i (nI (ch - 48)) (pk_sub (by omega)) ?_
    refine lv_goto (tgt := 59) hx hb dXM_hexadecimal_11 (by decide) ?_
    exact rt_i hx hb hr (by first | (rw [az_hd_a (c := ch) (by omega) (by omega)]; rfl) | (rw [az_hd_b (c := ch) (by omega) (by omega)]; rfl) | (rw [az_hd_c (c := ch) (by omega) (by omega)]; rfl) | (rw [az_hd_n (c := ch) (by omega) (by omega) (by omega)]; rfl)) dXM_hexadecimal_59 hlocks
  · refine tp_i (nI 0) (az_b_f hdg) ?_
    refine lv_if_eq (tgt := 14) hx hb dXM_hexadecimal_4 (by decide) (fun _ => ?_) (fun c => absurd c (by decide))
    refine lv_iload_n hx hb dXM_hexadecimal_14 rfl (lv_at hl 0 rfl) ?_
    refine lv_bipush (v := nI 97) hx hb dXM_hexadecimal_15 (by decide) ?_
    refine bn_lt (tgt := 36) hx hb dXM_hexadecimal_17 (by decide) (by omega) (by omega) (fun c17 => ?_) (fun c17 => ?_)
    · refine lv_iload_n hx hb dXM_hexadecimal_36 rfl (lv_at hl 0 rfl) ?_
      refine lv_bipush (v := nI 65) hx hb dXM_hexadecimal_37 (by decide) ?_
      refine bn_lt (tgt := 58) hx hb dXM_hexadecimal_39 (by decide) (by omega) (by omega) (fun c39 => ?_) (fun c39 => ?_)
      · refine lv_iconst (v := -1) hx hb dXM_hexadecimal_58 (by decide) ?_
        exact rt_i hx hb hr (by first | (rw [az_hd_a (c := ch) (by omega) (by omega)]; rfl) | (rw [az_hd_b (c := ch) (by omega) (by omega)]; rfl) | (rw [az_hd_c (c := ch) (by omega) (by omega)]; rfl) | (rw [az_hd_n (c := ch) (by omega) (by omega) (by omega)]; rfl)) dXM_hexadecimal_59 hlocks
      · refine lv_iload_n hx hb dXM_hexadecimal_42 rfl (lv_at hl 0 rfl) ?_
        refine lv_bipush (v := nI 70) hx hb dXM_hexadecimal_43 (by decide) ?_
        refine bn_gt (tgt := 58) hx hb dXM_hexadecimal_45 (by decide) (by omega) (by omega) (fun c45 => ?_) (fun c45 => ?_)
        · refine lv_iconst (v := -1) hx hb dXM_hexadecimal_58 (by decide) ?_
          exact rt_i hx hb hr (by first | (rw [az_hd_a (c := ch) (by omega) (by omega)]; rfl) | (rw [az_hd_b (c := ch) (by omega) (by omega)]; rfl) | (rw [az_hd_c (c := ch) (by omega) (by omega)]; rfl) | (rw [az_hd_n (c := ch) (by omega) (by omega) (by omega)]; rfl)) dXM_hexadecimal_59 hlocks
        · refine lv_iload_n hx hb dXM_hexadecimal_48 rfl (lv_at hl 0 rfl) ?_
          refine lv_bipush (v := nI 65) hx hb dXM_hexadecimal_49 (by decide) ?_
          refine lv_isub hx hb dXM_hexadecimal_51 ?_
          refine tp_i (nI (ch - 65)) (pk_sub (by omega)) ?_
          refine lv_bipush (v := nI 10) hx hb dXM_hexadecimal_52 (by decide) ?_
          refine lv_iadd hx hb dXM_hexadecimal_54 ?_
          refine tp_i (nI ((ch - 65) + 10)) (nI_add _ _) ?_
          refine lv_goto (tgt := 59) hx hb dXM_hexadecimal_55 (by decide) ?_
          exact rt_i hx hb hr (by first | (rw [az_hd_a (c := ch) (by omega) (by omega)]; rfl) | (rw [az_hd_b (c := ch) (by omega) (by omega)]; rfl) | (rw [az_hd_c (c := ch) (by omega) (by omega)]; rfl) | (rw [az_hd_n (c := ch) (by omega) (by omega) (by omega)]; rfl)) dXM_hexadecimal_59 hlocks
    · refine lv_iload_n hx hb dXM_hexadecimal_20 rfl (lv_at hl 0 rfl) ?_
      refine lv_bipush (v := nI 102) hx hb dXM_hexadecimal_21 (by decide) ?_
      refine bn_gt (tgt := 36) hx hb dXM_hexadecimal_23 (by decide) (by omega) (by omega) (fun c23 => ?_) (fun c23 => ?_)
      · refine lv_iload_n hx hb dXM_hexadecimal_36 rfl (lv_at hl 0 rfl) ?_
        refine lv_bipush (v := nI 65) hx hb dXM_hexadecimal_37 (by decide) ?_
        refine bn_lt (tgt := 58) hx hb dXM_hexadecimal_39 (by decide) (by omega) (by omega) (fun c39 => ?_) (fun c39 => ?_)
        · refine lv_iconst (v := -1) hx hb dXM_hexadecimal_58 (by decide) ?_
          exact rt_i hx hb hr (by first | (rw [az_hd_a (c := ch) (by omega) (by omega)]; rfl) | (rw [az_hd_b (c := ch) (by omega) (by omega)]; rfl) | (rw [az_hd_c (c := ch) (by omega) (by omega)]; rfl) | (rw [az_hd_n (c := ch) (by omega) (by omega) (by omega)]; rfl)) dXM_hexadecimal_59 hlocks
        · refine lv_iload_n hx hb dXM_hexadecimal_42 rfl (lv_at hl 0 rfl) ?_
          refine lv_bipush (v := nI 70) hx hb dXM_hexadecimal_43 (by decide) ?_
          refine bn_gt (tgt := 58) hx hb dXM_hexadecimal_45 (by decide) (by omega) (by omega) (fun c45 => ?_) (fun c45 => ?_)
          · refine lv_iconst (v := -1) hx hb dXM_hexadecimal_58 (by decide) ?_
            exact rt_i hx hb hr (by first | (rw [az_hd_a (c := ch) (by omega) (by omega)]; rfl) | (rw [az_hd_b (c := ch) (by omega) (by omega)]; rfl) | (rw [az_hd_c (c := ch) (by omega) (by omega)]; rfl) | (rw [az_hd_n (c := ch) (by omega) (by omega) (by omega)]; rfl)) dXM_hexadecimal_59 hlocks
          · refine lv_iload_n hx hb dXM_hexadecimal_48 rfl (lv_at hl 0 rfl) ?_
            refine lv_bipush (v := nI 65) hx hb dXM_hexadecimal_49 (by decide) ?_
            refine lv_isub hx hb dXM_hexadecimal_51 ?_
            refine tp_i (nI (ch - 65)) (pk_sub (by omega)) ?_
            refine lv_bipush (v := nI 10) hx hb dXM_hexadecimal_52 (by decide) ?_
            refine lv_iadd hx hb dXM_hexadecimal_54 ?_
            refine tp_i (nI ((ch - 65) + 10)) (nI_add _ _) ?_
            refine lv_goto (tgt := 59) hx hb dXM_hexadecimal_55 (by decide) ?_
            exact rt_i hx hb hr (by first | (rw [az_hd_a (c := ch) (by omega) (by omega)]; rfl) | (rw [az_hd_b (c := ch) (by omega) (by omega)]; rfl) | (rw [az_hd_c (c := ch) (by omega) (by omega)]; rfl) | (rw [az_hd_n (c := ch) (by omega) (by omega) (by omega)]; rfl)) dXM_hexadecimal_59 hlocks
      · refine lv_iload_n hx hb dXM_hexadecimal_26 rfl (lv_at hl 0 rfl) ?_
        refine lv_bipush (v := nI 97) hx hb dXM_hexadecimal_27 (by decide) ?_
        refine lv_isub hx hb dXM_hexadecimal_29 ?_
        refine tp_i (nI (ch - 97)) (pk_sub (by omega)) ?_
        refine lv_bipush (v := nI 10) hx hb dXM_hexadecimal_30 (by decide) ?_
        refine lv_iadd hx hb dXM_hexadecimal_32 ?_
        refine tp_i (nI ((ch - 97) + 10)) (nI_add _ _) ?_
        refine lv_goto (tgt := 59) hx hb dXM_hexadecimal_33 (by decide) ?_
        exact rt_i hx hb hr (by first | (rw [az_hd_a (c := ch) (by omega) (by omega)]; rfl) | (rw [az_hd_b (c := ch) (by omega) (by omega)]; rfl) | (rw [az_hd_c (c := ch) (by omega) (by omega)]; rfl) | (rw [az_hd_n (c := ch) (by omega) (by omega) (by omega)]; rfl)) dXM_hexadecimal_59 hlocks
set_option maxRecDepth 100000 in
set_option maxHeartbeats 4000000 in
/-- decimal(from, to, most) -/
theorem ct_m_decimal (l : Launch) (dC : Nat → ClassId) (dI : Nat → Nat → Nat) (m0 mt mb mf ml mp mo n w : Nat) (xm xg : Int32) (dT : ClassId) (F : Nat → Int32) (T : Nat → Nat) (hF : az_mt F T n) (hn : n ≤ 60) (fr to most : Nat) (hft : fr ≤ to) (hto : to ≤ n) (hmo : most ≤ 255) : Met l yXM_decimal wsXM_decimal ({ frames := 1, cells := 0, slots := 0, locals := 20 }) (rd_P (dC, dI) azCl [(m0, .inr (2, [.ref mt, .int (nI n), .ref mb, .ref mf, .ref ml, .ref mp, .int xm, .int xg, .ref mo, .int (nI w)])), (mt, .inl (dT, 60, .inl F))] [(dT, .int)] [.ref m0, .int (nI fr), .int (nI to), .int (nI most)]) (vp_Si (fun r => r = az_o (az_dc T fr to most))) 0 0 (fun _ => False) := by
  refine Met.ofW (cc := cXM_decimal) (maxL := 6) (ret := (some .int)) (by decide) rfl ?_
  intro p e s m args below meth c s₁ Bd hml hv
  obtain ⟨rfl, hP, hK⟩ := hv
  have hx := Bd.exec
  have hb := Bd.bytes
  have hr := Bd.returns
  have hts := atoms_spec (ws := wsXM_decimal) Bd.pre
  have hown : s.vm.findClass RXM = some m.cls := findClass_of_methodNamed Bd.named
  have hlocks := Bd.notSynchronized
  have hiXM : ∀ w ∈ wsXM0, w ∈ wsXM_decimal := by decide +kernel
  have hf7 := hts (.fieldLink RXM 7 "AddressTextsModel" "tape" "[I") (by decide +kernel)
  have hl := lv_entry ([.ref m0, .int (nI fr), .int (nI to), .int (nI most)]) (n := 6) (Nat.le_of_ble_eq_true rfl)
  rw [lg_entry_eq]
  generalize (lg_sl ([.ref m0, .int (nI fr), .int (nI to), .int (nI most)]) ++ List.replicate (6 - (lg_sl ([.ref m0, .int (nI fr), .int (nI to), .int (nI most)])).length) Slot.unset).toArray = ls at hl ⊢
  have hl : lv_has ls 6 [(0, .ref m0), (1, .int (nI fr)), (2, .int (nI to)), (3, .int (nI most))] := hl
  refine lv_iload_n hx hb dXM_decimal_0 rfl (lv_at hl 1 rfl) ?_
  refine lv_iload_n hx hb dXM_decimal_1 rfl (lv_at hl 2 rfl) ?_
  refine bn_eq (tgt := 30) hx hb dXM_decimal_2 (by decide) (by omega) (by omega) (fun c2 => ?_) (fun c2 => ?_)
  · refine lv_iconst (v := -1) hx hb dXM_decimal_30 (by decide) ?_
    exact rt_i hx hb hr (by first | (rw [az_dc_n (T := T) (fr := fr) (to := to) (by omega)]; rfl) | (rw [az_dc_long (by omega) c9]; rfl)) dXM_decimal_31 hlocks
  · refine lv_iload_n hx hb dXM_decimal_5 rfl (lv_at hl 2 rfl) ?_
    refine lv_iload_n hx hb dXM_decimal_6 rfl (lv_at hl 1 rfl) ?_
    refine lv_isub hx hb dXM_decimal_7 ?_
    refine tp_i (nI (to - fr)) (pk_sub (by omega)) ?_
    refine lv_iconst (v := nI 3) hx hb dXM_decimal_8 (by decide) ?_
    refine bn_gt (tgt := 30) hx hb dXM_decimal_9 (by decide) (by omega) (by omega) (fun c9 => ?_) (fun c9 => ?_)
    · refine lv_iconst (v := -1) hx hb dXM_decimal_30 (by decide) ?_
      exact rt_i hx hb hr (by first | (rw [az_dc_n (T := T) (fr := fr) (to := to) (by omega)]; rfl) | (rw [az_dc_long (by omega) c9]; rfl)) dXM_decimal_31 hlocks
    · refine lv_iload_n hx hb dXM_decimal_12 rfl (lv_at hl 2 rfl) ?_
      refine lv_iload_n hx hb dXM_decimal_13 rfl (lv_at hl 1 rfl) ?_
      refine lv_isub hx hb dXM_decimal_14 ?_
      refine tp_i (nI (to - fr)) (pk_sub (by omega)) ?_
      refine lv_iconst (v := nI 1) hx hb dXM_decimal_15 (by decide) ?_
      refine bn_le (tgt := 32) hx hb dXM_decimal_16 (by decide) (by omega) (by omega) (fun c16 => ?_) (fun c16 => ?_)
      · have hgo : ¬ (T fr = 48 ∧ 1 < to - fr) := by omega
        refine lv_iconst (v := nI 0) hx hb dXM_decimal_32 (by decide) ?_
        refine lv_istore (lv' := [(4, .int (nI 0)), (0, .ref m0), (1, .int (nI fr)), (2, .int (nI to)), (3, .int (nI most))]) hx hb dXM_decimal_33 hl (by decide) rfl (fun ls hl => ?_)
        refine lv_iload_n hx hb dXM_decimal_35 rfl (lv_at hl 2 rfl) ?_
        refine lv_istore (lv' := [(5, .int (nI fr)), (4, .int (nI 0)), (0, .ref m0), (1, .int (nI fr)), (2, .int (nI to)), (3, .int (nI most))]) hx hb dXM_decimal_36 hl (by decide) rfl (fun ls hl => ?_)
        have lp38 : ∀ (N : Nat) (i : Nat) (v : Nat), (fr ≤ i) → (i ≤ to) → (v < 10 ^ (i - fr)) → (az_dmF T (to - i) i v = az_dmF T (to - fr) fr 0) → (to - i) < N → ∀ (ls : Array Slot), lv_has ls 6 [(0, .ref m0), (1, .int (nI fr)), (2, .int (nI to)), (3, .int (nI most)), (4, .int (nI v)), (5, .int (nI i))] → W p l e (headSpec wsXM_decimal ({ frames := 1, cells := 0, slots := 0, locals := 20 })).room s m ([.ref m0, .int (nI fr), .int (nI to), .int (nI most)] : List Value).toArray below meth c s.heap [] 0 0 (MQ below (vp_Si (fun r => r = az_o (az_dc T fr to most))) ([.ref m0, .int (nI fr), .int (nI to), .int (nI most)] : List Value).toArray s 0 0 (fun _ => False)) (F0 m 38 ls []) := by
          intro N
          induction N with
          | zero => intro i v hi hi2 hv hq hN; exact absurd hN (Nat.not_lt_zero _)
          | succ N ih =>
            intro i v hi hi2 hv hq hN ls hl
            refine lv_iload hx hb dXM_decimal_38 (lv_at hl 5 rfl) ?_
            refine lv_iload_n hx hb dXM_decimal_40 rfl (lv_at hl 2 rfl) ?_
            refine bn_ge (tgt := 83) hx hb dXM_decimal_41 (by decide) (by omega) (by omega) (fun c41 => ?_) (fun c41 => ?_)
            · have hv4 : 10 ^ (i - fr) ≤ 1000 := az_p10 (by omega)
              have hall : az_dmF T (to - fr) fr 0 = some v := by rw [← hq, show to - i = 0 by omega]; rfl
              refine lv_iload hx hb dXM_decimal_83 (lv_at hl 4 rfl) ?_
              refine lv_iload_n hx hb dXM_decimal_85 rfl (lv_at hl 3 rfl) ?_
              refine bn_le (tgt := 93) hx hb dXM_decimal_86 (by decide) (by omega) (by omega) (fun c86 => ?_) (fun c86 => ?_)
              · refine lv_iload hx hb dXM_decimal_93 (lv_at hl 4 rfl) ?_
                exact rt_i hx hb hr (by rw [az_dc_m (by omega) hgo, hall]; first | exact (az_cap_y c86).symm | exact (az_cap_n c86).symm) dXM_decimal_95 hlocks
              · refine lv_iconst (v := -1) hx hb dXM_decimal_89 (by decide) ?_
                refine lv_goto (tgt := 95) hx hb dXM_decimal_90 (by decide) ?_
                exact rt_i hx hb hr (by rw [az_dc_m (by omega) hgo, hall]; first | exact (az_cap_y c86).symm | exact (az_cap_n c86).symm) dXM_decimal_95 hlocks
            · have hin : i < n := Nat.lt_of_lt_of_le c41 hto
              have hTi := (hF i hin).2
              have hv4 : 10 ^ (i - fr) ≤ 1000 := az_p10 (by omega)
              refine lv_aload_n hx hb dXM_decimal_44 rfl (lv_at hl 0 rfl) ?_
              refine va_get (D := (dC, dI)) (ci := 2) (v := .ref mt) (C := RXM) (T := TXM) (N := 10) hx hb hts hiXM hown hK hP 0 rfl rfl 0 (by decide) hf7 (fun _ h9 => h9) rfl dXM_decimal_45 ?_
              refine lv_iload hx hb dXM_decimal_48 (lv_at hl 5 rfl) ?_
              refine ld_i hx hb hK hP 1 0 rfl rfl (by omega) (by omega) dXM_decimal_50 ?_
              refine tp_i (nI (T i)) ((hF i (hin)).1) ?_
              refine rc_Si (As := [.int (nI (T i))]) (rest := []) ⟨hx, hb, hml, hown, hts⟩ (ct_m_isDigit l (T i) hTi) (cwS 1 hts gXM_decimal_XM_isDigit rfl rfl rfl (by decide +kernel) ⟨Nat.le_of_ble_eq_true rfl, Nat.le_of_ble_eq_true rfl⟩) rfl hl.1 rfl (Nat.le_of_ble_eq_true rfl) dXM_decimal_51 ⟨(Nat.zero_le _), (Nat.zero_le _)⟩ ?_
              by_cases hdg : 48 ≤ T i ∧ T i ≤ 57
              · refine tp_i (nI 1) (az_b_t hdg) ?_
                refine lv_if_ne (tgt := 59) hx hb dXM_decimal_54 (by decide) (fun _ => ?_) (fun c => absurd c (by decide))
                refine lv_bipush (v := nI 10) hx hb dXM_decimal_59 (by decide) ?_
                refine lv_iload hx hb dXM_decimal_61 (lv_at hl 4 rfl) ?_
                refine lv_imul hx hb dXM_decimal_63 ?_
                refine tp_i (nI (10 * v)) (pk_mul _ _) ?_
                refine lv_aload_n hx hb dXM_decimal_64 rfl (lv_at hl 0 rfl) ?_
                refine va_get (D := (dC, dI)) (ci := 2) (v := .ref mt) (C := RXM) (T := TXM) (N := 10) hx hb hts hiXM hown hK hP 0 rfl rfl 0 (by decide) hf7 (fun _ h9 => h9) rfl dXM_decimal_65 ?_
                refine lv_iload hx hb dXM_decimal_68 (lv_at hl 5 rfl) ?_
                refine ld_i hx hb hK hP 1 0 rfl rfl (by omega) (by omega) dXM_decimal_70 ?_
                refine tp_i (nI (T i)) ((hF i (hin)).1) ?_
                refine lv_iadd hx hb dXM_decimal_71 ?_
                refine tp_i (nI ((10 * v) + (T i))) (nI_add _ _) ?_
                refine lv_bipush (v := nI 48) hx hb dXM_decimal_72 (by decide) ?_
                refine lv_isub hx hb dXM_decimal_74 ?_
                refine tp_i (nI (((10 * v) + (T i)) - 48)) (pk_sub (by omega)) ?_
                refine lv_istore (lv' := [(4, .int (nI (((10 * v) + (T i)) - 48))), (0, .ref m0), (1, .int (nI fr)), (2, .int (nI to)), (3, .int (nI most)), (5, .int (nI i))]) hx hb dXM_decimal_75 hl (by decide) rfl (fun ls hl => ?_)
                refine lv_iinc (v := nI (i + 1)) (lv' := [(5, .int (nI (i + 1))), (4, .int (nI (((10 * v) + (T i)) - 48))), (0, .ref m0), (1, .int (nI fr)), (2, .int (nI to)), (3, .int (nI most))]) hx hb dXM_decimal_77 hl (k := 5) rfl (nI_add _ 1) (by decide) rfl (fun ls hl => ?_)
                refine lv_goto (tgt := 38) hx hb dXM_decimal_80 (by decide) ?_
                exact ih (i + 1) (10 * v + T i - 48) (by omega) (by omega) (by rw [show i + 1 - fr = (i - fr) + 1 by omega]; exact az_p10s hv (by omega) (by omega)) (by rw [← hq, az_dm_step c41 hdg]) (by omega) ls (lv_sub hl [2, 3, 4, 5, 1, 0] rfl)
              · refine tp_i (nI 0) (az_b_f hdg) ?_
                refine lv_if_ne (tgt := 59) hx hb dXM_decimal_54 (by decide) (fun c => absurd c (by decide)) (fun _ => ?_)
                refine lv_iconst (v := -1) hx hb dXM_decimal_57 (by decide) ?_
                exact rt_i hx hb hr (by rw [az_dc_m (by omega) hgo, ← hq, az_dm_bad c41 hdg]; rfl) dXM_decimal_58 hlocks
        exact lp38 _ fr 0 (Nat.le_refl _) (hft) (by rw [Nat.sub_self]; decide) (rfl) (Nat.lt_succ_self _) ls (lv_sub hl [2, 3, 4, 5, 1, 0] rfl)
      · have hTf := (hF fr (by omega)).2
        refine lv_aload_n hx hb dXM_decimal_19 rfl (lv_at hl 0 rfl) ?_
        refine va_get (D := (dC, dI)) (ci := 2) (v := .ref mt) (C := RXM) (T := TXM) (N := 10) hx hb hts hiXM hown hK hP 0 rfl rfl 0 (by decide) hf7 (fun _ h9 => h9) rfl dXM_decimal_20 ?_
        refine lv_iload_n hx hb dXM_decimal_23 rfl (lv_at hl 1 rfl) ?_
        refine ld_i hx hb hK hP 1 0 rfl rfl (by omega) (by omega) dXM_decimal_24 ?_
        refine tp_i (nI (T fr)) ((hF fr (by omega)).1) ?_
        refine lv_bipush (v := nI 48) hx hb dXM_decimal_25 (by decide) ?_
        refine bn_ne (tgt := 32) hx hb dXM_decimal_27 (by decide) (by omega) (by omega) (fun c27 => ?_) (fun c27 => ?_)
        · have hgo : ¬ (T fr = 48 ∧ 1 < to - fr) := by omega
          refine lv_iconst (v := nI 0) hx hb dXM_decimal_32 (by decide) ?_
          refine lv_istore (lv' := [(4, .int (nI 0)), (0, .ref m0), (1, .int (nI fr)), (2, .int (nI to)), (3, .int (nI most))]) hx hb dXM_decimal_33 hl (by decide) rfl (fun ls hl => ?_)
          refine lv_iload_n hx hb dXM_decimal_35 rfl (lv_at hl 2 rfl) ?_
          refine lv_istore (lv' := [(5, .int (nI fr)), (4, .int (nI 0)), (0, .ref m0), (1, .int (nI fr)), (2, .int (nI to)), (3, .int (nI most))]) hx hb dXM_decimal_36 hl (by decide) rfl (fun ls hl => ?_)
          have lp38 : ∀ (N : Nat) (i : Nat) (v : Nat), (fr ≤ i) → (i ≤ to) → (v < 10 ^ (i - fr)) → (az_dmF T (to - i) i v = az_dmF T (to - fr) fr 0) → (to - i) < N → ∀ (ls : Array Slot), lv_has ls 6 [(0, .ref m0), (1, .int (nI fr)), (2, .int (nI to)), (3, .int (nI most)), (4, .int (nI v)), (5, .int (nI i))] → W p l e (headSpec wsXM_decimal ({ frames := 1, cells := 0, slots := 0, locals := 20 })).room s m ([.ref m0, .int (nI fr), .int (nI to), .int (nI most)] : List Value).toArray below meth c s.heap [] 0 0 (MQ below (vp_Si (fun r => r = az_o (az_dc T fr to most))) ([.ref m0, .int (nI fr), .int (nI to), .int (nI most)] : List Value).toArray s 0 0 (fun _ => False)) (F0 m 38 ls []) := by
            intro N
            induction N with
            | zero => intro i v hi hi2 hv hq hN; exact absurd hN (Nat.not_lt_zero _)
            | succ N ih =>
              intro i v hi hi2 hv hq hN ls hl
              refine lv_iload hx hb dXM_decimal_38 (lv_at hl 5 rfl) ?_
              refine lv_iload_n hx hb dXM_decimal_40 rfl (lv_at hl 2 rfl) ?_
              refine bn_ge (tgt := 83) hx hb dXM_decimal_41 (by decide) (by omega) (by omega) (fun c41 => ?_) (fun c41 => ?_)
              · have hv4 : 10 ^ (i - fr) ≤ 1000 := az_p10 (by omega)
                have hall : az_dmF T (to - fr) fr 0 = some v := by rw [← hq, show to - i = 0 by omega]; rfl
                refine lv_iload hx hb dXM_decimal_83 (lv_at hl 4 rfl) ?_
                refine lv_iload_n hx hb dXM_decimal_85 rfl (lv_at hl 3 rfl) ?_
                refine bn_le (tgt := 93) hx hb dXM_decimal_86 (by decide) (by omega) (by omega) (fun c86 => ?_) (fun c86 => ?_)
                · refine lv_iload hx hb dXM_decimal_93 (lv_at hl 4 rfl) ?_
                  exact rt_i hx hb hr (by rw [az_dc_m (by omega) hgo, hall]; first | exact (az_cap_y c86).symm | exact (az_cap_n c86).symm) dXM_decimal_95 hlocks
                · refine lv_iconst (v := -1) hx hb dXM_decimal_89 (by decide) ?_
                  refine lv_goto (tgt := 95) hx hb dXM_decimal_90 (by decide) ?_
                  exact rt_i hx hb hr (by rw [az_dc_m (by omega) hgo, hall]; first | exact (az_cap_y c86).symm | exact (az_cap_n c86).symm) dXM_decimal_95 hlocks
              · have hin : i < n := Nat.lt_of_lt_of_le c41 hto
                have hTi := (hF i hin).2
                have hv4 : 10 ^ (i - fr) ≤ 1000 := az_p10 (by omega)
                refine lv_aload_n hx hb dXM_decimal_44 rfl (lv_at hl 0 rfl) ?_
                refine va_get (D := (dC, dI)) (ci := 2) (v := .ref mt) (C := RXM) (T := TXM) (N := 10) hx hb hts hiXM hown hK hP 0 rfl rfl 0 (by decide) hf7 (fun _ h9 => h9) rfl dXM_decimal_45 ?_
                refine lv_iload hx hb dXM_decimal_48 (lv_at hl 5 rfl) ?_
                refine ld_i hx hb hK hP 1 0 rfl rfl (by omega) (by omega) dXM_decimal_50 ?_
                refine tp_i (nI (T i)) ((hF i (hin)).1) ?_
                refine rc_Si (As := [.int (nI (T i))]) (rest := []) ⟨hx, hb, hml, hown, hts⟩ (ct_m_isDigit l (T i) hTi) (cwS 1 hts gXM_decimal_XM_isDigit rfl rfl rfl (by decide +kernel) ⟨Nat.le_of_ble_eq_true rfl, Nat.le_of_ble_eq_true rfl⟩) rfl hl.1 rfl (Nat.le_of_ble_eq_true rfl) dXM_decimal_51 ⟨(Nat.zero_le _), (Nat.zero_le _)⟩ ?_
                by_cases hdg : 48 ≤ T i ∧ T i ≤ 57
                · refine tp_i (nI 1) (az_b_t hdg) ?_
                  refine lv_if_ne (tgt := 59) hx hb dXM_decimal_54 (by decide) (fun _ => ?_) (fun c => absurd c (by decide))
                  refine lv_bipush (v := nI 10) hx hb dXM_decimal_59 (by decide) ?_
                  refine lv_iload hx hb dXM_decimal_61 (lv_at hl 4 rfl) ?_
                  refine lv_imul hx hb dXM_decimal_63 ?_
                  refine tp_i (nI (10 * v)) (pk_mul _ _) ?_
                  refine lv_aload_n hx hb dXM_decimal_64 rfl (lv_at hl 0 rfl) ?_
                  refine va_get (D := (dC, dI)) (ci := 2) (v := .ref mt) (C := RXM) (T := TXM) (N := 10) hx hb hts hiXM hown hK hP 0 rfl rfl 0 (by decide) hf7 (fun _ h9 => h9) rfl dXM_decimal_65 ?_
                  refine lv_iload hx hb dXM_decimal_68 (lv_at hl 5 rfl) ?_
                  refine ld_i hx hb hK hP 1 0 rfl rfl (by omega) (by omega) dXM_decimal_70 ?_
                  refine tp_i (nI (T i)) ((hF i (hin)).1) ?_
                  refine lv_iadd hx hb dXM_decimal_71 ?_
                  refine tp_i (nI ((10 * v) + (T i))) (nI_add _ _) ?_
                  refine lv_bipush (v := nI 48) hx hb dXM_decimal_72 (by decide) ?_
                  refine lv_isub hx hb dXM_decimal_74 ?_
                  refine tp_i (nI (((10 * v) + (T i)) - 48)) (pk_sub (by omega)) ?_
                  refine lv_istore (lv' := [(4, .int (nI (((10 * v) + (T i)) - 48))), (0, .ref m0), (1, .int (nI fr)), (2, .int (nI to)), (3, .int (nI most)), (5, .int (nI i))]) hx hb dXM_decimal_75 hl (by decide) rfl (fun ls hl => ?_)
                  refine lv_iinc (v := nI (i + 1)) (lv' := [(5, .int (nI (i + 1))), (4, .int (nI (((10 * v) + (T i)) - 48))), (0, .ref m0), (1, .int (nI fr)), (2, .int (nI to)), (3, .int (nI most))]) hx hb dXM_decimal_77 hl (k := 5) rfl (nI_add _ 1) (by decide) rfl (fun ls hl => ?_)
                  refine lv_goto (tgt := 38) hx hb dXM_decimal_80 (by decide) ?_
                  exact ih (i + 1) (10 * v + T i - 48) (by omega) (by omega) (by rw [show i + 1 - fr = (i - fr) + 1 by omega]; exact az_p10s hv (by omega) (by omega)) (by rw [← hq, az_dm_step c41 hdg]) (by omega) ls (lv_sub hl [2, 3, 4, 5, 1, 0] rfl)
                · refine tp_i (nI 0) (az_b_f hdg) ?_
                  refine lv_if_ne (tgt := 59) hx hb dXM_decimal_54 (by decide) (fun c => absurd c (by decide)) (fun _ => ?_)
                  refine lv_iconst (v := -1) hx hb dXM_decimal_57 (by decide) ?_
                  exact rt_i hx hb hr (by rw [az_dc_m (by omega) hgo, ← hq, az_dm_bad c41 hdg]; rfl) dXM_decimal_58 hlocks
          exact lp38 _ fr 0 (Nat.le_refl _) (hft) (by rw [Nat.sub_self]; decide) (rfl) (Nat.lt_succ_self _) ls (lv_sub hl [2, 3, 4, 5, 1, 0] rfl)
        · refine lv_iconst (v := -1) hx hb dXM_decimal_30 (by decide) ?_
          exact rt_i hx hb hr (by first | (rw [az_dc_n (T := T) (fr := fr) (to := to) (by omega)]; rfl) | (rw [az_dc_long (by omega) c9]; rfl)) dXM_decimal_31 hlocks
set_option maxRecDepth 100000 in
set_option maxHeartbeats 4000000 in
/-- end(x) -/
theorem ct_m_end (l : Launch) (dC : Nat → ClassId) (dI : Nat → Nat → Nat) (sz : Nat) (m0 mt mb mf ml mp mo n w : Nat) (xm xg : Int32) (x : Int32) (hn : n ≤ 60) : Met l yXM_end wsXM_end ({ frames := 0, cells := 0, slots := 0, locals := 0 }) (wr_P (dC, dI) azCl [(m0, .inr (2, [.ref mt, .int (nI n), .ref mb, .ref mf, .ref ml, .ref mp, .int xm, .int xg, .ref mo, .int (nI w)]))] [] sz [.ref m0, .int x]) (va_Qi (fun r u => u ≤ n ∧ (((x < 0 ∨ ¬ x ≤ nI n) ∧ r = nI 0 ∧ u = n) ∨ (¬ x < 0 ∧ x ≤ nI n ∧ r = nI 1 ∧ x = nI u))) (wr_B (dC, dI) azCl [] (va_A [(m0, .inr (2, [.ref mt, .int (nI n), .ref mb, .ref mf, .ref ml, .ref mp, .int xm, .int xg, .ref mo, .int (nI w)]))] sz) (fun u : Nat => [(m0, .inr (2, [.ref mt, .int (nI u), .ref mb, .ref mf, .ref ml, .ref mp, .int xm, .int xg, .ref mo, .int (nI w)]))])) (va_A [(m0, .inr (2, [.ref mt, .int (nI n), .ref mb, .ref mf, .ref ml, .ref mp, .int xm, .int xg, .ref mo, .int (nI w)]))] sz)) 0 0 (va_A [(m0, .inr (2, [.ref mt, .int (nI n), .ref mb, .ref mf, .ref ml, .ref mp, .int xm, .int xg, .ref mo, .int (nI w)]))] sz) := by
  refine Met.ofW (cc := cXM_end) (maxL := 2) (ret := (some .boolean)) (by decide) rfl ?_
  intro p e s m args below meth c s₁ Bd hml hv
  obtain ⟨rfl, hsz, hP, hK, hD0⟩ := hv
  have hx := Bd.exec
  have hb := Bd.bytes
  have hr := Bd.returns
  have hts := atoms_spec (ws := wsXM_end) Bd.pre
  have hown : s.vm.findClass RXM = some m.cls := findClass_of_methodNamed Bd.named
  have hlocks := Bd.notSynchronized
  subst hsz
  have hD := hD0.self (sz := s.heap.size)
  generalize hAe : va_A [(m0, .inr (2, [.ref mt, .int (nI n), .ref mb, .ref mf, .ref ml, .ref mp, .int xm, .int xg, .ref mo, .int (nI w)]))] s.heap.size = A at hD ⊢
  have hA : ∀ q : Nat, s.heap.size ≤ q → A q := fun q h => by rw [← hAe]; exact Or.inr h
  have hS : va_S A s.heap s.heap [] := va_S.rf
  have hP : va_P (dC, dI) azCl [(m0, .inr (2, [.ref mt, .int (nI n), .ref mb, .ref mf, .ref ml, .ref mp, .int xm, .int xg, .ref mo, .int (nI w)]))] s.heap := hP
  have hiXM : ∀ w ∈ wsXM0, w ∈ wsXM_end := by decide +kernel
  have hf28 := hts (.fieldLink RXM 28 "AddressTextsModel" "size" "I") (by decide +kernel)
  have hl := lv_entry ([.ref m0, .int x]) (n := 2) (Nat.le_of_ble_eq_true rfl)
  rw [lg_entry_eq]
  generalize (lg_sl ([.ref m0, .int x]) ++ List.replicate (2 - (lg_sl ([.ref m0, .int x])).length) Slot.unset).toArray = ls at hl ⊢
  have hl : lv_has ls 2 [(0, .ref m0), (1, .int x)] := hl
  refine lv_iload_n hx hb dXM_end_0 rfl (lv_at hl 1 rfl) ?_
  refine lv_if_lt (tgt := 12) hx hb dXM_end_1 (by decide) (fun c1 => ?_) (fun c1 => ?_)
  · refine lv_iconst (v := nI 0) hx hb dXM_end_12 (by decide) ?_
    exact wt_z hx hb hr (rfl) (n) (⟨by omega, Or.inl ⟨by first | exact Or.inl c1 | exact Or.inr c9, rfl, rfl⟩⟩) (hP.sub [0] rfl) hK (hD.sub [0] (by decide) rfl) hS dXM_end_13 hlocks
  · refine lv_iload_n hx hb dXM_end_4 rfl (lv_at hl 1 rfl) ?_
    refine lv_aload_n hx hb dXM_end_5 rfl (lv_at hl 0 rfl) ?_
    refine va_get (D := (dC, dI)) (ci := 2) (v := .int (nI n)) (C := RXM) (T := TXM) (N := 10) hx hb hts hiXM hown hK hP 0 rfl rfl 1 (by decide) hf28 (fun _ h9 => h9) rfl dXM_end_6 ?_
    refine lv_icmp_le (tgt := 14) hx hb dXM_end_9 (by decide) (fun c9 => ?_) (fun c9 => ?_)
    · obtain ⟨k, hk31, rfl⟩ := nI_of c1
      have hkn : k ≤ n := (nI_leI hk31 (by omega)).mp c9
      refine lv_aload_n hx hb dXM_end_14 rfl (lv_at hl 0 rfl) ?_
      refine lv_iload_n hx hb dXM_end_15 rfl (lv_at hl 1 rfl) ?_
      refine va_put (D := (dC, dI)) (ci := 2) (v := .int (nI k)) (ty := .int) (C := RXM) (T := TXM) (N := 10) hx hb hts hiXM tyXM tyXM_ok nmXM hown hK hP hD hS 0 rfl rfl 1 (by decide) hf28 (fun _ h9 => h9) rfl (by decide +kernel) rfl rfl (Nat.le_of_ble_eq_true rfl) dXM_end_16 (fun H locs hP hD hS => ?_)
      have hP : va_P (dC, dI) azCl [(m0, .inr (2, [.ref mt, .int (nI k), .ref mb, .ref mf, .ref ml, .ref mp, .int xm, .int xg, .ref mo, .int (nI w)]))] H := hP
      have hD : va_D A [(m0, .inr (2, [.ref mt, .int (nI k), .ref mb, .ref mf, .ref ml, .ref mp, .int xm, .int xg, .ref mo, .int (nI w)]))] := hD
      refine lv_iconst (v := nI 1) hx hb dXM_end_19 (by decide) ?_
      exact wt_z hx hb hr (rfl) (k) (⟨hkn, Or.inr ⟨c1, c9, rfl, rfl⟩⟩) (hP.sub [0] rfl) hK (hD.sub [0] (by decide) rfl) hS dXM_end_20 hlocks
    · refine lv_iconst (v := nI 0) hx hb dXM_end_12 (by decide) ?_
      exact wt_z hx hb hr (rfl) (n) (⟨by omega, Or.inl ⟨by first | exact Or.inl c1 | exact Or.inr c9, rfl, rfl⟩⟩) (hP.sub [0] rfl) hK (hD.sub [0] (by decide) rfl) hS dXM_end_13 hlocks
set_option maxRecDepth 100000 in
set_option maxHeartbeats 4000000 in
/-- lay(a) -/
theorem ct_m_lay (l : Launch) (dC : Nat → ClassId) (dI : Nat → Nat → Nat) (sz : Nat) (m0 mt mb mf ml mp mo n w : Nat) (xm xg : Int32) (dT : ClassId) (F : Nat → Int32) (T : Nat → Nat) (hF : az_mt F T n) (a : Int32) (hn : n + 4 ≤ 60) : Met l yXM_lay wsXM_lay ({ frames := 0, cells := 0, slots := 0, locals := 0 }) (wr_P (dC, dI) azCl [(m0, .inr (2, [.ref mt, .int (nI n), .ref mb, .ref mf, .ref ml, .ref mp, .int xm, .int xg, .ref mo, .int (nI w)])), (mt, .inl (dT, 60, .inl F))] [(dT, .int)] sz [.ref m0, .int a]) (va_Qv (fun u => az_mt u (az_a4 T n a) (n + 4)) (wr_B (dC, dI) azCl [(dT, .int)] (va_A [(m0, .inr (2, [.ref mt, .int (nI n), .ref mb, .ref mf, .ref ml, .ref mp, .int xm, .int xg, .ref mo, .int (nI w)])), (mt, .inl (dT, 60, .inl F))] sz) (fun u : Nat → Int32 => [(m0, .inr (2, [.ref mt, .int (nI (n + 4)), .ref mb, .ref mf, .ref ml, .ref mp, .int xm, .int xg, .ref mo, .int (nI w)])), (mt, .inl (dT, 60, .inl u))])) (va_A [(m0, .inr (2, [.ref mt, .int (nI n), .ref mb, .ref mf, .ref ml, .ref mp, .int xm, .int xg, .ref mo, .int (nI w)])), (mt, .inl (dT, 60, .inl F))] sz)) 0 0 (va_A [(m0, .inr (2, [.ref mt, .int (nI n), .ref mb, .ref mf, .ref ml, .ref mp, .int xm, .int xg, .ref mo, .int (nI w)])), (mt, .inl (dT, 60, .inl F))] sz) := by
  refine Met.ofW (cc := cXM_lay) (maxL := 3) (ret := none) (by decide) rfl ?_
  intro p e s m args below meth c s₁ Bd hml hv
  obtain ⟨rfl, hsz, hP, hK, hD0⟩ := hv
  have hx := Bd.exec
  have hb := Bd.bytes
  have hr := Bd.returns
  have hts := atoms_spec (ws := wsXM_lay) Bd.pre
  have hown : s.vm.findClass RXM = some m.cls := findClass_of_methodNamed Bd.named
  have hlocks := Bd.notSynchronized
  subst hsz
  have hD := hD0.self (sz := s.heap.size)
  generalize hAe : va_A [(m0, .inr (2, [.ref mt, .int (nI n), .ref mb, .ref mf, .ref ml, .ref mp, .int xm, .int xg, .ref mo, .int (nI w)])), (mt, .inl (dT, 60, .inl F))] s.heap.size = A at hD ⊢
  have hA : ∀ q : Nat, s.heap.size ≤ q → A q := fun q h => by rw [← hAe]; exact Or.inr h
  have hS : va_S A s.heap s.heap [] := va_S.rf
  have hP : va_P (dC, dI) azCl [(m0, .inr (2, [.ref mt, .int (nI n), .ref mb, .ref mf, .ref ml, .ref mp, .int xm, .int xg, .ref mo, .int (nI w)])), (mt, .inl (dT, 60, .inl F))] s.heap := hP
  have hiXM : ∀ w ∈ wsXM0, w ∈ wsXM_lay := by decide +kernel
  have hf7 := hts (.fieldLink RXM 7 "AddressTextsModel" "tape" "[I") (by decide +kernel)
  have hf28 := hts (.fieldLink RXM 28 "AddressTextsModel" "size" "I") (by decide +kernel)
  have hl := lv_entry ([.ref m0, .int a]) (n := 3) (Nat.le_of_ble_eq_true rfl)
  rw [lg_entry_eq]
  generalize (lg_sl ([.ref m0, .int a]) ++ List.replicate (3 - (lg_sl ([.ref m0, .int a])).length) Slot.unset).toArray = ls at hl ⊢
  have hl : lv_has ls 3 [(0, .ref m0), (1, .int a)] := hl
  refine lv_bipush (v := nI 24) hx hb dXM_lay_0 (by decide) ?_
  refine lv_istore_n (lv' := [(2, .int (nI 24)), (0, .ref m0), (1, .int a)]) hx hb dXM_lay_2 rfl hl (by decide) rfl (fun ls hl => ?_)
  refine lv_iload_n hx hb dXM_lay_3 rfl (lv_at hl 0 rfl) ?_
  refine lv_if_lt (tgt := 39) hx hb dXM_lay_4 (by decide) (fun c => absurd c (by decide)) (fun _ => ?_)
  refine lv_aload_n hx hb dXM_lay_7 rfl (lv_at hl 1 rfl) ?_
  refine va_get (D := (dC, dI)) (ci := 2) (v := .ref mt) (C := RXM) (T := TXM) (N := 10) hx hb hts hiXM hown hK hP 0 rfl rfl 0 (by decide) hf7 (fun _ h9 => h9) rfl dXM_lay_8 ?_
  refine lv_aload_n hx hb dXM_lay_11 rfl (lv_at hl 1 rfl) ?_
  refine va_get (D := (dC, dI)) (ci := 2) (v := .int (nI n)) (C := RXM) (T := TXM) (N := 10) hx hb hts hiXM hown hK hP 0 rfl rfl 1 (by decide) hf28 (fun _ h9 => h9) rfl dXM_lay_12 ?_
  refine lv_iload_n hx hb dXM_lay_15 rfl (lv_at hl 2 rfl) ?_
  refine lv_iload_n hx hb dXM_lay_16 rfl (lv_at hl 0 rfl) ?_
  refine lv_ishr hx hb dXM_lay_17 ?_
  refine lv_sipush (v := nI 255) hx hb dXM_lay_18 (by decide) ?_
  refine lv_iand hx hb dXM_lay_21 ?_
  refine tp_i (nI (a.toBitVec.toNat / 16777216 % 256)) (az_sh24 a) ?_
  refine st_i hx hb hK hP hD hS 1 0 rfl rfl (by omega) (by omega) dXM_lay_22 (fun H locs hP hD hS => ?_)
  have hP : va_P (dC, dI) azCl [(m0, .inr (2, [.ref mt, .int (nI n), .ref mb, .ref mf, .ref ml, .ref mp, .int xm, .int xg, .ref mo, .int (nI w)])), (mt, .inl (dT, 60, .inl (upd F n (nI (a.toBitVec.toNat / 16777216 % 256)))))] H := hP
  have hD : va_D A [(m0, .inr (2, [.ref mt, .int (nI n), .ref mb, .ref mf, .ref ml, .ref mp, .int xm, .int xg, .ref mo, .int (nI w)])), (mt, .inl (dT, 60, .inl (upd F n (nI (a.toBitVec.toNat / 16777216 % 256)))))] := hD
  have hF1 := az_mt_push hF (b := a.toBitVec.toNat / 16777216 % 256) (Nat.mod_lt _ (by decide))
  refine lv_aload_n hx hb dXM_lay_23 rfl (lv_at hl 1 rfl) ?_
  refine lv_dup hx hb dXM_lay_24 rfl ?_
  refine va_get (D := (dC, dI)) (ci := 2) (v := .int (nI n)) (C := RXM) (T := TXM) (N := 10) hx hb hts hiXM hown hK hP 0 rfl rfl 1 (by decide) hf28 (fun _ h9 => h9) rfl dXM_lay_25 ?_
  refine lv_iconst (v := nI 1) hx hb dXM_lay_28 (by decide) ?_
  refine lv_iadd hx hb dXM_lay_29 ?_
  refine tp_i (nI (n + 1)) (nI_add _ _) ?_
  refine va_put (D := (dC, dI)) (ci := 2) (v := .int (nI (n + 1))) (ty := .int) (C := RXM) (T := TXM) (N := 10) hx hb hts hiXM tyXM tyXM_ok nmXM hown hK hP hD hS 0 rfl rfl 1 (by decide) hf28 (fun _ h9 => h9) rfl (by decide +kernel) rfl rfl (Nat.le_of_ble_eq_true rfl) dXM_lay_30 (fun H locs hP hD hS => ?_)
  have hP : va_P (dC, dI) azCl [(m0, .inr (2, [.ref mt, .int (nI (n + 1)), .ref mb, .ref mf, .ref ml, .ref mp, .int xm, .int xg, .ref mo, .int (nI w)])), (mt, .inl (dT, 60, .inl (upd F n (nI (a.toBitVec.toNat / 16777216 % 256)))))] H := hP
  have hD : va_D A [(m0, .inr (2, [.ref mt, .int (nI (n + 1)), .ref mb, .ref mf, .ref ml, .ref mp, .int xm, .int xg, .ref mo, .int (nI w)])), (mt, .inl (dT, 60, .inl (upd F n (nI (a.toBitVec.toNat / 16777216 % 256)))))] := hD
  refine lv_iinc (v := nI 16) (lv' := [(2, .int (nI 16)), (0, .ref m0), (1, .int a)]) hx hb dXM_lay_33 hl (k := 0) rfl (by decide) (by decide) rfl (fun ls hl => ?_)
  refine lv_goto (tgt := 3) hx hb dXM_lay_36 (by decide) ?_
  refine lv_iload_n hx hb dXM_lay_3 rfl (lv_at hl 0 rfl) ?_
  refine lv_if_lt (tgt := 39) hx hb dXM_lay_4 (by decide) (fun c => absurd c (by decide)) (fun _ => ?_)
  refine lv_aload_n hx hb dXM_lay_7 rfl (lv_at hl 1 rfl) ?_
  refine va_get (D := (dC, dI)) (ci := 2) (v := .ref mt) (C := RXM) (T := TXM) (N := 10) hx hb hts hiXM hown hK hP 0 rfl rfl 0 (by decide) hf7 (fun _ h9 => h9) rfl dXM_lay_8 ?_
  refine lv_aload_n hx hb dXM_lay_11 rfl (lv_at hl 1 rfl) ?_
  refine va_get (D := (dC, dI)) (ci := 2) (v := .int (nI (n + 1))) (C := RXM) (T := TXM) (N := 10) hx hb hts hiXM hown hK hP 0 rfl rfl 1 (by decide) hf28 (fun _ h9 => h9) rfl dXM_lay_12 ?_
  refine lv_iload_n hx hb dXM_lay_15 rfl (lv_at hl 2 rfl) ?_
  refine lv_iload_n hx hb dXM_lay_16 rfl (lv_at hl 0 rfl) ?_
  refine lv_ishr hx hb dXM_lay_17 ?_
  refine lv_sipush (v := nI 255) hx hb dXM_lay_18 (by decide) ?_
  refine lv_iand hx hb dXM_lay_21 ?_
  refine tp_i (nI (a.toBitVec.toNat / 65536 % 256)) (az_sh16 a) ?_
  refine st_i hx hb hK hP hD hS 1 0 rfl rfl (by omega) (by omega) dXM_lay_22 (fun H locs hP hD hS => ?_)
  have hP : va_P (dC, dI) azCl [(m0, .inr (2, [.ref mt, .int (nI (n + 1)), .ref mb, .ref mf, .ref ml, .ref mp, .int xm, .int xg, .ref mo, .int (nI w)])), (mt, .inl (dT, 60, .inl (upd (upd F n (nI (a.toBitVec.toNat / 16777216 % 256))) (n + 1) (nI (a.toBitVec.toNat / 65536 % 256)))))] H := hP
  have hD : va_D A [(m0, .inr (2, [.ref mt, .int (nI (n + 1)), .ref mb, .ref mf, .ref ml, .ref mp, .int xm, .int xg, .ref mo, .int (nI w)])), (mt, .inl (dT, 60, .inl (upd (upd F n (nI (a.toBitVec.toNat / 16777216 % 256))) (n + 1) (nI (a.toBitVec.toNat / 65536 % 256)))))] := hD
  have hF2 := az_mt_push hF1 (b := a.toBitVec.toNat / 65536 % 256) (Nat.mod_lt _ (by decide))
  refine lv_aload_n hx hb dXM_lay_23 rfl (lv_at hl 1 rfl) ?_
  refine lv_dup hx hb dXM_lay_24 rfl ?_
  refine va_get (D := (dC, dI)) (ci := 2) (v := .int (nI (n + 1))) (C := RXM) (T := TXM) (N := 10) hx hb hts hiXM hown hK hP 0 rfl rfl 1 (by decide) hf28 (fun _ h9 => h9) rfl dXM_lay_25 ?_
  refine lv_iconst (v := nI 1) hx hb dXM_lay_28 (by decide) ?_
  refine lv_iadd hx hb dXM_lay_29 ?_
  refine tp_i (nI ((n + 1) + 1)) (nI_add _ _) ?_
  refine va_put (D := (dC, dI)) (ci := 2) (v := .int (nI ((n + 1) + 1))) (ty := .int) (C := RXM) (T := TXM) (N := 10) hx hb hts hiXM tyXM tyXM_ok nmXM hown hK hP hD hS 0 rfl rfl 1 (by decide) hf28 (fun _ h9 => h9) rfl (by decide +kernel) rfl rfl (Nat.le_of_ble_eq_true rfl) dXM_lay_30 (fun H locs hP hD hS => ?_)
  have hP : va_P (dC, dI) azCl [(m0, .inr (2, [.ref mt, .int (nI ((n + 1) + 1)), .ref mb, .ref mf, .ref ml, .ref mp, .int xm, .int xg, .ref mo, .int (nI w)])), (mt, .inl (dT, 60, .inl (upd (upd F n (nI (a.toBitVec.toNat / 16777216 % 256))) (n + 1) (nI (a.toBitVec.toNat / 65536 % 256)))))] H := hP
  have hD : va_D A [(m0, .inr (2, [.ref mt, .int (nI ((n + 1) + 1)), .ref mb, .ref mf, .ref ml, .ref mp, .int xm, .int xg, .ref mo, .int (nI w)])), (mt, .inl (dT, 60, .inl (upd (upd F n (nI (a.toBitVec.toNat / 16777216 % 256))) (n + 1) (nI (a.toBitVec.toNat / 65536 % 256)))))] := hD
  refine lv_iinc (v := nI 8) (lv' := [(2, .int (nI 8)), (0, .ref m0), (1, .int a)]) hx hb dXM_lay_33 hl (k := 0) rfl (by decide) (by decide) rfl (fun ls hl => ?_)
  refine lv_goto (tgt := 3) hx hb dXM_lay_36 (by decide) ?_
  refine lv_iload_n hx hb dXM_lay_3 rfl (lv_at hl 0 rfl) ?_
  refine lv_if_lt (tgt := 39) hx hb dXM_lay_4 (by decide) (fun c => absurd c (by decide)) (fun _ => ?_)
  refine lv_aload_n hx hb dXM_lay_7 rfl (lv_at hl 1 rfl) ?_
  refine va_get (D := (dC, dI)) (ci := 2) (v := .ref mt) (C := RXM) (T := TXM) (N := 10) hx hb hts hiXM hown hK hP 0 rfl rfl 0 (by decide) hf7 (fun _ h9 => h9) rfl dXM_lay_8 ?_
  refine lv_aload_n hx hb dXM_lay_11 rfl (lv_at hl 1 rfl) ?_
  refine va_get (D := (dC, dI)) (ci := 2) (v := .int (nI ((n + 1) + 1))) (C := RXM) (T := TXM) (N := 10) hx hb hts hiXM hown hK hP 0 rfl rfl 1 (by decide) hf28 (fun _ h9 => h9) rfl dXM_lay_12 ?_
  refine lv_iload_n hx hb dXM_lay_15 rfl (lv_at hl 2 rfl) ?_
  refine lv_iload_n hx hb dXM_lay_16 rfl (lv_at hl 0 rfl) ?_
  refine lv_ishr hx hb dXM_lay_17 ?_
  refine lv_sipush (v := nI 255) hx hb dXM_lay_18 (by decide) ?_
  refine lv_iand hx hb dXM_lay_21 ?_
  refine tp_i (nI (a.toBitVec.toNat / 256 % 256)) (az_sh8 a) ?_
  refine st_i hx hb hK hP hD hS 1 0 rfl rfl (by omega) (by omega) dXM_lay_22 (fun H locs hP hD hS => ?_)
  have hP : va_P (dC, dI) azCl [(m0, .inr (2, [.ref mt, .int (nI ((n + 1) + 1)), .ref mb, .ref mf, .ref ml, .ref mp, .int xm, .int xg, .ref mo, .int (nI w)])), (mt, .inl (dT, 60, .inl (upd (upd (upd F n (nI (a.toBitVec.toNat / 16777216 % 256))) (n + 1) (nI (a.toBitVec.toNat / 65536 % 256))) ((n + 1) + 1) (nI (a.toBitVec.toNat / 256 % 256)))))] H := hP
  have hD : va_D A [(m0, .inr (2, [.ref mt, .int (nI ((n + 1) + 1)), .ref mb, .ref mf, .ref ml, .ref mp, .int xm, .int xg, .ref mo, .int (nI w)])), (mt, .inl (dT, 60, .inl (upd (upd (upd F n (nI (a.toBitVec.toNat / 16777216 % 256))) (n + 1) (nI (a.toBitVec.toNat / 65536 % 256))) ((n + 1) + 1) (nI (a.toBitVec.toNat / 256 % 256)))))] := hD
  have hF3 := az_mt_push hF2 (b := a.toBitVec.toNat / 256 % 256) (Nat.mod_lt _ (by decide))
  refine lv_aload_n hx hb dXM_lay_23 rfl (lv_at hl 1 rfl) ?_
  refine lv_dup hx hb dXM_lay_24 rfl ?_
  refine va_get (D := (dC, dI)) (ci := 2) (v := .int (nI ((n + 1) + 1))) (C := RXM) (T := TXM) (N := 10) hx hb hts hiXM hown hK hP 0 rfl rfl 1 (by decide) hf28 (fun _ h9 => h9) rfl dXM_lay_25 ?_
  refine lv_iconst (v := nI 1) hx hb dXM_lay_28 (by decide) ?_
  refine lv_iadd hx hb dXM_lay_29 ?_
  refine tp_i (nI (((n + 1) + 1) + 1)) (nI_add _ _) ?_
  refine va_put (D := (dC, dI)) (ci := 2) (v := .int (nI (((n + 1) + 1) + 1))) (ty := .int) (C := RXM) (T := TXM) (N := 10) hx hb hts hiXM tyXM tyXM_ok nmXM hown hK hP hD hS 0 rfl rfl 1 (by decide) hf28 (fun _ h9 => h9) rfl (by decide +kernel) rfl rfl (Nat.le_of_ble_eq_true rfl) dXM_lay_30 (fun H locs hP hD hS => ?_)
  have hP : va_P (dC, dI) azCl [(m0, .inr (2, [.ref mt, .int (nI (((n + 1) + 1) + 1)), .ref mb, .ref mf, .ref ml, .ref mp, .int xm, .int xg, .ref mo, .int (nI w)])), (mt, .inl (dT, 60, .inl (upd (upd (upd F n (nI (a.toBitVec.toNat / 16777216 % 256))) (n + 1) (nI (a.toBitVec.toNat / 65536 % 256))) ((n + 1) + 1) (nI (a.toBitVec.toNat / 256 % 256)))))] H := hP
  have hD : va_D A [(m0, .inr (2, [.ref mt, .int (nI (((n + 1) + 1) + 1)), .ref mb, .ref mf, .ref ml, .ref mp, .int xm, .int xg, .ref mo, .int (nI w)])), (mt, .inl (dT, 60, .inl (upd (upd (upd F n (nI (a.toBitVec.toNat / 16777216 % 256))) (n + 1) (nI (a.toBitVec.toNat / 65536 % 256))) ((n + 1) + 1) (nI (a.toBitVec.toNat / 256 % 256)))))] := hD
  refine lv_iinc (v := nI 0) (lv' := [(2, .int (nI 0)), (0, .ref m0), (1, .int a)]) hx hb dXM_lay_33 hl (k := 0) rfl (by decide) (by decide) rfl (fun ls hl => ?_)
  refine lv_goto (tgt := 3) hx hb dXM_lay_36 (by decide) ?_
  refine lv_iload_n hx hb dXM_lay_3 rfl (lv_at hl 0 rfl) ?_
  refine lv_if_lt (tgt := 39) hx hb dXM_lay_4 (by decide) (fun c => absurd c (by decide)) (fun _ => ?_)
  refine lv_aload_n hx hb dXM_lay_7 rfl (lv_at hl 1 rfl) ?_
  refine va_get (D := (dC, dI)) (ci := 2) (v := .ref mt) (C := RXM) (T := TXM) (N := 10) hx hb hts hiXM hown hK hP 0 rfl rfl 0 (by decide) hf7 (fun _ h9 => h9) rfl dXM_lay_8 ?_
  refine lv_aload_n hx hb dXM_lay_11 rfl (lv_at hl 1 rfl) ?_
  refine va_get (D := (dC, dI)) (ci := 2) (v := .int (nI (((n + 1) + 1) + 1))) (C := RXM) (T := TXM) (N := 10) hx hb hts hiXM hown hK hP 0 rfl rfl 1 (by decide) hf28 (fun _ h9 => h9) rfl dXM_lay_12 ?_
  refine lv_iload_n hx hb dXM_lay_15 rfl (lv_at hl 2 rfl) ?_
  refine lv_iload_n hx hb dXM_lay_16 rfl (lv_at hl 0 rfl) ?_
  refine lv_ishr hx hb dXM_lay_17 ?_
  refine lv_sipush (v := nI 255) hx hb dXM_lay_18 (by decide) ?_
  refine lv_iand hx hb dXM_lay_21 ?_
  refine tp_i (nI (a.toBitVec.toNat % 256)) (az_sh0 a) ?_
  refine st_i hx hb hK hP hD hS 1 0 rfl rfl (by omega) (by omega) dXM_lay_22 (fun H locs hP hD hS => ?_)
  have hP : va_P (dC, dI) azCl [(m0, .inr (2, [.ref mt, .int (nI (((n + 1) + 1) + 1)), .ref mb, .ref mf, .ref ml, .ref mp, .int xm, .int xg, .ref mo, .int (nI w)])), (mt, .inl (dT, 60, .inl (upd (upd (upd (upd F n (nI (a.toBitVec.toNat / 16777216 % 256))) (n + 1) (nI (a.toBitVec.toNat / 65536 % 256))) ((n + 1) + 1) (nI (a.toBitVec.toNat / 256 % 256))) (((n + 1) + 1) + 1) (nI (a.toBitVec.toNat % 256)))))] H := hP
  have hD : va_D A [(m0, .inr (2, [.ref mt, .int (nI (((n + 1) + 1) + 1)), .ref mb, .ref mf, .ref ml, .ref mp, .int xm, .int xg, .ref mo, .int (nI w)])), (mt, .inl (dT, 60, .inl (upd (upd (upd (upd F n (nI (a.toBitVec.toNat / 16777216 % 256))) (n + 1) (nI (a.toBitVec.toNat / 65536 % 256))) ((n + 1) + 1) (nI (a.toBitVec.toNat / 256 % 256))) (((n + 1) + 1) + 1) (nI (a.toBitVec.toNat % 256)))))] := hD
  have hF4 := az_mt_push hF3 (b := a.toBitVec.toNat % 256) (Nat.mod_lt _ (by decide))
  refine lv_aload_n hx hb dXM_lay_23 rfl (lv_at hl 1 rfl) ?_
  refine lv_dup hx hb dXM_lay_24 rfl ?_
  refine va_get (D := (dC, dI)) (ci := 2) (v := .int (nI (((n + 1) + 1) + 1))) (C := RXM) (T := TXM) (N := 10) hx hb hts hiXM hown hK hP 0 rfl rfl 1 (by decide) hf28 (fun _ h9 => h9) rfl dXM_lay_25 ?_
  refine lv_iconst (v := nI 1) hx hb dXM_lay_28 (by decide) ?_
  refine lv_iadd hx hb dXM_lay_29 ?_
  refine tp_i (nI ((((n + 1) + 1) + 1) + 1)) (nI_add _ _) ?_
  refine va_put (D := (dC, dI)) (ci := 2) (v := .int (nI ((((n + 1) + 1) + 1) + 1))) (ty := .int) (C := RXM) (T := TXM) (N := 10) hx hb hts hiXM tyXM tyXM_ok nmXM hown hK hP hD hS 0 rfl rfl 1 (by decide) hf28 (fun _ h9 => h9) rfl (by decide +kernel) rfl rfl (Nat.le_of_ble_eq_true rfl) dXM_lay_30 (fun H locs hP hD hS => ?_)
  have hP : va_P (dC, dI) azCl [(m0, .inr (2, [.ref mt, .int (nI ((((n + 1) + 1) + 1) + 1)), .ref mb, .ref mf, .ref ml, .ref mp, .int xm, .int xg, .ref mo, .int (nI w)])), (mt, .inl (dT, 60, .inl (upd (upd (upd (upd F n (nI (a.toBitVec.toNat / 16777216 % 256))) (n + 1) (nI (a.toBitVec.toNat / 65536 % 256))) ((n + 1) + 1) (nI (a.toBitVec.toNat / 256 % 256))) (((n + 1) + 1) + 1) (nI (a.toBitVec.toNat % 256)))))] H := hP
  have hD : va_D A [(m0, .inr (2, [.ref mt, .int (nI ((((n + 1) + 1) + 1) + 1)), .ref mb, .ref mf, .ref ml, .ref mp, .int xm, .int xg, .ref mo, .int (nI w)])), (mt, .inl (dT, 60, .inl (upd (upd (upd (upd F n (nI (a.toBitVec.toNat / 16777216 % 256))) (n + 1) (nI (a.toBitVec.toNat / 65536 % 256))) ((n + 1) + 1) (nI (a.toBitVec.toNat / 256 % 256))) (((n + 1) + 1) + 1) (nI (a.toBitVec.toNat % 256)))))] := hD
  refine lv_iinc (v := -8) (lv' := [(2, .int (-8)), (0, .ref m0), (1, .int a)]) hx hb dXM_lay_33 hl (k := 0) rfl (by decide) (by decide) rfl (fun ls hl => ?_)
  refine lv_goto (tgt := 3) hx hb dXM_lay_36 (by decide) ?_
  refine lv_iload_n hx hb dXM_lay_3 rfl (lv_at hl 0 rfl) ?_
  refine lv_if_lt (tgt := 39) hx hb dXM_lay_4 (by decide) (fun _ => ?_) (fun c => absurd c (by decide))
  exact wt_v hx hb hr (upd (upd (upd (upd F n (nI (a.toBitVec.toNat / 16777216 % 256))) (n + 1) (nI (a.toBitVec.toNat / 65536 % 256))) ((n + 1) + 1) (nI (a.toBitVec.toNat / 256 % 256))) (((n + 1) + 1) + 1) (nI (a.toBitVec.toNat % 256))) (hF4) (hP.sub [0, 1] rfl) hK (hD.sub [0, 1] (by decide) rfl) hS dXM_lay_39 hlocks
set_option maxRecDepth 100000 in
set_option maxHeartbeats 4000000 in
/-- feed(a, b, c, d, e) -/
theorem ct_m_feed (l : Launch) (dC : Nat → ClassId) (dI : Nat → Nat → Nat) (sz : Nat) (m0 mt mb mf ml mp mo n w : Nat) (xm xg : Int32) (dT : ClassId) (F : Nat → Int32) (T : Nat → Nat) (hF : az_mt F T n) (hn : n ≤ 60) (a b c_ d_ e_ : Int32) : Met l yXM_feed wsXM_feed ({ frames := 1, cells := 0, slots := 0, locals := 22 }) (wr_P (dC, dI) azCl [(m0, .inr (2, [.ref mt, .int (nI n), .ref mb, .ref mf, .ref ml, .ref mp, .int xm, .int xg, .ref mo, .int (nI w)])), (mt, .inl (dT, 60, .inl F))] [(dT, .int)] sz [.ref m0, .int a, .int b, .int c_, .int d_, .int e_]) (va_Qi (fun r u => (60 < n + 20 ∧ r = nI 0 ∧ az_mt u.1 u.2.2 u.2.1 ∧ u.2.1 = n ∧ u.2.2 = T) ∨ (n + 20 ≤ 60 ∧ r = nI 1 ∧ az_mt u.1 u.2.2 u.2.1 ∧ u.2.1 = n + 20 ∧ u.2.2 = az_a20 T n a b c_ d_ e_)) (wr_B (dC, dI) azCl [(dT, .int)] (va_A [(m0, .inr (2, [.ref mt, .int (nI n), .ref mb, .ref mf, .ref ml, .ref mp, .int xm, .int xg, .ref mo, .int (nI w)])), (mt, .inl (dT, 60, .inl F))] sz) (fun u : (Nat → Int32) × Nat × (Nat → Nat) => [(m0, .inr (2, [.ref mt, .int (nI u.2.1), .ref mb, .ref mf, .ref ml, .ref mp, .int xm, .int xg, .ref mo, .int (nI w)])), (mt, .inl (dT, 60, .inl u.1))])) (va_A [(m0, .inr (2, [.ref mt, .int (nI n), .ref mb, .ref mf, .ref ml, .ref mp, .int xm, .int xg, .ref mo, .int (nI w)])), (mt, .inl (dT, 60, .inl F))] sz)) 0 0 (va_A [(m0, .inr (2, [.ref mt, .int (nI n), .ref mb, .ref mf, .ref ml, .ref mp, .int xm, .int xg, .ref mo, .int (nI w)])), (mt, .inl (dT, 60, .inl F))] sz) := by
  refine Met.ofW (cc := cXM_feed) (maxL := 6) (ret := (some .boolean)) (by decide) rfl ?_
  intro p e s m args below meth c s₁ Bd hml hv
  obtain ⟨rfl, hsz, hP, hK, hD0⟩ := hv
  have hx := Bd.exec
  have hb := Bd.bytes
  have hr := Bd.returns
  have hts := atoms_spec (ws := wsXM_feed) Bd.pre
  have hown : s.vm.findClass RXM = some m.cls := findClass_of_methodNamed Bd.named
  have hlocks := Bd.notSynchronized
  subst hsz
  have hD := hD0.self (sz := s.heap.size)
  generalize hAe : va_A [(m0, .inr (2, [.ref mt, .int (nI n), .ref mb, .ref mf, .ref ml, .ref mp, .int xm, .int xg, .ref mo, .int (nI w)])), (mt, .inl (dT, 60, .inl F))] s.heap.size = A at hD ⊢
  have hA : ∀ q : Nat, s.heap.size ≤ q → A q := fun q h => by rw [← hAe]; exact Or.inr h
  have hS : va_S A s.heap s.heap [] := va_S.rf
  have hP : va_P (dC, dI) azCl [(m0, .inr (2, [.ref mt, .int (nI n), .ref mb, .ref mf, .ref ml, .ref mp, .int xm, .int xg, .ref mo, .int (nI w)])), (mt, .inl (dT, 60, .inl F))] s.heap := hP
  have hiXM : ∀ w ∈ wsXM0, w ∈ wsXM_feed := by decide +kernel
  have hf28 := hts (.fieldLink RXM 28 "AddressTextsModel" "size" "I") (by decide +kernel)
  have hl := lv_entry ([.ref m0, .int a, .int b, .int c_, .int d_, .int e_]) (n := 6) (Nat.le_of_ble_eq_true rfl)
  rw [lg_entry_eq]
  generalize (lg_sl ([.ref m0, .int a, .int b, .int c_, .int d_, .int e_]) ++ List.replicate (6 - (lg_sl ([.ref m0, .int a, .int b, .int c_, .int d_, .int e_])).length) Slot.unset).toArray = ls at hl ⊢
  have hl : lv_has ls 6 [(0, .ref m0), (1, .int a), (2, .int b), (3, .int c_), (4, .int d_), (5, .int e_)] := hl
  refine lv_aload_n hx hb dXM_feed_0 rfl (lv_at hl 0 rfl) ?_
  refine va_get (D := (dC, dI)) (ci := 2) (v := .int (nI n)) (C := RXM) (T := TXM) (N := 10) hx hb hts hiXM hown hK hP 0 rfl rfl 1 (by decide) hf28 (fun _ h9 => h9) rfl dXM_feed_1 ?_
  refine lv_bipush (v := nI 20) hx hb dXM_feed_4 (by decide) ?_
  refine lv_iadd hx hb dXM_feed_6 ?_
  refine tp_i (nI (n + 20)) (nI_add _ _) ?_
  refine lv_bipush (v := nI 60) hx hb dXM_feed_7 (by decide) ?_
  refine bn_le (tgt := 14) hx hb dXM_feed_9 (by decide) (by omega) (by omega) (fun c9 => ?_) (fun c9 => ?_)
  · refine lv_aload_n hx hb dXM_feed_14 rfl (lv_at hl 0 rfl) ?_
    refine lv_iload_n hx hb dXM_feed_15 rfl (lv_at hl 1 rfl) ?_
    refine wc_Vv (As := [.int a]) (rest := []) (wr := []) ⟨hx, hb, hml, hown, hts⟩ (ct_m_lay l dC dI s.heap.size m0 mt mb mf ml mp mo n w xm xg dT F T hF a (by omega)) (cwV 1 hts gXM_feed_XM_lay rfl rfl rfl (by decide +kernel) ⟨Nat.le_of_ble_eq_true rfl, Nat.le_of_ble_eq_true rfl⟩) hP hD hK hS hA [0, 1] [] [0] rfl rfl (by decide) (by decide) (by decide) rfl 0 rfl rfl rfl hl.1 rfl (Nat.le_of_ble_eq_true rfl) dXM_feed_16 ⟨(Nat.zero_le _), (Nat.zero_le _)⟩ (fun u1 H locs hT1 hP hD hS => ?_)
    try dsimp only at hT1
    have hP : va_P (dC, dI) azCl [(m0, .inr (2, [.ref mt, .int (nI (n + 4)), .ref mb, .ref mf, .ref ml, .ref mp, .int xm, .int xg, .ref mo, .int (nI w)])), (mt, .inl (dT, 60, .inl u1))] H := hP
    have hD : va_D A [(m0, .inr (2, [.ref mt, .int (nI (n + 4)), .ref mb, .ref mf, .ref ml, .ref mp, .int xm, .int xg, .ref mo, .int (nI w)])), (mt, .inl (dT, 60, .inl u1))] := hD
    refine lv_aload_n hx hb dXM_feed_19 rfl (lv_at hl 0 rfl) ?_
    refine lv_iload_n hx hb dXM_feed_20 rfl (lv_at hl 2 rfl) ?_
    refine wc_Vv (As := [.int b]) (rest := []) (wr := []) ⟨hx, hb, hml, hown, hts⟩ (ct_m_lay l dC dI H.size m0 mt mb mf ml mp mo (n + 4) w xm xg dT u1 (az_a4 T n a) hT1 b (by omega)) (cwV 1 hts gXM_feed_XM_lay rfl rfl rfl (by decide +kernel) ⟨Nat.le_of_ble_eq_true rfl, Nat.le_of_ble_eq_true rfl⟩) hP hD hK hS hA [0, 1] [] [0] rfl rfl (by decide) (by decide) (by decide) rfl 0 rfl rfl rfl hl.1 rfl (Nat.le_of_ble_eq_true rfl) dXM_feed_21 ⟨(Nat.zero_le _), (Nat.zero_le _)⟩ (fun u2 H locs hT2 hP hD hS => ?_)
    try dsimp only at hT2
    have hP : va_P (dC, dI) azCl [(m0, .inr (2, [.ref mt, .int (nI (n + 4 + 4)), .ref mb, .ref mf, .ref ml, .ref mp, .int xm, .int xg, .ref mo, .int (nI w)])), (mt, .inl (dT, 60, .inl u2))] H := hP
    have hD : va_D A [(m0, .inr (2, [.ref mt, .int (nI (n + 4 + 4)), .ref mb, .ref mf, .ref ml, .ref mp, .int xm, .int xg, .ref mo, .int (nI w)])), (mt, .inl (dT, 60, .inl u2))] := hD
    refine lv_aload_n hx hb dXM_feed_24 rfl (lv_at hl 0 rfl) ?_
    refine lv_iload_n hx hb dXM_feed_25 rfl (lv_at hl 3 rfl) ?_
    refine wc_Vv (As := [.int c_]) (rest := []) (wr := []) ⟨hx, hb, hml, hown, hts⟩ (ct_m_lay l dC dI H.size m0 mt mb mf ml mp mo (n + 4 + 4) w xm xg dT u2 (az_a4 (az_a4 T n a) (n + 4) b) hT2 c_ (by omega)) (cwV 1 hts gXM_feed_XM_lay rfl rfl rfl (by decide +kernel) ⟨Nat.le_of_ble_eq_true rfl, Nat.le_of_ble_eq_true rfl⟩) hP hD hK hS hA [0, 1] [] [0] rfl rfl (by decide) (by decide) (by decide) rfl 0 rfl rfl rfl hl.1 rfl (Nat.le_of_ble_eq_true rfl) dXM_feed_26 ⟨(Nat.zero_le _), (Nat.zero_le _)⟩ (fun u3 H locs hT3 hP hD hS => ?_)
    try dsimp only at hT3
    have hP : va_P (dC, dI) azCl [(m0, .inr (2, [.ref mt, .int (nI (n + 4 + 4 + 4)), .ref mb, .ref mf, .ref ml, .ref mp, .int xm, .int xg, .ref mo, .int (nI w)])), (mt, .inl (dT, 60, .inl u3))] H := hP
    have hD : va_D A [(m0, .inr (2, [.ref mt, .int (nI (n + 4 + 4 + 4)), .ref mb, .ref mf, .ref ml, .ref mp, .int xm, .int xg, .ref mo, .int (nI w)])), (mt, .inl (dT, 60, .inl u3))] := hD
    refine lv_aload_n hx hb dXM_feed_29 rfl (lv_at hl 0 rfl) ?_
    refine lv_iload hx hb dXM_feed_30 (lv_at hl 4 rfl) ?_
    refine wc_Vv (As := [.int d_]) (rest := []) (wr := []) ⟨hx, hb, hml, hown, hts⟩ (ct_m_lay l dC dI H.size m0 mt mb mf ml mp mo (n + 4 + 4 + 4) w xm xg dT u3 (az_a4 (az_a4 (az_a4 T n a) (n + 4) b) (n + 4 + 4) c_) hT3 d_ (by omega)) (cwV 1 hts gXM_feed_XM_lay rfl rfl rfl (by decide +kernel) ⟨Nat.le_of_ble_eq_true rfl, Nat.le_of_ble_eq_true rfl⟩) hP hD hK hS hA [0, 1] [] [0] rfl rfl (by decide) (by decide) (by decide) rfl 0 rfl rfl rfl hl.1 rfl (Nat.le_of_ble_eq_true rfl) dXM_feed_32 ⟨(Nat.zero_le _), (Nat.zero_le _)⟩ (fun u4 H locs hT4 hP hD hS => ?_)
    try dsimp only at hT4
    have hP : va_P (dC, dI) azCl [(m0, .inr (2, [.ref mt, .int (nI (n + 4 + 4 + 4 + 4)), .ref mb, .ref mf, .ref ml, .ref mp, .int xm, .int xg, .ref mo, .int (nI w)])), (mt, .inl (dT, 60, .inl u4))] H := hP
    have hD : va_D A [(m0, .inr (2, [.ref mt, .int (nI (n + 4 + 4 + 4 + 4)), .ref mb, .ref mf, .ref ml, .ref mp, .int xm, .int xg, .ref mo, .int (nI w)])), (mt, .inl (dT, 60, .inl u4))] := hD
    refine lv_aload_n hx hb dXM_feed_35 rfl (lv_at hl 0 rfl) ?_
    refine lv_iload hx hb dXM_feed_36 (lv_at hl 5 rfl) ?_
    refine wc_Vv (As := [.int e_]) (rest := []) (wr := []) ⟨hx, hb, hml, hown, hts⟩ (ct_m_lay l dC dI H.size m0 mt mb mf ml mp mo (n + 4 + 4 + 4 + 4) w xm xg dT u4 (az_a4 (az_a4 (az_a4 (az_a4 T n a) (n + 4) b) (n + 4 + 4) c_) (n + 4 + 4 + 4) d_) hT4 e_ (by omega)) (cwV 1 hts gXM_feed_XM_lay rfl rfl rfl (by decide +kernel) ⟨Nat.le_of_ble_eq_true rfl, Nat.le_of_ble_eq_true rfl⟩) hP hD hK hS hA [0, 1] [] [0] rfl rfl (by decide) (by decide) (by decide) rfl 0 rfl rfl rfl hl.1 rfl (Nat.le_of_ble_eq_true rfl) dXM_feed_38 ⟨(Nat.zero_le _), (Nat.zero_le _)⟩ (fun u5 H locs hT5 hP hD hS => ?_)
    try dsimp only at hT5
    have hP : va_P (dC, dI) azCl [(m0, .inr (2, [.ref mt, .int (nI (n + 4 + 4 + 4 + 4 + 4)), .ref mb, .ref mf, .ref ml, .ref mp, .int xm, .int xg, .ref mo, .int (nI w)])), (mt, .inl (dT, 60, .inl u5))] H := hP
    have hD : va_D A [(m0, .inr (2, [.ref mt, .int (nI (n + 4 + 4 + 4 + 4 + 4)), .ref mb, .ref mf, .ref ml, .ref mp, .int xm, .int xg, .ref mo, .int (nI w)])), (mt, .inl (dT, 60, .inl u5))] := hD
    refine lv_iconst (v := nI 1) hx hb dXM_feed_41 (by decide) ?_
    exact wt_z hx hb hr (rfl) ((u5, n + 20, az_a20 T n a b c_ d_ e_)) (Or.inr ⟨by omega, rfl, hT5, rfl, rfl⟩) (hP.sub [0, 1] rfl) hK (hD.sub [0, 1] (by decide) rfl) hS dXM_feed_42 hlocks
  · refine lv_iconst (v := nI 0) hx hb dXM_feed_12 (by decide) ?_
    exact wt_z hx hb hr (rfl) ((F, n, T)) (Or.inl ⟨by omega, rfl, hF, rfl, rfl⟩) (hP.sub [0, 1] rfl) hK (hD.sub [0, 1] (by decide) rfl) hS dXM_feed_13 hlocks
