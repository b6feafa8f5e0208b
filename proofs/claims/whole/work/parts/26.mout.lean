set_option maxRecDepth 100000 in
set_option maxHeartbeats 4000000 in
/-- say(c) -/
theorem ct_m_say (l : Launch) (dC : Nat → ClassId) (dI : Nat → Nat → Nat) (sz : Nat) (m0 mt mb mf ml mp mo n w : Nat) (xm xg : Int32) (dO : ClassId) (G : Nat → Int32) (O : List Nat) (hg : az_mo G O w) (ch : Nat) (hw2 : w < 64) : Met l yXM_say wsXM_say ({ frames := 0, cells := 0, slots := 0, locals := 0 }) (wr_P (dC, dI) azCl [(m0, .inr (2, [.ref mt, .int (nI n), .ref mb, .ref mf, .ref ml, .ref mp, .int xm, .int xg, .ref mo, .int (nI w)])), (mo, .inl (dO, 64, .inl G))] [(dO, .int)] sz [.ref m0, .int (nI ch)]) (va_Qv (fun u => az_mo u.1 (O ++ [ch]) u.2) (wr_B (dC, dI) azCl [(dO, .int)] (va_A [(m0, .inr (2, [.ref mt, .int (nI n), .ref mb, .ref mf, .ref ml, .ref mp, .int xm, .int xg, .ref mo, .int (nI w)])), (mo, .inl (dO, 64, .inl G))] sz) (fun u : (Nat → Int32) × Nat => [(m0, .inr (2, [.ref mt, .int (nI n), .ref mb, .ref mf, .ref ml, .ref mp, .int xm, .int xg, .ref mo, .int (nI u.2)])), (mo, .inl (dO, 64, .inl u.1))])) (va_A [(m0, .inr (2, [.ref mt, .int (nI n), .ref mb, .ref mf, .ref ml, .ref mp, .int xm, .int xg, .ref mo, .int (nI w)])), (mo, .inl (dO, 64, .inl G))] sz)) 0 0 (va_A [(m0, .inr (2, [.ref mt, .int (nI n), .ref mb, .ref mf, .ref ml, .ref mp, .int xm, .int xg, .ref mo, .int (nI w)])), (mo, .inl (dO, 64, .inl G))] sz) := by
  refine Met.ofW (cc := cXM_say) (maxL := 2) (ret := none) (by decide) rfl ?_
  intro p e s m args below meth c s₁ Bd hml hv
  obtain ⟨rfl, hsz, hP, hK, hD0⟩ := hv
  have hx := Bd.exec
  have hb := Bd.bytes
  have hr := Bd.returns
  have hts := atoms_spec (ws := wsXM_say) Bd.pre
  have hown : s.vm.findClass RXM = some m.cls := findClass_of_methodNamed Bd.named
  have hlocks := Bd.notSynchronized
  subst hsz
  have hD := hD0.self (sz := s.heap.size)
  generalize hAe : va_A [(m0, .inr (2, [.ref mt, .int (nI n), .ref mb, .ref mf, .ref ml, .ref mp, .int xm, .int xg, .ref mo, .int (nI w)])), (mo, .inl (dO, 64, .inl G))] s.heap.size = A at hD ⊢
  have hA : ∀ q : Nat, s.heap.size ≤ q → A q := fun q h => by rw [← hAe]; exact Or.inr h
  have hS : va_S A s.heap s.heap [] := va_S.rf
  have hP : va_P (dC, dI) azCl [(m0, .inr (2, [.ref mt, .int (nI n), .ref mb, .ref mf, .ref ml, .ref mp, .int xm, .int xg, .ref mo, .int (nI w)])), (mo, .inl (dO, 64, .inl G))] s.heap := hP
  have hiXM : ∀ w ∈ wsXM0, w ∈ wsXM_say := by decide +kernel
  have hf25 := hts (.fieldLink RXM 25 "AddressTextsModel" "out" "[I") (by decide +kernel)
  have hf65 := hts (.fieldLink RXM 65 "AddressTextsModel" "written" "I") (by decide +kernel)
  have hl := lv_entry ([.ref m0, .int (nI ch)]) (n := 2) (Nat.le_of_ble_eq_true rfl)
  rw [lg_entry_eq]
  generalize (lg_sl ([.ref m0, .int (nI ch)]) ++ List.replicate (2 - (lg_sl ([.ref m0, .int (nI ch)])).length) Slot.unset).toArray = ls at hl ⊢
  have hl : lv_has ls 2 [(0, .ref m0), (1, .int (nI ch))] := hl
  refine lv_aload_n hx hb dXM_say_0 rfl (lv_at hl 0 rfl) ?_
  refine va_get (D := (dC, dI)) (ci := 2) (v := .ref mo) (C := RXM) (T := TXM) (N := 10) hx hb hts hiXM hown hK hP 0 rfl rfl 8 (by decide) hf25 (fun _ h9 => h9) rfl dXM_say_1 ?_
  refine lv_aload_n hx hb dXM_say_4 rfl (lv_at hl 0 rfl) ?_
  refine va_get (D := (dC, dI)) (ci := 2) (v := .int (nI w)) (C := RXM) (T := TXM) (N := 10) hx hb hts hiXM hown hK hP 0 rfl rfl 9 (by decide) hf65 (fun _ h9 => h9) rfl dXM_say_5 ?_
  refine lv_iload_n hx hb dXM_say_8 rfl (lv_at hl 1 rfl) ?_
  refine st_i hx hb hK hP hD hS 1 0 rfl rfl (by omega) (by omega) dXM_say_9 (fun H locs hP hD hS => ?_)
  have hP : va_P (dC, dI) azCl [(m0, .inr (2, [.ref mt, .int (nI n), .ref mb, .ref mf, .ref ml, .ref mp, .int xm, .int xg, .ref mo, .int (nI w)])), (mo, .inl (dO, 64, .inl (upd G w (nI ch))))] H := hP
  have hD : va_D A [(m0, .inr (2, [.ref mt, .int (nI n), .ref mb, .ref mf, .ref ml, .ref mp, .int xm, .int xg, .ref mo, .int (nI w)])), (mo, .inl (dO, 64, .inl (upd G w (nI ch))))] := hD
  refine lv_aload_n hx hb dXM_say_10 rfl (lv_at hl 0 rfl) ?_
  refine lv_dup hx hb dXM_say_11 rfl ?_
  refine va_get (D := (dC, dI)) (ci := 2) (v := .int (nI w)) (C := RXM) (T := TXM) (N := 10) hx hb hts hiXM hown hK hP 0 rfl rfl 9 (by decide) hf65 (fun _ h9 => h9) rfl dXM_say_12 ?_
  refine lv_iconst (v := nI 1) hx hb dXM_say_15 (by decide) ?_
  refine lv_iadd hx hb dXM_say_16 ?_
  refine tp_i (nI (w + 1)) (nI_add _ _) ?_
  refine va_put (D := (dC, dI)) (ci := 2) (v := .int (nI (w + 1))) (ty := .int) (C := RXM) (T := TXM) (N := 10) hx hb hts hiXM tyXM tyXM_ok nmXM hown hK hP hD hS 0 rfl rfl 9 (by decide) hf65 (fun _ h9 => h9) rfl (by decide +kernel) rfl rfl (Nat.le_of_ble_eq_true rfl) dXM_say_17 (fun H locs hP hD hS => ?_)
  have hP : va_P (dC, dI) azCl [(m0, .inr (2, [.ref mt, .int (nI n), .ref mb, .ref mf, .ref ml, .ref mp, .int xm, .int xg, .ref mo, .int (nI (w + 1))])), (mo, .inl (dO, 64, .inl (upd G w (nI ch))))] H := hP
  have hD : va_D A [(m0, .inr (2, [.ref mt, .int (nI n), .ref mb, .ref mf, .ref ml, .ref mp, .int xm, .int xg, .ref mo, .int (nI (w + 1))])), (mo, .inl (dO, 64, .inl (upd G w (nI ch))))] := hD
  exact wt_v hx hb hr ((upd G w (nI ch), w + 1)) (az_mo_push hg) (hP.sub [0, 1] rfl) hK (hD.sub [0, 1] (by decide) rfl) hS dXM_say_20 hlocks
set_option maxRecDepth 100000 in
set_option maxHeartbeats 4000000 in
/-- sayDecimal(v) -/
theorem ct_m_sayDecimal (l : Launch) (dC : Nat → ClassId) (dI : Nat → Nat → Nat) (sz : Nat) (m0 mt mb mf ml mp mo n w : Nat) (xm xg : Int32) (dO : ClassId) (G : Nat → Int32) (O : List Nat) (hg : az_mo G O w) (v : Nat) (hv : v < 256) (hw2 : w + 3 ≤ 64) : Met l yXM_sayDecimal wsXM_sayDecimal ({ frames := 1, cells := 0, slots := 0, locals := 21 }) (wr_P (dC, dI) azCl [(m0, .inr (2, [.ref mt, .int (nI n), .ref mb, .ref mf, .ref ml, .ref mp, .int xm, .int xg, .ref mo, .int (nI w)])), (mo, .inl (dO, 64, .inl G))] [(dO, .int)] sz [.ref m0, .int (nI v)]) (va_Qv (fun u => az_mo u.1 (O ++ az_dec v) u.2) (wr_B (dC, dI) azCl [(dO, .int)] (va_A [(m0, .inr (2, [.ref mt, .int (nI n), .ref mb, .ref mf, .ref ml, .ref mp, .int xm, .int xg, .ref mo, .int (nI w)])), (mo, .inl (dO, 64, .inl G))] sz) (fun u : (Nat → Int32) × Nat => [(m0, .inr (2, [.ref mt, .int (nI n), .ref mb, .ref mf, .ref ml, .ref mp, .int xm, .int xg, .ref mo, .int (nI u.2)])), (mo, .inl (dO, 64, .inl u.1))])) (va_A [(m0, .inr (2, [.ref mt, .int (nI n), .ref mb, .ref mf, .ref ml, .ref mp, .int xm, .int xg, .ref mo, .int (nI w)])), (mo, .inl (dO, 64, .inl G))] sz)) 0 0 (va_A [(m0, .inr (2, [.ref mt, .int (nI n), .ref mb, .ref mf, .ref ml, .ref mp, .int xm, .int xg, .ref mo, .int (nI w)])), (mo, .inl (dO, 64, .inl G))] sz) := by
  refine Met.ofW (cc := cXM_sayDecimal) (maxL := 2) (ret := none) (by decide) rfl ?_
  intro p e s m args below meth c s₁ Bd hml hv
  obtain ⟨rfl, hsz, hP, hK, hD0⟩ := hv
  have hx := Bd.exec
  have hb := Bd.bytes
  have hr := Bd.returns
  have hts := atoms_spec (ws := wsXM_sayDecimal) Bd.pre
  have hown : s.vm.findClass RXM = some m.cls := findClass_of_methodNamed Bd.named
  have hlocks := Bd.notSynchronized
  subst hsz
  have hD := hD0.self (sz := s.heap.size)
  generalize hAe : va_A [(m0, .inr (2, [.ref mt, .int (nI n), .ref mb, .ref mf, .ref ml, .ref mp, .int xm, .int xg, .ref mo, .int (nI w)])), (mo, .inl (dO, 64, .inl G))] s.heap.size = A at hD ⊢
  have hA : ∀ q : Nat, s.heap.size ≤ q → A q := fun q h => by rw [← hAe]; exact Or.inr h
  have hS : va_S A s.heap s.heap [] := va_S.rf
  have hP : va_P (dC, dI) azCl [(m0, .inr (2, [.ref mt, .int (nI n), .ref mb, .ref mf, .ref ml, .ref mp, .int xm, .int xg, .ref mo, .int (nI w)])), (mo, .inl (dO, 64, .inl G))] s.heap := hP
  have hl := lv_entry ([.ref m0, .int (nI v)]) (n := 2) (Nat.le_of_ble_eq_true rfl)
  rw [lg_entry_eq]
  generalize (lg_sl ([.ref m0, .int (nI v)]) ++ List.replicate (2 - (lg_sl ([.ref m0, .int (nI v)])).length) Slot.unset).toArray = ls at hl ⊢
  have hl : lv_has ls 2 [(0, .ref m0), (1, .int (nI v))] := hl
  have hq0 := hg.1
  refine lv_iload_n hx hb dXM_sayDecimal_0 rfl (lv_at hl 1 rfl) ?_
  refine lv_bipush (v := nI 99) hx hb dXM_sayDecimal_1 (by decide) ?_
  refine bn_le (tgt := 17) hx hb dXM_sayDecimal_3 (by decide) (by omega) (by omega) (fun c3 => ?_) (fun c3 => ?_)
  · refine lv_iload_n hx hb dXM_sayDecimal_17 rfl (lv_at hl 1 rfl) ?_
    refine lv_bipush (v := nI 9) hx hb dXM_sayDecimal_18 (by decide) ?_
    refine bn_le (tgt := 37) hx hb dXM_sayDecimal_20 (by decide) (by omega) (by omega) (fun c20 => ?_) (fun c20 => ?_)
    · refine lv_aload_n hx hb dXM_sayDecimal_37 rfl (lv_at hl 0 rfl) ?_
      refine lv_bipush (v := nI 48) hx hb dXM_sayDecimal_38 (by decide) ?_
      refine lv_iload_n hx hb dXM_sayDecimal_40 rfl (lv_at hl 1 rfl) ?_
      refine lv_bipush (v := nI 10) hx hb dXM_sayDecimal_41 (by decide) ?_
      refine lv_irem hx hb dXM_sayDecimal_43 (by decide) ?_
      refine tp_i (nI (v % 10)) (pk_rem (by omega) (by omega) (by omega)) ?_
      refine lv_iadd hx hb dXM_sayDecimal_44 ?_
      refine tp_i (nI (48 + (v % 10))) (nI_add _ _) ?_
      refine wc_Vv (As := [.int (nI (48 + (v % 10)))]) (rest := []) (wr := []) ⟨hx, hb, hml, hown, hts⟩ (ct_m_say l dC dI s.heap.size m0 mt mb mf ml mp mo n w xm xg dO G O hg (48 + (v % 10)) (by omega)) (cwV 1 hts gXM_sayDecimal_XM_say rfl rfl rfl (by decide +kernel) ⟨Nat.le_of_ble_eq_true rfl, Nat.le_of_ble_eq_true rfl⟩) hP hD hK hS hA [0, 1] [] [0] rfl rfl (by decide) (by decide) (by decide) rfl 0 rfl rfl rfl hl.1 rfl (Nat.le_of_ble_eq_true rfl) dXM_sayDecimal_45 ⟨(Nat.zero_le _), (Nat.zero_le _)⟩ (fun u H locs hg1 hP hD hS => ?_)
      obtain ⟨u1, w1⟩ := u
      try dsimp only at hg1
      have hP : va_P (dC, dI) azCl [(m0, .inr (2, [.ref mt, .int (nI n), .ref mb, .ref mf, .ref ml, .ref mp, .int xm, .int xg, .ref mo, .int (nI w1)])), (mo, .inl (dO, 64, .inl u1))] H := hP
      have hD : va_D A [(m0, .inr (2, [.ref mt, .int (nI n), .ref mb, .ref mf, .ref ml, .ref mp, .int xm, .int xg, .ref mo, .int (nI w1)])), (mo, .inl (dO, 64, .inl u1))] := hD
      have hq1 := hg1.1
      try simp only [List.length_append, List.length_cons, List.length_nil] at hq1
      exact wt_v hx hb hr ((u1, w1)) (by (first | (exfalso; omega) | skip); all_goals (have h := hg1; unfold az_dec; rw [az_ch_a (d := v % 10) (by omega)]; (first | rw [if_pos (show 100 ≤ v by omega), if_pos (show 10 ≤ v by omega), az_ch_a (d := v / 100) (by omega), az_ch_a (d := v / 10 % 10) (by omega)] | rw [if_neg (show ¬ 100 ≤ v by omega), if_pos (show 10 ≤ v by omega), az_ch_a (d := v / 10 % 10) (by omega)] | rw [if_neg (show ¬ 100 ≤ v by omega), if_neg (show ¬ 10 ≤ v by omega)]); all_goals simpa only [List.append_assoc, List.nil_append] using h)) (hP.sub [0, 1] rfl) hK (hD.sub [0, 1] (by decide) rfl) hS dXM_sayDecimal_48 hlocks
    · refine lv_aload_n hx hb dXM_sayDecimal_23 rfl (lv_at hl 0 rfl) ?_
      refine lv_bipush (v := nI 48) hx hb dXM_sayDecimal_24 (by decide) ?_
      refine lv_iload_n hx hb dXM_sayDecimal_26 rfl (lv_at hl 1 rfl) ?_
      refine lv_bipush (v := nI 10) hx hb dXM_sayDecimal_27 (by decide) ?_
      refine lv_idiv hx hb dXM_sayDecimal_29 (by decide) ?_
      refine tp_i (nI (v / 10)) (pk_div (by omega) (by omega) (by omega)) ?_
      refine lv_bipush (v := nI 10) hx hb dXM_sayDecimal_30 (by decide) ?_
      refine lv_irem hx hb dXM_sayDecimal_32 (by decide) ?_
      refine tp_i (nI ((v / 10) % 10)) (pk_rem (by omega) (by omega) (by omega)) ?_
      refine lv_iadd hx hb dXM_sayDecimal_33 ?_
      refine tp_i (nI (48 + ((v / 10) % 10))) (nI_add _ _) ?_
      refine wc_Vv (As := [.int (nI (48 + ((v / 10) % 10)))]) (rest := []) (wr := []) ⟨hx, hb, hml, hown, hts⟩ (ct_m_say l dC dI s.heap.size m0 mt mb mf ml mp mo n w xm xg dO G O hg (48 + ((v / 10) % 10)) (by omega)) (cwV 1 hts gXM_sayDecimal_XM_say rfl rfl rfl (by decide +kernel) ⟨Nat.le_of_ble_eq_true rfl, Nat.le_of_ble_eq_true rfl⟩) hP hD hK hS hA [0, 1] [] [0] rfl rfl (by decide) (by decide) (by decide) rfl 0 rfl rfl rfl hl.1 rfl (Nat.le_of_ble_eq_true rfl) dXM_sayDecimal_34 ⟨(Nat.zero_le _), (Nat.zero_le _)⟩ (fun u H locs hg1 hP hD hS => ?_)
      obtain ⟨u1, w1⟩ := u
      try dsimp only at hg1
      have hP : va_P (dC, dI) azCl [(m0, .inr (2, [.ref mt, .int (nI n), .ref mb, .ref mf, .ref ml, .ref mp, .int xm, .int xg, .ref mo, .int (nI w1)])), (mo, .inl (dO, 64, .inl u1))] H := hP
      have hD : va_D A [(m0, .inr (2, [.ref mt, .int (nI n), .ref mb, .ref mf, .ref ml, .ref mp, .int xm, .int xg, .ref mo, .int (nI w1)])), (mo, .inl (dO, 64, .inl u1))] := hD
      have hq1 := hg1.1
      try simp only [List.length_append, List.length_cons, List.length_nil] at hq1
      refine lv_aload_n hx hb dXM_sayDecimal_37 rfl (lv_at hl 0 rfl) ?_
      refine lv_bipush (v := nI 48) hx hb dXM_sayDecimal_38 (by decide) ?_
      refine lv_iload_n hx hb dXM_sayDecimal_40 rfl (lv_at hl 1 rfl) ?_
      refine lv_bipush (v := nI 10) hx hb dXM_sayDecimal_41 (by decide) ?_
      refine lv_irem hx hb dXM_sayDecimal_43 (by decide) ?_
      refine tp_i (nI (v % 10)) (pk_rem (by omega) (by omega) (by omega)) ?_
      refine lv_iadd hx hb dXM_sayDecimal_44 ?_
      refine tp_i (nI (48 + (v % 10))) (nI_add _ _) ?_
      refine wc_Vv (As := [.int (nI (48 + (v % 10)))]) (rest := []) (wr := []) ⟨hx, hb, hml, hown, hts⟩ (ct_m_say l dC dI H.size m0 mt mb mf ml mp mo n w1 xm xg dO u1 (O ++ [48 + ((v / 10) % 10)]) hg1 (48 + (v % 10)) (by omega)) (cwV 1 hts gXM_sayDecimal_XM_say rfl rfl rfl (by decide +kernel) ⟨Nat.le_of_ble_eq_true rfl, Nat.le_of_ble_eq_true rfl⟩) hP hD hK hS hA [0, 1] [] [0] rfl rfl (by decide) (by decide) (by decide) rfl 0 rfl rfl rfl hl.1 rfl (Nat.le_of_ble_eq_true rfl) dXM_sayDecimal_45 ⟨(Nat.zero_le _), (Nat.zero_le _)⟩ (fun u H locs hg2 hP hD hS => ?_)
      obtain ⟨u2, w2⟩ := u
      try dsimp only at hg2
      have hP : va_P (dC, dI) azCl [(m0, .inr (2, [.ref mt, .int (nI n), .ref mb, .ref mf, .ref ml, .ref mp, .int xm, .int xg, .ref mo, .int (nI w2)])), (mo, .inl (dO, 64, .inl u2))] H := hP
      have hD : va_D A [(m0, .inr (2, [.ref mt, .int (nI n), .ref mb, .ref mf, .ref ml, .ref mp, .int xm, .int xg, .ref mo, .int (nI w2)])), (mo, .inl (dO, 64, .inl u2))] := hD
      have hq2 := hg2.1
      try simp only [List.length_append, List.length_cons, List.length_nil] at hq2
      exact wt_v hx hb hr ((u2, w2)) (by (first | (exfalso; omega) | skip); all_goals (have h := hg2; unfold az_dec; rw [az_ch_a (d := v % 10) (by omega)]; (first | rw [if_pos (show 100 ≤ v by omega), if_pos (show 10 ≤ v by omega), az_ch_a (d := v / 100) (by omega), az_ch_a (d := v / 10 % 10) (by omega)] | rw [if_neg (show ¬ 100 ≤ v by omega), if_pos (show 10 ≤ v by omega), az_ch_a (d := v / 10 % 10) (by omega)] | rw [if_neg (show ¬ 100 ≤ v by omega), if_neg (show ¬ 10 ≤ v by omega)]); all_goals simpa only [List.append_assoc, List.nil_append] using h)) (hP.sub [0, 1] rfl) hK (hD.sub [0, 1] (by decide) rfl) hS dXM_sayDecimal_48 hlocks
  · refine lv_aload_n hx hb dXM_sayDecimal_6 rfl (lv_at hl 0 rfl) ?_
    refine lv_bipush (v := nI 48) hx hb dXM_sayDecimal_7 (by decide) ?_
    refine lv_iload_n hx hb dXM_sayDecimal_9 rfl (lv_at hl 1 rfl) ?_
    refine lv_bipush (v := nI 100) hx hb dXM_sayDecimal_10 (by decide) ?_
    refine lv_idiv hx hb dXM_sayDecimal_12 (by decide) ?_
    refine tp_i (nI (v / 100)) (pk_div (by omega) (by omega) (by omega)) ?_
    refine lv_iadd hx hb dXM_sayDecimal_13 ?_
    refine tp_i (nI (48 + (v / 100))) (nI_add _ _) ?_
    refine wc_Vv (As := [.int (nI (48 + (v / 100)))]) (rest := []) (wr := []) ⟨hx, hb, hml, hown, hts⟩ (ct_m_say l dC dI s.heap.size m0 mt mb mf ml mp mo n w xm xg dO G O hg (48 + (v / 100)) (by omega)) (cwV 1 hts gXM_sayDecimal_XM_say rfl rfl rfl (by decide +kernel) ⟨Nat.le_of_ble_eq_true rfl, Nat.le_of_ble_eq_true rfl⟩) hP hD hK hS hA [0, 1] [] [0] rfl rfl (by decide) (by decide) (by decide) rfl 0 rfl rfl rfl hl.1 rfl (Nat.le_of_ble_eq_true rfl) dXM_sayDecimal_14 ⟨(Nat.zero_le _), (Nat.zero_le _)⟩ (fun u H locs hg1 hP hD hS => ?_)
    obtain ⟨u1, w1⟩ := u
    try dsimp only at hg1
    have hP : va_P (dC, dI) azCl [(m0, .inr (2, [.ref mt, .int (nI n), .ref mb, .ref mf, .ref ml, .ref mp, .int xm, .int xg, .ref mo, .int (nI w1)])), (mo, .inl (dO, 64, .inl u1))] H := hP
    have hD : va_D A [(m0, .inr (2, [.ref mt, .int (nI n), .ref mb, .ref mf, .ref ml, .ref mp, .int xm, .int xg, .ref mo, .int (nI w1)])), (mo, .inl (dO, 64, .inl u1))] := hD
    have hq1 := hg1.1
    try simp only [List.length_append, List.length_cons, List.length_nil] at hq1
    refine lv_iload_n hx hb dXM_sayDecimal_17 rfl (lv_at hl 1 rfl) ?_
    refine lv_bipush (v := nI 9) hx hb dXM_sayDecimal_18 (by decide) ?_
    refine bn_le (tgt := 37) hx hb dXM_sayDecimal_20 (by decide) (by omega) (by omega) (fun c20 => ?_) (fun c20 => ?_)
    · refine lv_aload_n hx hb dXM_sayDecimal_37 rfl (lv_at hl 0 rfl) ?_
      refine lv_bipush (v := nI 48) hx hb dXM_sayDecimal_38 (by decide) ?_
      refine lv_iload_n hx hb dXM_sayDecimal_40 rfl (lv_at hl 1 rfl) ?_
      refine lv_bipush (v := nI 10) hx hb dXM_sayDecimal_41 (by decide) ?_
      refine lv_irem hx hb dXM_sayDecimal_43 (by decide) ?_
      refine tp_i (nI (v % 10)) (pk_rem (by omega) (by omega) (by omega)) ?_
      refine lv_iadd hx hb dXM_sayDecimal_44 ?_
      refine tp_i (nI (48 + (v % 10))) (nI_add _ _) ?_
      refine wc_Vv (As := [.int (nI (48 + (v % 10)))]) (rest := []) (wr := []) ⟨hx, hb, hml, hown, hts⟩ (ct_m_say l dC dI H.size m0 mt mb mf ml mp mo n w1 xm xg dO u1 (O ++ [48 + (v / 100)]) hg1 (48 + (v % 10)) (by omega)) (cwV 1 hts gXM_sayDecimal_XM_say rfl rfl rfl (by decide +kernel) ⟨Nat.le_of_ble_eq_true rfl, Nat.le_of_ble_eq_true rfl⟩) hP hD hK hS hA [0, 1] [] [0] rfl rfl (by decide) (by decide) (by decide) rfl 0 rfl rfl rfl hl.1 rfl (Nat.le_of_ble_eq_true rfl) dXM_sayDecimal_45 ⟨(Nat.zero_le _), (Nat.zero_le _)⟩ (fun u H locs hg2 hP hD hS => ?_)
      obtain ⟨u2, w2⟩ := u
      try dsimp only at hg2
      have hP : va_P (dC, dI) azCl [(m0, .inr (2, [.ref mt, .int (nI n), .ref mb, .ref mf, .ref ml, .ref mp, .int xm, .int xg, .ref mo, .int (nI w2)])), (mo, .inl (dO, 64, .inl u2))] H := hP
      have hD : va_D A [(m0, .inr (2, [.ref mt, .int (nI n), .ref mb, .ref mf, .ref ml, .ref mp, .int xm, .int xg, .ref mo, .int (nI w2)])), (mo, .inl (dO, 64, .inl u2))] := hD
      have hq2 := hg2.1
      try simp only [List.length_append, List.length_cons, List.length_nil] at hq2
      exact wt_v hx hb hr ((u2, w2)) (by (first | (exfalso; omega) | skip); all_goals (have h := hg2; unfold az_dec; rw [az_ch_a (d := v % 10) (by omega)]; (first | rw [if_pos (show 100 ≤ v by omega), if_pos (show 10 ≤ v by omega), az_ch_a (d := v / 100) (by omega), az_ch_a (d := v / 10 % 10) (by omega)] | rw [if_neg (show ¬ 100 ≤ v by omega), if_pos (show 10 ≤ v by omega), az_ch_a (d := v / 10 % 10) (by omega)] | rw [if_neg (show ¬ 100 ≤ v by omega), if_neg (show ¬ 10 ≤ v by omega)]); all_goals simpa only [List.append_assoc, List.nil_append] using h)) (hP.sub [0, 1] rfl) hK (hD.sub [0, 1] (by decide) rfl) hS dXM_sayDecimal_48 hlocks
    · refine lv_aload_n hx hb dXM_sayDecimal_23 rfl (lv_at hl 0 rfl) ?_
      refine lv_bipush (v := nI 48) hx hb dXM_sayDecimal_24 (by decide) ?_
      refine lv_iload_n hx hb dXM_sayDecimal_26 rfl (lv_at hl 1 rfl) ?_
      refine lv_bipush (v := nI 10) hx hb dXM_sayDecimal_27 (by decide) ?_
      refine lv_idiv hx hb dXM_sayDecimal_29 (by decide) ?_
      refine tp_i (nI (v / 10)) (pk_div (by omega) (by omega) (by omega)) ?_
      refine lv_bipush (v := nI 10) hx hb dXM_sayDecimal_30 (by decide) ?_
      refine lv_irem hx hb dXM_sayDecimal_32 (by decide) ?_
      refine tp_i (nI ((v / 10) % 10)) (pk_rem (by omega) (by omega) (by omega)) ?_
      refine lv_iadd hx hb dXM_sayDecimal_33 ?_
      refine tp_i (nI (48 + ((v / 10) % 10))) (nI_add _ _) ?_
      refine wc_Vv (As := [.int (nI (48 + ((v / 10) % 10)))]) (rest := []) (wr := []) ⟨hx, hb, hml, hown, hts⟩ (ct_m_say l dC dI H.size m0 mt mb mf ml mp mo n w1 xm xg dO u1 (O ++ [48 + (v / 100)]) hg1 (48 + ((v / 10) % 10)) (by omega)) (cwV 1 hts gXM_sayDecimal_XM_say rfl rfl rfl (by decide +kernel) ⟨Nat.le_of_ble_eq_true rfl, Nat.le_of_ble_eq_true rfl⟩) hP hD hK hS hA [0, 1] [] [0] rfl rfl (by decide) (by decide) (by decide) rfl 0 rfl rfl rfl hl.1 rfl (Nat.le_of_ble_eq_true rfl) dXM_sayDecimal_34 ⟨(Nat.zero_le _), (Nat.zero_le _)⟩ (fun u H locs hg2 hP hD hS => ?_)
      obtain ⟨u2, w2⟩ := u
      try dsimp only at hg2
      have hP : va_P (dC, dI) azCl [(m0, .inr (2, [.ref mt, .int (nI n), .ref mb, .ref mf, .ref ml, .ref mp, .int xm, .int xg, .ref mo, .int (nI w2)])), (mo, .inl (dO, 64, .inl u2))] H := hP
      have hD : va_D A [(m0, .inr (2, [.ref mt, .int (nI n), .ref mb, .ref mf, .ref ml, .ref mp, .int xm, .int xg, .ref mo, .int (nI w2)])), (mo, .inl (dO, 64, .inl u2))] := hD
      have hq2 := hg2.1
      try simp only [List.length_append, List.length_cons, List.length_nil] at hq2
      refine lv_aload_n hx hb dXM_sayDecimal_37 rfl (lv_at hl 0 rfl) ?_
      refine lv_bipush (v := nI 48) hx hb dXM_sayDecimal_38 (by decide) ?_
      refine lv_iload_n hx hb dXM_sayDecimal_40 rfl (lv_at hl 1 rfl) ?_
      refine lv_bipush (v := nI 10) hx hb dXM_sayDecimal_41 (by decide) ?_
      refine lv_irem hx hb dXM_sayDecimal_43 (by decide) ?_
      refine tp_i (nI (v % 10)) (pk_rem (by omega) (by omega) (by omega)) ?_
      refine lv_iadd hx hb dXM_sayDecimal_44 ?_
      refine tp_i (nI (48 + (v % 10))) (nI_add _ _) ?_
      refine wc_Vv (As := [.int (nI (48 + (v % 10)))]) (rest := []) (wr := []) ⟨hx, hb, hml, hown, hts⟩ (ct_m_say l dC dI H.size m0 mt mb mf ml mp mo n w2 xm xg dO u2 ((O ++ [48 + (v / 100)]) ++ [48 + ((v / 10) % 10)]) hg2 (48 + (v % 10)) (by omega)) (cwV 1 hts gXM_sayDecimal_XM_say rfl rfl rfl (by decide +kernel) ⟨Nat.le_of_ble_eq_true rfl, Nat.le_of_ble_eq_true rfl⟩) hP hD hK hS hA [0, 1] [] [0] rfl rfl (by decide) (by decide) (by decide) rfl 0 rfl rfl rfl hl.1 rfl (Nat.le_of_ble_eq_true rfl) dXM_sayDecimal_45 ⟨(Nat.zero_le _), (Nat.zero_le _)⟩ (fun u H locs hg3 hP hD hS => ?_)
      obtain ⟨u3, w3⟩ := u
      try dsimp only at hg3
      have hP : va_P (dC, dI) azCl [(m0, .inr (2, [.ref mt, .int (nI n), .ref mb, .ref mf, .ref ml, .ref mp, .int xm, .int xg, .ref mo, .int (nI w3)])), (mo, .inl (dO, 64, .inl u3))] H := hP
      have hD : va_D A [(m0, .inr (2, [.ref mt, .int (nI n), .ref mb, .ref mf, .ref ml, .ref mp, .int xm, .int xg, .ref mo, .int (nI w3)])), (mo, .inl (dO, 64, .inl u3))] := hD
      have hq3 := hg3.1
      try simp only [List.length_append, List.length_cons, List.length_nil] at hq3
      exact wt_v hx hb hr ((u3, w3)) (by (first | (exfalso; omega) | skip); all_goals (have h := hg3; unfold az_dec; rw [az_ch_a (d := v % 10) (by omega)]; (first | rw [if_pos (show 100 ≤ v by omega), if_pos (show 10 ≤ v by omega), az_ch_a (d := v / 100) (by omega), az_ch_a (d := v / 10 % 10) (by omega)] | rw [if_neg (show ¬ 100 ≤ v by omega), if_pos (show 10 ≤ v by omega), az_ch_a (d := v / 10 % 10) (by omega)] | rw [if_neg (show ¬ 100 ≤ v by omega), if_neg (show ¬ 10 ≤ v by omega)]); all_goals simpa only [List.append_assoc, List.nil_append] using h)) (hP.sub [0, 1] rfl) hK (hD.sub [0, 1] (by decide) rfl) hS dXM_sayDecimal_48 hlocks
set_option maxRecDepth 100000 in
set_option maxHeartbeats 4000000 in
/-- sayPart(v) -/
theorem ct_m_sayPart (l : Launch) (dC : Nat → ClassId) (dI : Nat → Nat → Nat) (sz : Nat) (m0 mt mb mf ml mp mo n w : Nat) (xm xg : Int32) (dO : ClassId) (G : Nat → Int32) (O : List Nat) (hg : az_mo G O w) (v : Nat) (hv : v < 65536) (hw2 : w + 4 ≤ 64) : Met l yXM_sayPart wsXM_sayPart ({ frames := 1, cells := 0, slots := 0, locals := 21 }) (wr_P (dC, dI) azCl [(m0, .inr (2, [.ref mt, .int (nI n), .ref mb, .ref mf, .ref ml, .ref mp, .int xm, .int xg, .ref mo, .int (nI w)])), (mo, .inl (dO, 64, .inl G))] [(dO, .int)] sz [.ref m0, .int (nI v)]) (va_Qv (fun u => az_mo u.1 (O ++ az_hex v) u.2) (wr_B (dC, dI) azCl [(dO, .int)] (va_A [(m0, .inr (2, [.ref mt, .int (nI n), .ref mb, .ref mf, .ref ml, .ref mp, .int xm, .int xg, .ref mo, .int (nI w)])), (mo, .inl (dO, 64, .inl G))] sz) (fun u : (Nat → Int32) × Nat => [(m0, .inr (2, [.ref mt, .int (nI n), .ref mb, .ref mf, .ref ml, .ref mp, .int xm, .int xg, .ref mo, .int (nI u.2)])), (mo, .inl (dO, 64, .inl u.1))])) (va_A [(m0, .inr (2, [.ref mt, .int (nI n), .ref mb, .ref mf, .ref ml, .ref mp, .int xm, .int xg, .ref mo, .int (nI w)])), (mo, .inl (dO, 64, .inl G))] sz)) 0 0 (va_A [(m0, .inr (2, [.ref mt, .int (nI n), .ref mb, .ref mf, .ref ml, .ref mp, .int xm, .int xg, .ref mo, .int (nI w)])), (mo, .inl (dO, 64, .inl G))] sz) := by
  refine Met.ofW (cc := cXM_sayPart) (maxL := 3) (ret := none) (by decide) rfl ?_
  intro p e s m args below meth c s₁ Bd hml hv
  obtain ⟨rfl, hsz, hP, hK, hD0⟩ := hv
  have hx := Bd.exec
  have hb := Bd.bytes
  have hr := Bd.returns
  have hts := atoms_spec (ws := wsXM_sayPart) Bd.pre
  have hown : s.vm.findClass RXM = some m.cls := findClass_of_methodNamed Bd.named
  have hlocks := Bd.notSynchronized
  subst hsz
  have hD := hD0.self (sz := s.heap.size)
  generalize hAe : va_A [(m0, .inr (2, [.ref mt, .int (nI n), .ref mb, .ref mf, .ref ml, .ref mp, .int xm, .int xg, .ref mo, .int (nI w)])), (mo, .inl (dO, 64, .inl G))] s.heap.size = A at hD ⊢
  have hA : ∀ q : Nat, s.heap.size ≤ q → A q := fun q h => by rw [← hAe]; exact Or.inr h
  have hS : va_S A s.heap s.heap [] := va_S.rf
  have hP : va_P (dC, dI) azCl [(m0, .inr (2, [.ref mt, .int (nI n), .ref mb, .ref mf, .ref ml, .ref mp, .int xm, .int xg, .ref mo, .int (nI w)])), (mo, .inl (dO, 64, .inl G))] s.heap := hP
  have hl := lv_entry ([.ref m0, .int (nI v)]) (n := 3) (Nat.le_of_ble_eq_true rfl)
  rw [lg_entry_eq]
  generalize (lg_sl ([.ref m0, .int (nI v)]) ++ List.replicate (3 - (lg_sl ([.ref m0, .int (nI v)])).length) Slot.unset).toArray = ls at hl ⊢
  have hl : lv_has ls 3 [(0, .ref m0), (1, .int (nI v))] := hl
  refine lv_bipush (v := nI 12) hx hb dXM_sayPart_0 (by decide) ?_
  refine lv_istore_n (lv' := [(2, .int (nI 12)), (0, .ref m0), (1, .int (nI v))]) hx hb dXM_sayPart_2 rfl hl (by decide) rfl (fun ls hl => ?_)
  have lp3 : ∀ (N : Nat) (j : Nat) (wk : Nat) (Gk : Nat → Int32) (Ok : List Nat), (j ≤ 4) → (az_mo Gk Ok wk) → (Ok ++ az_hxl v j = O ++ az_hex v) → (wk + j ≤ 64) → j < N → ∀ (H : Heap) (locs : List Loc), va_P (dC, dI) azCl [(m0, .inr (2, [.ref mt, .int (nI n), .ref mb, .ref mf, .ref ml, .ref mp, .int xm, .int xg, .ref mo, .int (nI wk)])), (mo, .inl (dO, 64, .inl Gk))] H → va_D A [(m0, .inr (2, [.ref mt, .int (nI n), .ref mb, .ref mf, .ref ml, .ref mp, .int xm, .int xg, .ref mo, .int (nI wk)])), (mo, .inl (dO, 64, .inl Gk))] → va_S A s.heap H locs → ∀ (ls : Array Slot), lv_has ls 3 [(0, .ref m0), (1, .int (nI v)), (2, .int (az_k j))] → W p l e (headSpec wsXM_sayPart ({ frames := 1, cells := 0, slots := 0, locals := 21 })).room s m ([.ref m0, .int (nI v)] : List Value).toArray below meth c H locs 0 0 (MQ below (va_Qv (fun u => az_mo u.1 (O ++ az_hex v) u.2) (wr_B (dC, dI) azCl [(dO, .int)] A (fun u : (Nat → Int32) × Nat => [(m0, .inr (2, [.ref mt, .int (nI n), .ref mb, .ref mf, .ref ml, .ref mp, .int xm, .int xg, .ref mo, .int (nI u.2)])), (mo, .inl (dO, 64, .inl u.1))])) A) ([.ref m0, .int (nI v)] : List Value).toArray s 0 0 A) (F0 m 3 ls []) := by
    intro N
    induction N with
    | zero => intro j wk Gk Ok hj hgk hok hwk hN; exact absurd hN (Nat.not_lt_zero _)
    | succ N ih =>
      intro j wk Gk Ok hj hgk hok hwk hN H locs hP hD hS ls hl
      have hq0 := hgk.1
      rcases j with _ | i
      · have hl : lv_has ls 3 [(0, .ref m0), (1, .int (nI v)), (2, .int (-4))] := hl
        refine lv_iload_n hx hb dXM_sayPart_3 rfl (lv_at hl 2 rfl) ?_
        refine lv_if_lt (tgt := 59) hx hb dXM_sayPart_4 (by decide) (fun _ => ?_) (fun c => absurd c (by decide))
        exact wt_v hx hb hr ((Gk, wk)) (by have h := hok; rw [show az_hxl v 0 = [] from rfl, List.append_nil] at h; rw [← h]; exact hgk) (hP.sub [0, 1] rfl) hK (hD.sub [0, 1] (by decide) rfl) hS dXM_sayPart_59 hlocks
      · have hl : lv_has ls 3 [(0, .ref m0), (1, .int (nI v)), (2, .int (nI (4 * i)))] := hl
        have hdv := Nat.div_le_self v (2 ^ (4 * i))
        refine lv_iload_n hx hb dXM_sayPart_3 rfl (lv_at hl 2 rfl) ?_
        refine bz_lt (tgt := 59) hx hb dXM_sayPart_4 (by decide) (by omega) ?_
        refine lv_iload_n hx hb dXM_sayPart_7 rfl (lv_at hl 1 rfl) ?_
        refine lv_iload_n hx hb dXM_sayPart_8 rfl (lv_at hl 2 rfl) ?_
        refine lv_ishr hx hb dXM_sayPart_9 ?_
        refine tp_i (nI (v / 2 ^ (4 * i))) (pk_shrN (by omega) _ _ (s_l _ (by omega))) ?_
        refine bz_gt (tgt := 17) hx hb dXM_sayPart_10 (by decide) (by omega) (fun c10 => ?_) (fun c10 => ?_)
        · refine lv_aload_n hx hb dXM_sayPart_17 rfl (lv_at hl 0 rfl) ?_
          refine lv_iload_n hx hb dXM_sayPart_18 rfl (lv_at hl 1 rfl) ?_
          refine lv_iload_n hx hb dXM_sayPart_19 rfl (lv_at hl 2 rfl) ?_
          refine lv_ishr hx hb dXM_sayPart_20 ?_
          refine tp_i (nI (v / 2 ^ (4 * i))) (pk_shrN (by omega) _ _ (s_l _ (by omega))) ?_
          refine lv_bipush (v := nI 15) hx hb dXM_sayPart_21 (by decide) ?_
          refine lv_iand hx hb dXM_sayPart_23 ?_
          refine tp_i (nI ((v / 2 ^ (4 * i)) % 16)) (pk_andN (by omega) 4 (by decide)) ?_
          refine lv_bipush (v := nI 10) hx hb dXM_sayPart_24 (by decide) ?_
          refine bn_ge (tgt := 41) hx hb dXM_sayPart_26 (by decide) (by omega) (by omega) (fun c26 => ?_) (fun c26 => ?_)
          · refine lv_bipush (v := nI 87) hx hb dXM_sayPart_41 (by decide) ?_
            refine lv_iload_n hx hb dXM_sayPart_43 rfl (lv_at hl 1 rfl) ?_
            refine lv_iload_n hx hb dXM_sayPart_44 rfl (lv_at hl 2 rfl) ?_
            refine lv_ishr hx hb dXM_sayPart_45 ?_
            refine tp_i (nI (v / 2 ^ (4 * i))) (pk_shrN (by omega) _ _ (s_l _ (by omega))) ?_
            refine lv_bipush (v := nI 15) hx hb dXM_sayPart_46 (by decide) ?_
            refine lv_iand hx hb dXM_sayPart_48 ?_
            refine tp_i (nI ((v / 2 ^ (4 * i)) % 16)) (pk_andN (by omega) 4 (by decide)) ?_
            refine lv_iadd hx hb dXM_sayPart_49 ?_
            refine tp_i (nI (87 + ((v / 2 ^ (4 * i)) % 16))) (nI_add _ _) ?_
            refine tp_i (nI (az_ch (v / 2 ^ (4 * i) % 16))) (congrArg nI (by first | exact (az_ch_a (d := v / 2 ^ (4 * i) % 16) (by omega)).symm | exact ((az_ch_b (d := v / 2 ^ (4 * i) % 16) (by omega)).trans (by omega)).symm)) ?_
            refine wc_Vv (As := [.int (nI (az_ch (v / 2 ^ (4 * i) % 16)))]) (rest := []) (wr := []) ⟨hx, hb, hml, hown, hts⟩ (ct_m_say l dC dI H.size m0 mt mb mf ml mp mo n wk xm xg dO Gk Ok hgk (az_ch (v / 2 ^ (4 * i) % 16)) (by omega)) (cwV 1 hts gXM_sayPart_XM_say rfl rfl rfl (by decide +kernel) ⟨Nat.le_of_ble_eq_true rfl, Nat.le_of_ble_eq_true rfl⟩) hP hD hK hS hA [0, 1] [] [0] rfl rfl (by decide) (by decide) (by decide) rfl 0 rfl rfl rfl hl.1 rfl (Nat.le_of_ble_eq_true rfl) dXM_sayPart_50 ⟨(Nat.zero_le _), (Nat.zero_le _)⟩ (fun u H locs hg1 hP hD hS => ?_)
            obtain ⟨u1, w1⟩ := u
            try dsimp only at hg1
            have hP : va_P (dC, dI) azCl [(m0, .inr (2, [.ref mt, .int (nI n), .ref mb, .ref mf, .ref ml, .ref mp, .int xm, .int xg, .ref mo, .int (nI w1)])), (mo, .inl (dO, 64, .inl u1))] H := hP
            have hD : va_D A [(m0, .inr (2, [.ref mt, .int (nI n), .ref mb, .ref mf, .ref ml, .ref mp, .int xm, .int xg, .ref mo, .int (nI w1)])), (mo, .inl (dO, 64, .inl u1))] := hD
            have hq1 := hg1.1
            try simp only [List.length_append, List.length_cons, List.length_nil] at hq1
            refine lv_iinc (v := az_k i) (lv' := [(2, .int (az_k i)), (0, .ref m0), (1, .int (nI v))]) hx hb dXM_sayPart_53 hl (k := 2) rfl (az_k_s i (by omega)) (by decide) rfl (fun ls hl => ?_)
            refine lv_goto (tgt := 3) hx hb dXM_sayPart_56 (by decide) ?_
            exact ih i w1 u1 (Ok ++ [az_ch (v / 2 ^ (4 * i) % 16)]) (by omega) (hg1) (by rw [← hok]; show _ = Ok ++ ((if 0 < v / 2 ^ (4 * i) ∨ i = 0 then [az_ch (v / 2 ^ (4 * i) % 16)] else []) ++ az_hxl v i); first | rw [if_pos (show 0 < v / 2 ^ (4 * i) ∨ i = 0 by omega), List.append_assoc] | rw [if_neg (show ¬ (0 < v / 2 ^ (4 * i) ∨ i = 0) by omega), List.nil_append]) (by omega) (by omega) _ _ (hP.sub [0, 1] rfl) (hD.sub [0, 1] (by decide) rfl) hS ls (lv_sub hl [1, 2, 0] rfl)
          · refine lv_bipush (v := nI 48) hx hb dXM_sayPart_29 (by decide) ?_
            refine lv_iload_n hx hb dXM_sayPart_31 rfl (lv_at hl 1 rfl) ?_
            refine lv_iload_n hx hb dXM_sayPart_32 rfl (lv_at hl 2 rfl) ?_
            refine lv_ishr hx hb dXM_sayPart_33 ?_
            refine tp_i (nI (v / 2 ^ (4 * i))) (pk_shrN (by omega) _ _ (s_l _ (by omega))) ?_
            refine lv_bipush (v := nI 15) hx hb dXM_sayPart_34 (by decide) ?_
            refine lv_iand hx hb dXM_sayPart_36 ?_
            refine tp_i (nI ((v / 2 ^ (4 * i)) % 16)) (pk_andN (by omega) 4 (by decide)) ?_
            refine lv_iadd hx hb dXM_sayPart_37 ?_
            refine tp_i (nI (48 + ((v / 2 ^ (4 * i)) % 16))) (nI_add _ _) ?_
            refine lv_goto (tgt := 50) hx hb dXM_sayPart_38 (by decide) ?_
            refine tp_i (nI (az_ch (v / 2 ^ (4 * i) % 16))) (congrArg nI (by first | exact (az_ch_a (d := v / 2 ^ (4 * i) % 16) (by omega)).symm | exact ((az_ch_b (d := v / 2 ^ (4 * i) % 16) (by omega)).trans (by omega)).symm)) ?_
            refine wc_Vv (As := [.int (nI (az_ch (v / 2 ^ (4 * i) % 16)))]) (rest := []) (wr := []) ⟨hx, hb, hml, hown, hts⟩ (ct_m_say l dC dI H.size m0 mt mb mf ml mp mo n wk xm xg dO Gk Ok hgk (az_ch (v / 2 ^ (4 * i) % 16)) (by omega)) (cwV 1 hts gXM_sayPart_XM_say rfl rfl rfl (by decide +kernel) ⟨Nat.le_of_ble_eq_true rfl, Nat.le_of_ble_eq_true rfl⟩) hP hD hK hS hA [0, 1] [] [0] rfl rfl (by decide) (by decide) (by decide) rfl 0 rfl rfl rfl hl.1 rfl (Nat.le_of_ble_eq_true rfl) dXM_sayPart_50 ⟨(Nat.zero_le _), (Nat.zero_le _)⟩ (fun u H locs hg1 hP hD hS => ?_)
            obtain ⟨u1, w1⟩ := u
            try dsimp only at hg1
            have hP : va_P (dC, dI) azCl [(m0, .inr (2, [.ref mt, .int (nI n), .ref mb, .ref mf, .ref ml, .ref mp, .int xm, .int xg, .ref mo, .int (nI w1)])), (mo, .inl (dO, 64, .inl u1))] H := hP
            have hD : va_D A [(m0, .inr (2, [.ref mt, .int (nI n), .ref mb, .ref mf, .ref ml, .ref mp, .int xm, .int xg, .ref mo, .int (nI w1)])), (mo, .inl (dO, 64, .inl u1))] := hD
            have hq1 := hg1.1
            try simp only [List.length_append, List.length_cons, List.length_nil] at hq1
            refine lv_iinc (v := az_k i) (lv' := [(2, .int (az_k i)), (0, .ref m0), (1, .int (nI v))]) hx hb dXM_sayPart_53 hl (k := 2) rfl (az_k_s i (by omega)) (by decide) rfl (fun ls hl => ?_)
            refine lv_goto (tgt := 3) hx hb dXM_sayPart_56 (by decide) ?_
            exact ih i w1 u1 (Ok ++ [az_ch (v / 2 ^ (4 * i) % 16)]) (by omega) (hg1) (by rw [← hok]; show _ = Ok ++ ((if 0 < v / 2 ^ (4 * i) ∨ i = 0 then [az_ch (v / 2 ^ (4 * i) % 16)] else []) ++ az_hxl v i); first | rw [if_pos (show 0 < v / 2 ^ (4 * i) ∨ i = 0 by omega), List.append_assoc] | rw [if_neg (show ¬ (0 < v / 2 ^ (4 * i) ∨ i = 0) by omega), List.nil_append]) (by omega) (by omega) _ _ (hP.sub [0, 1] rfl) (hD.sub [0, 1] (by decide) rfl) hS ls (lv_sub hl [1, 2, 0] rfl)
        · refine lv_iload_n hx hb dXM_sayPart_13 rfl (lv_at hl 2 rfl) ?_
          refine bz_ne (tgt := 53) hx hb dXM_sayPart_14 (by decide) (by omega) (fun c14 => ?_) (fun c14 => ?_)
          · refine lv_iinc (v := az_k i) (lv' := [(2, .int (az_k i)), (0, .ref m0), (1, .int (nI v))]) hx hb dXM_sayPart_53 hl (k := 2) rfl (az_k_s i (by omega)) (by decide) rfl (fun ls hl => ?_)
            refine lv_goto (tgt := 3) hx hb dXM_sayPart_56 (by decide) ?_
            exact ih i wk Gk Ok (by omega) (hgk) (by rw [← hok]; show _ = Ok ++ ((if 0 < v / 2 ^ (4 * i) ∨ i = 0 then [az_ch (v / 2 ^ (4 * i) % 16)] else []) ++ az_hxl v i); first | rw [if_pos (show 0 < v / 2 ^ (4 * i) ∨ i = 0 by omega), List.append_assoc] | rw [if_neg (show ¬ (0 < v / 2 ^ (4 * i) ∨ i = 0) by omega), List.nil_append]) (by omega) (by omega) _ _ (hP.sub [0, 1] rfl) (hD.sub [0, 1] (by decide) rfl) hS ls (lv_sub hl [1, 2, 0] rfl)
          · refine lv_aload_n hx hb dXM_sayPart_17 rfl (lv_at hl 0 rfl) ?_
            refine lv_iload_n hx hb dXM_sayPart_18 rfl (lv_at hl 1 rfl) ?_
            refine lv_iload_n hx hb dXM_sayPart_19 rfl (lv_at hl 2 rfl) ?_
            refine lv_ishr hx hb dXM_sayPart_20 ?_
            refine tp_i (nI (v / 2 ^ (4 * i))) (pk_shrN (by omega) _ _ (s_l _ (by omega))) ?_
            refine lv_bipush (v := nI 15) hx hb dXM_sayPart_21 (by decide) ?_
            refine lv_iand hx hb dXM_sayPart_23 ?_
            refine tp_i (nI ((v / 2 ^ (4 * i)) % 16)) (pk_andN (by omega) 4 (by decide)) ?_
            refine lv_bipush (v := nI 10) hx hb dXM_sayPart_24 (by decide) ?_
            refine bn_ge (tgt := 41) hx hb dXM_sayPart_26 (by decide) (by omega) (by omega) (fun c26 => ?_) (fun c26 => ?_)
            · refine lv_bipush (v := nI 87) hx hb dXM_sayPart_41 (by decide) ?_
              refine lv_iload_n hx hb dXM_sayPart_43 rfl (lv_at hl 1 rfl) ?_
              refine lv_iload_n hx hb dXM_sayPart_44 rfl (lv_at hl 2 rfl) ?_
              refine lv_ishr hx hb dXM_sayPart_45 ?_
              refine tp_i (nI (v / 2 ^ (4 * i))) (pk_shrN (by omega) _ _ (s_l _ (by omega))) ?_
              refine lv_bipush (v := nI 15) hx hb dXM_sayPart_46 (by decide) ?_
              refine lv_iand hx hb dXM_sayPart_48 ?_
              refine tp_i (nI ((v / 2 ^ (4 * i)) % 16)) (pk_andN (by omega) 4 (by decide)) ?_
              refine lv_iadd hx hb dXM_sayPart_49 ?_
              refine tp_i (nI (87 + ((v / 2 ^ (4 * i)) % 16))) (nI_add _ _) ?_
              refine tp_i (nI (az_ch (v / 2 ^ (4 * i) % 16))) (congrArg nI (by first | exact (az_ch_a (d := v / 2 ^ (4 * i) % 16) (by omega)).symm | exact ((az_ch_b (d := v / 2 ^ (4 * i) % 16) (by omega)).trans (by omega)).symm)) ?_
              refine wc_Vv (As := [.int (nI (az_ch (v / 2 ^ (4 * i) % 16)))]) (rest := []) (wr := []) ⟨hx, hb, hml, hown, hts⟩ (ct_m_say l dC dI H.size m0 mt mb mf ml mp mo n wk xm xg dO Gk Ok hgk (az_ch (v / 2 ^ (4 * i) % 16)) (by omega)) (cwV 1 hts gXM_sayPart_XM_say rfl rfl rfl (by decide +kernel) ⟨Nat.le_of_ble_eq_true rfl, Nat.le_of_ble_eq_true rfl⟩) hP hD hK hS hA [0, 1] [] [0] rfl rfl (by decide) (by decide) (by decide) rfl 0 rfl rfl rfl hl.1 rfl (Nat.le_of_ble_eq_true rfl) dXM_sayPart_50 ⟨(Nat.zero_le _), (Nat.zero_le _)⟩ (fun u H locs hg1 hP hD hS => ?_)
              obtain ⟨u1, w1⟩ := u
              try dsimp only at hg1
              have hP : va_P (dC, dI) azCl [(m0, .inr (2, [.ref mt, .int (nI n), .ref mb, .ref mf, .ref ml, .ref mp, .int xm, .int xg, .ref mo, .int (nI w1)])), (mo, .inl (dO, 64, .inl u1))] H := hP
              have hD : va_D A [(m0, .inr (2, [.ref mt, .int (nI n), .ref mb, .ref mf, .ref ml, .ref mp, .int xm, .int xg, .ref mo, .int (nI w1)])), (mo, .inl (dO, 64, .inl u1))] := hD
              have hq1 := hg1.1
              try simp only [List.length_append, List.length_cons, List.length_nil] at hq1
              refine lv_iinc (v := az_k i) (lv' := [(2, .int (az_k i)), (0, .ref m0), (1, .int (nI v))]) hx hb dXM_sayPart_53 hl (k := 2) rfl (az_k_s i (by omega)) (by decide) rfl (fun ls hl => ?_)
              refine lv_goto (tgt := 3) hx hb dXM_sayPart_56 (by decide) ?_
              exact ih i w1 u1 (Ok ++ [az_ch (v / 2 ^ (4 * i) % 16)]) (by omega) (hg1) (by rw [← hok]; show _ = Ok ++ ((if 0 < v / 2 ^ (4 * i) ∨ i = 0 then [az_ch (v / 2 ^ (4 * i) % 16)] else []) ++ az_hxl v i); first | rw [if_pos (show 0 < v / 2 ^ (4 * i) ∨ i = 0 by omega), List.append_assoc] | rw [if_neg (show ¬ (0 < v / 2 ^ (4 * i) ∨ i = 0) by omega), List.nil_append]) (by omega) (by omega) _ _ (hP.sub [0, 1] rfl) (hD.sub [0, 1] (by decide) rfl) hS ls (lv_sub hl [1, 2, 0] rfl)
            · refine lv_bipush (v := nI 48) hx hb dXM_sayPart_29 (by decide) ?_
              refine lv_iload_n hx hb dXM_sayPart_31 rfl (lv_at hl 1 rfl) ?_
              refine lv_iload_n hx hb dXM_sayPart_32 rfl (lv_at hl 2 rfl) ?_
              refine lv_ishr hx hb dXM_sayPart_33 ?_
              refine tp_i (nI (v / 2 ^ (4 * i))) (pk_shrN (by omega) _ _ (s_l _ (by omega))) ?_
              refine lv_bipush (v := nI 15) hx hb dXM_sayPart_34 (by decide) ?_
              refine lv_iand hx hb dXM_sayPart_36 ?_
              refine tp_i (nI ((v / 2 ^ (4 * i)) % 16)) (pk_andN (by omega) 4 (by decide)) ?_
              refine lv_iadd hx hb dXM_sayPart_37 ?_
              refine tp_i (nI (48 + ((v / 2 ^ (4 * i)) % 16))) (nI_add _ _) ?_
              refine lv_goto (tgt := 50) hx hb dXM_sayPart_38 (by decide) ?_
              refine tp_i (nI (az_ch (v / 2 ^ (4 * i) % 16))) (congrArg nI (by first | exact (az_ch_a (d := v / 2 ^ (4 * i) % 16) (by omega)).symm | exact ((az_ch_b (d := v / 2 ^ (4 * i) % 16) (by omega)).trans (by omega)).symm)) ?_
              refine wc_Vv (As := [.int (nI (az_ch (v / 2 ^ (4 * i) % 16)))]) (rest := []) (wr := []) ⟨hx, hb, hml, hown, hts⟩ (ct_m_say l dC dI H.size m0 mt mb mf ml mp mo n wk xm xg dO Gk Ok hgk (az_ch (v / 2 ^ (4 * i) % 16)) (by omega)) (cwV 1 hts gXM_sayPart_XM_say rfl rfl rfl (by decide +kernel) ⟨Nat.le_of_ble_eq_true rfl, Nat.le_of_ble_eq_true rfl⟩) hP hD hK hS hA [0, 1] [] [0] rfl rfl (by decide) (by decide) (by decide) rfl 0 rfl rfl rfl hl.1 rfl (Nat.le_of_ble_eq_true rfl) dXM_sayPart_50 ⟨(Nat.zero_le _), (Nat.zero_le _)⟩ (fun u H locs hg1 hP hD hS => ?_)
              obtain ⟨u1, w1⟩ := u
              try dsimp only at hg1
              have hP : va_P (dC, dI) azCl [(m0, .inr (2, [.ref mt, .int (nI n), .ref mb, .ref mf, .ref ml, .ref mp, .int xm, .int xg, .ref mo, .int (nI w1)])), (mo, .inl (dO, 64, .inl u1))] H := hP
              have hD : va_D A [(m0, .inr (2, [.ref mt, .int (nI n), .ref mb, .ref mf, .ref ml, .ref mp, .int xm, .int xg, .ref mo, .int (nI w1)])), (mo, .inl (dO, 64, .inl u1))] := hD
              have hq1 := hg1.1
              try simp only [List.length_append, List.length_cons, List.length_nil] at hq1
              refine lv_iinc (v := az_k i) (lv' := [(2, .int (az_k i)), (0, .ref m0), (1, .int (nI v))]) hx hb dXM_sayPart_53 hl (k := 2) rfl (az_k_s i (by omega)) (by decide) rfl (fun ls hl => ?_)
              refine lv_goto (tgt := 3) hx hb dXM_sayPart_56 (by decide) ?_
              exact ih i w1 u1 (Ok ++ [az_ch (v / 2 ^ (4 * i) % 16)]) (by omega) (hg1) (by rw [← hok]; show _ = Ok ++ ((if 0 < v / 2 ^ (4 * i) ∨ i = 0 then [az_ch (v / 2 ^ (4 * i) % 16)] else []) ++ az_hxl v i); first | rw [if_pos (show 0 < v / 2 ^ (4 * i) ∨ i = 0 by omega), List.append_assoc] | rw [if_neg (show ¬ (0 < v / 2 ^ (4 * i) ∨ i = 0) by omega), List.nil_append]) (by omega) (by omega) _ _ (hP.sub [0, 1] rfl) (hD.sub [0, 1] (by decide) rfl) hS ls (lv_sub hl [1, 2, 0] rfl)
  exact lp3 _ 4 w G O (Nat.le_refl _) (hg) (by rw [az_hxl_4]) (hw2) (Nat.lt_succ_self _) _ _ (hP.sub [0, 1] rfl) (hD.sub [0, 1] (by decide) rfl) hS ls (lv_sub hl [1, 2, 0] rfl)
set_option maxRecDepth 100000 in
set_option maxHeartbeats 4000000 in
/-- part(k) -/
theorem ct_m_part (l : Launch) (dC : Nat → ClassId) (dI : Nat → Nat → Nat) (m0 mt mb mf ml mp mo n w : Nat) (xm xg : Int32) (dB : ClassId) (B : Nat → Int32) (V k : Nat) (hk : k < 8) (hB : az_by B 0 V) : Met l yXM_part wsXM_part ({ frames := 0, cells := 0, slots := 0, locals := 0 }) (rd_P (dC, dI) azCl [(m0, .inr (2, [.ref mt, .int (nI n), .ref mb, .ref mf, .ref ml, .ref mp, .int xm, .int xg, .ref mo, .int (nI w)])), (mb, .inl (dB, 32, .inl B))] [(dB, .int)] [.ref m0, .int (nI k)]) (vp_Si (fun r => r = nI (az_pt V k))) 0 0 (fun _ => False) := by
  refine Met.ofW (cc := cXM_part) (maxL := 2) (ret := (some .int)) (by decide) rfl ?_
  intro p e s m args below meth c s₁ Bd hml hv
  obtain ⟨rfl, hP, hK⟩ := hv
  have hx := Bd.exec
  have hb := Bd.bytes
  have hr := Bd.returns
  have hts := atoms_spec (ws := wsXM_part) Bd.pre
  have hown : s.vm.findClass RXM = some m.cls := findClass_of_methodNamed Bd.named
  have hlocks := Bd.notSynchronized
  have hiXM : ∀ w ∈ wsXM0, w ∈ wsXM_part := by decide +kernel
  have hf13 := hts (.fieldLink RXM 13 "AddressTextsModel" "bytes" "[I") (by decide +kernel)
  have hl := lv_entry ([.ref m0, .int (nI k)]) (n := 2) (Nat.le_of_ble_eq_true rfl)
  rw [lg_entry_eq]
  generalize (lg_sl ([.ref m0, .int (nI k)]) ++ List.replicate (2 - (lg_sl ([.ref m0, .int (nI k)])).length) Slot.unset).toArray = ls at hl ⊢
  have hl : lv_has ls 2 [(0, .ref m0), (1, .int (nI k))] := hl
  have hb1 := az_byte_lt V (2 * k)
  have hb2 := az_byte_lt V (2 * k + 1)
  have hbp := az_bpt (V := V) hk
  refine lv_aload_n hx hb dXM_part_0 rfl (lv_at hl 0 rfl) ?_
  refine va_get (D := (dC, dI)) (ci := 2) (v := .ref mb) (C := RXM) (T := TXM) (N := 10) hx hb hts hiXM hown hK hP 0 rfl rfl 2 (by decide) hf13 (fun _ h9 => h9) rfl dXM_part_1 ?_
  refine lv_iconst (v := nI 2) hx hb dXM_part_4 (by decide) ?_
  refine lv_iload_n hx hb dXM_part_5 rfl (lv_at hl 1 rfl) ?_
  refine lv_imul hx hb dXM_part_6 ?_
  refine tp_i (nI (2 * k)) (pk_mul _ _) ?_
  refine ld_i hx hb hK hP 1 0 rfl rfl (by omega) (by omega) dXM_part_7 ?_
  refine tp_i (nI (az_byte V (2 * k))) (by have h := hB (2 * k) (by omega); rw [Nat.zero_add] at h; exact h) ?_
  refine lv_bipush (v := nI 8) hx hb dXM_part_8 (by decide) ?_
  refine lv_ishl hx hb dXM_part_10 ?_
  refine tp_i (nI ((az_byte V (2 * k)) * 256)) (pk_shlN _ 8 (by decide) (by omega)) ?_
  refine lv_aload_n hx hb dXM_part_11 rfl (lv_at hl 0 rfl) ?_
  refine va_get (D := (dC, dI)) (ci := 2) (v := .ref mb) (C := RXM) (T := TXM) (N := 10) hx hb hts hiXM hown hK hP 0 rfl rfl 2 (by decide) hf13 (fun _ h9 => h9) rfl dXM_part_12 ?_
  refine lv_iconst (v := nI 2) hx hb dXM_part_15 (by decide) ?_
  refine lv_iload_n hx hb dXM_part_16 rfl (lv_at hl 1 rfl) ?_
  refine lv_imul hx hb dXM_part_17 ?_
  refine tp_i (nI (2 * k)) (pk_mul _ _) ?_
  refine lv_iconst (v := nI 1) hx hb dXM_part_18 (by decide) ?_
  refine lv_iadd hx hb dXM_part_19 ?_
  refine tp_i (nI ((2 * k) + 1)) (nI_add _ _) ?_
  refine ld_i hx hb hK hP 1 0 rfl rfl (by omega) (by omega) dXM_part_20 ?_
  refine tp_i (nI (az_byte V (2 * k + 1))) (by have h := hB (2 * k + 1) (by omega); rw [Nat.zero_add] at h; exact h) ?_
  refine lv_ior hx hb dXM_part_21 ?_
  refine tp_i (nI (az_pt V k)) ((az_or256 hb2).trans (congrArg nI (by omega))) ?_
  exact rt_i hx hb hr (rfl) dXM_part_22 hlocks
set_option maxRecDepth 100000 in
set_option maxHeartbeats 4000000 in
/-- noughts(from) -/
theorem ct_m_noughts (l : Launch) (dC : Nat → ClassId) (dI : Nat → Nat → Nat) (m0 mt mb mf ml mp mo n w : Nat) (xm xg : Int32) (dB : ClassId) (B : Nat → Int32) (V st : Nat) (hst : st ≤ 8) (hB : az_by B 0 V) : Met l yXM_noughts wsXM_noughts ({ frames := 1, cells := 0, slots := 0, locals := 21 }) (rd_P (dC, dI) azCl [(m0, .inr (2, [.ref mt, .int (nI n), .ref mb, .ref mf, .ref ml, .ref mp, .int xm, .int xg, .ref mo, .int (nI w)])), (mb, .inl (dB, 32, .inl B))] [(dB, .int)] [.ref m0, .int (nI st)]) (vp_Si (fun r => r = nI (az_zr V st))) 0 0 (fun _ => False) := by
  refine Met.ofW (cc := cXM_noughts) (maxL := 3) (ret := (some .int)) (by decide) rfl ?_
  intro p e s m args below meth c s₁ Bd hml hv
  obtain ⟨rfl, hP, hK⟩ := hv
  have hx := Bd.exec
  have hb := Bd.bytes
  have hr := Bd.returns
  have hts := atoms_spec (ws := wsXM_noughts) Bd.pre
  have hown : s.vm.findClass RXM = some m.cls := findClass_of_methodNamed Bd.named
  have hlocks := Bd.notSynchronized
  have hl := lv_entry ([.ref m0, .int (nI st)]) (n := 3) (Nat.le_of_ble_eq_true rfl)
  rw [lg_entry_eq]
  generalize (lg_sl ([.ref m0, .int (nI st)]) ++ List.replicate (3 - (lg_sl ([.ref m0, .int (nI st)])).length) Slot.unset).toArray = ls at hl ⊢
  have hl : lv_has ls 3 [(0, .ref m0), (1, .int (nI st))] := hl
  refine lv_iload_n hx hb dXM_noughts_0 rfl (lv_at hl 1 rfl) ?_
  refine lv_istore_n (lv' := [(2, .int (nI st)), (0, .ref m0), (1, .int (nI st))]) hx hb dXM_noughts_1 rfl hl (by decide) rfl (fun ls hl => ?_)
  have lp2 : ∀ (N : Nat) (k : Nat), (st ≤ k) → (k ≤ 8) → (k - st + az_zr V k = az_zr V st) → (8 - k) < N → ∀ (ls : Array Slot), lv_has ls 3 [(0, .ref m0), (1, .int (nI st)), (2, .int (nI k))] → W p l e (headSpec wsXM_noughts ({ frames := 1, cells := 0, slots := 0, locals := 21 })).room s m ([.ref m0, .int (nI st)] : List Value).toArray below meth c s.heap [] 0 0 (MQ below (vp_Si (fun r => r = nI (az_zr V st))) ([.ref m0, .int (nI st)] : List Value).toArray s 0 0 (fun _ => False)) (F0 m 2 ls []) := by
    intro N
    induction N with
    | zero => intro k hk hk2 hz hN; exact absurd hN (Nat.not_lt_zero _)
    | succ N ih =>
      intro k hk hk2 hz hN ls hl
      refine lv_iload_n hx hb dXM_noughts_2 rfl (lv_at hl 2 rfl) ?_
      refine lv_bipush (v := nI 8) hx hb dXM_noughts_3 (by decide) ?_
      refine bn_ge (tgt := 22) hx hb dXM_noughts_5 (by decide) (by omega) (by omega) (fun c5 => ?_) (fun c5 => ?_)
      · refine lv_iload_n hx hb dXM_noughts_22 rfl (lv_at hl 2 rfl) ?_
        refine lv_iload_n hx hb dXM_noughts_23 rfl (lv_at hl 1 rfl) ?_
        refine lv_isub hx hb dXM_noughts_24 ?_
        refine tp_i (nI (k - st)) (pk_sub (by omega)) ?_
        exact rt_i hx hb hr (congrArg nI (by have h0 : az_zr V k = 0 := (by first | exact az_zr_end c5 | exact az_zr_miss c5 c13); omega)) dXM_noughts_25 hlocks
      · have hpt := az_pt_lt V k
        refine lv_aload_n hx hb dXM_noughts_8 rfl (lv_at hl 0 rfl) ?_
        refine lv_iload_n hx hb dXM_noughts_9 rfl (lv_at hl 2 rfl) ?_
        refine rc_Vi (As := [.int (nI k)]) (rest := []) ⟨hx, hb, hml, hown, hts⟩ (ct_m_part l dC dI m0 mt mb mf ml mp mo n w xm xg dB B V k c5 hB) (cwV 1 hts gXM_noughts_XM_part rfl rfl rfl (by decide +kernel) ⟨Nat.le_of_ble_eq_true rfl, Nat.le_of_ble_eq_true rfl⟩) (hP.sub [0, 1] rfl) (hK.sub [0] rfl) 0 rfl rfl rfl hl.1 rfl (Nat.le_of_ble_eq_true rfl) dXM_noughts_10 ⟨(Nat.zero_le _), (Nat.zero_le _)⟩ ?_
        refine bz_ne (tgt := 22) hx hb dXM_noughts_13 (by decide) (by omega) (fun c13 => ?_) (fun c13 => ?_)
        · refine lv_iload_n hx hb dXM_noughts_22 rfl (lv_at hl 2 rfl) ?_
          refine lv_iload_n hx hb dXM_noughts_23 rfl (lv_at hl 1 rfl) ?_
          refine lv_isub hx hb dXM_noughts_24 ?_
          refine tp_i (nI (k - st)) (pk_sub (by omega)) ?_
          exact rt_i hx hb hr (congrArg nI (by have h0 : az_zr V k = 0 := (by first | exact az_zr_end c5 | exact az_zr_miss c5 c13); omega)) dXM_noughts_25 hlocks
        · refine lv_iinc (v := nI (k + 1)) (lv' := [(2, .int (nI (k + 1))), (0, .ref m0), (1, .int (nI st))]) hx hb dXM_noughts_16 hl (k := 2) rfl (nI_add _ 1) (by decide) rfl (fun ls hl => ?_)
          refine lv_goto (tgt := 2) hx hb dXM_noughts_19 (by decide) ?_
          exact ih (k + 1) (by omega) (by omega) (by rw [← hz, az_zr_hit c5 c13]; omega) (by omega) ls (lv_sub hl [1, 2, 0] rfl)
  exact lp2 _ st (Nat.le_refl _) (hst) (by rw [Nat.sub_self, Nat.zero_add]) (Nat.lt_succ_self _) ls (lv_sub hl [1, 2, 0] rfl)
set_option maxRecDepth 100000 in
set_option maxHeartbeats 4000000 in
/-- writtenAt(x) -/
theorem ct_m_writtenAt (l : Launch) (dC : Nat → ClassId) (dI : Nat → Nat → Nat) (m0 mt mb mf ml mp mo n w : Nat) (xm xg : Int32) (dO : ClassId) (G : Nat → Int32) (O : List Nat) (hg : az_mo G O w) (hw2 : w ≤ 64) (x : Int32) : Met l yXM_writtenAt wsXM_writtenAt ({ frames := 0, cells := 0, slots := 0, locals := 0 }) (rd_P (dC, dI) azCl [(m0, .inr (2, [.ref mt, .int (nI n), .ref mb, .ref mf, .ref ml, .ref mp, .int xm, .int xg, .ref mo, .int (nI w)])), (mo, .inl (dO, 64, .inl G))] [(dO, .int)] [.ref m0, .int x]) (vp_Si (fun r => r = az_wat O x)) 0 0 (fun _ => False) := by
  refine Met.ofW (cc := cXM_writtenAt) (maxL := 2) (ret := (some .int)) (by decide) rfl ?_
  intro p e s m args below meth c s₁ Bd hml hv
  obtain ⟨rfl, hP, hK⟩ := hv
  have hx := Bd.exec
  have hb := Bd.bytes
  have hr := Bd.returns
  have hts := atoms_spec (ws := wsXM_writtenAt) Bd.pre
  have hown : s.vm.findClass RXM = some m.cls := findClass_of_methodNamed Bd.named
  have hlocks := Bd.notSynchronized
  have hiXM : ∀ w ∈ wsXM0, w ∈ wsXM_writtenAt := by decide +kernel
  have hf65 := hts (.fieldLink RXM 65 "AddressTextsModel" "written" "I") (by decide +kernel)
  have hf25 := hts (.fieldLink RXM 25 "AddressTextsModel" "out" "[I") (by decide +kernel)
  have hl := lv_entry ([.ref m0, .int x]) (n := 2) (Nat.le_of_ble_eq_true rfl)
  rw [lg_entry_eq]
  generalize (lg_sl ([.ref m0, .int x]) ++ List.replicate (2 - (lg_sl ([.ref m0, .int x])).length) Slot.unset).toArray = ls at hl ⊢
  have hl : lv_has ls 2 [(0, .ref m0), (1, .int x)] := hl
  obtain ⟨hO, hOj⟩ := hg
  refine lv_iload_n hx hb dXM_writtenAt_0 rfl (lv_at hl 1 rfl) ?_
  refine lv_if_lt (tgt := 12) hx hb dXM_writtenAt_1 (by decide) (fun c1 => ?_) (fun c1 => ?_)
  · refine lv_iconst (v := -1) hx hb dXM_writtenAt_12 (by decide) ?_
    refine lv_goto (tgt := 22) hx hb dXM_writtenAt_13 (by decide) ?_
    exact rt_i hx hb hr (by unfold az_wat; first | rw [if_pos c1] | rw [if_neg c1, hO, if_pos (Int32.not_lt.mp c9)]) dXM_writtenAt_22 hlocks
  · refine lv_iload_n hx hb dXM_writtenAt_4 rfl (lv_at hl 1 rfl) ?_
    refine lv_aload_n hx hb dXM_writtenAt_5 rfl (lv_at hl 0 rfl) ?_
    refine va_get (D := (dC, dI)) (ci := 2) (v := .int (nI w)) (C := RXM) (T := TXM) (N := 10) hx hb hts hiXM hown hK hP 0 rfl rfl 9 (by decide) hf65 (fun _ h9 => h9) rfl dXM_writtenAt_6 ?_
    refine lv_icmp_lt (tgt := 16) hx hb dXM_writtenAt_9 (by decide) (fun c9 => ?_) (fun c9 => ?_)
    · obtain ⟨j, hj31, rfl⟩ := nI_of c1
      have hjw : j < w := (nI_ltI hj31 (by omega)).mp c9
      refine lv_aload_n hx hb dXM_writtenAt_16 rfl (lv_at hl 0 rfl) ?_
      refine va_get (D := (dC, dI)) (ci := 2) (v := .ref mo) (C := RXM) (T := TXM) (N := 10) hx hb hts hiXM hown hK hP 0 rfl rfl 8 (by decide) hf25 (fun _ h9 => h9) rfl dXM_writtenAt_17 ?_
      refine lv_iload_n hx hb dXM_writtenAt_20 rfl (lv_at hl 1 rfl) ?_
      refine ld_i hx hb hK hP 1 0 rfl rfl (by omega) (by omega) dXM_writtenAt_21 ?_
      refine tp_i (nI (O.getD j 0)) (hOj j hjw) ?_
      exact rt_i hx hb hr (by unfold az_wat; rw [if_neg c1, hO, if_neg (fun q => by have := (nI_leI (by omega) hj31).mp q; omega), nI_clamp hj31]) dXM_writtenAt_22 hlocks
    · refine lv_iconst (v := -1) hx hb dXM_writtenAt_12 (by decide) ?_
      refine lv_goto (tgt := 22) hx hb dXM_writtenAt_13 (by decide) ?_
      exact rt_i hx hb hr (by unfold az_wat; first | rw [if_pos c1] | rw [if_neg c1, hO, if_pos (Int32.not_lt.mp c9)]) dXM_writtenAt_22 hlocks
set_option maxRecDepth 100000 in
set_option maxHeartbeats 4000000 in
/-- turn() -/
theorem ct_m_turn (l : Launch) (dC : Nat → ClassId) (dI : Nat → Nat → Nat) (sz : Nat) (m0 mt mb mf ml mp mo n w : Nat) (xm xg : Int32) (dB : ClassId) (B : Nat → Int32) (dF : ClassId) (Fm : Nat → Int32) (dL : ClassId) (Ln : Nat → Int32) : Met l yXM_turn wsXM_turn ({ frames := 0, cells := 0, slots := 0, locals := 0 }) (wr_P (dC, dI) azCl [(m0, .inr (2, [.ref mt, .int (nI n), .ref mb, .ref mf, .ref ml, .ref mp, .int xm, .int xg, .ref mo, .int (nI w)])), (mb, .inl (dB, 32, .inl B)), (mf, .inl (dF, 2, .inl Fm)), (ml, .inl (dL, 2, .inl Ln))] [(dB, .int), (dF, .int), (dL, .int)] sz [.ref m0]) (va_Qv (fun u => (∀ j, j < 16 → u.1 j = B (16 + j)) ∧ (∀ j, j < 16 → u.1 (16 + j) = B j) ∧ u.2.1 0 = Fm 1 ∧ u.2.1 1 = Fm 0 ∧ u.2.2 0 = Ln 1 ∧ u.2.2 1 = Ln 0) (wr_B (dC, dI) azCl [(dB, .int), (dF, .int), (dL, .int)] (va_A [(m0, .inr (2, [.ref mt, .int (nI n), .ref mb, .ref mf, .ref ml, .ref mp, .int xm, .int xg, .ref mo, .int (nI w)])), (mb, .inl (dB, 32, .inl B)), (mf, .inl (dF, 2, .inl Fm)), (ml, .inl (dL, 2, .inl Ln))] sz) (fun u : (Nat → Int32) × (Nat → Int32) × (Nat → Int32) => [(m0, .inr (2, [.ref mt, .int (nI n), .ref mb, .ref mf, .ref ml, .ref mp, .int xm, .int xg, .ref mo, .int (nI w)])), (mb, .inl (dB, 32, .inl u.1)), (mf, .inl (dF, 2, .inl u.2.1)), (ml, .inl (dL, 2, .inl u.2.2))])) (va_A [(m0, .inr (2, [.ref mt, .int (nI n), .ref mb, .ref mf, .ref ml, .ref mp, .int xm, .int xg, .ref mo, .int (nI w)])), (mb, .inl (dB, 32, .inl B)), (mf, .inl (dF, 2, .inl Fm)), (ml, .inl (dL, 2, .inl Ln))] sz)) 0 0 (va_A [(m0, .inr (2, [.ref mt, .int (nI n), .ref mb, .ref mf, .ref ml, .ref mp, .int xm, .int xg, .ref mo, .int (nI w)])), (mb, .inl (dB, 32, .inl B)), (mf, .inl (dF, 2, .inl Fm)), (ml, .inl (dL, 2, .inl Ln))] sz) := by
  refine Met.ofW (cc := cXM_turn) (maxL := 3) (ret := none) (by decide) rfl ?_
  intro p e s m args below meth c s₁ Bd hml hv
  obtain ⟨rfl, hsz, hP, hK, hD0⟩ := hv
  have hx := Bd.exec
  have hb := Bd.bytes
  have hr := Bd.returns
  have hts := atoms_spec (ws := wsXM_turn) Bd.pre
  have hown : s.vm.findClass RXM = some m.cls := findClass_of_methodNamed Bd.named
  have hlocks := Bd.notSynchronized
  subst hsz
  have hD := hD0.self (sz := s.heap.size)
  generalize hAe : va_A [(m0, .inr (2, [.ref mt, .int (nI n), .ref mb, .ref mf, .ref ml, .ref mp, .int xm, .int xg, .ref mo, .int (nI w)])), (mb, .inl (dB, 32, .inl B)), (mf, .inl (dF, 2, .inl Fm)), (ml, .inl (dL, 2, .inl Ln))] s.heap.size = A at hD ⊢
  have hA : ∀ q : Nat, s.heap.size ≤ q → A q := fun q h => by rw [← hAe]; exact Or.inr h
  have hS : va_S A s.heap s.heap [] := va_S.rf
  have hP : va_P (dC, dI) azCl [(m0, .inr (2, [.ref mt, .int (nI n), .ref mb, .ref mf, .ref ml, .ref mp, .int xm, .int xg, .ref mo, .int (nI w)])), (mb, .inl (dB, 32, .inl B)), (mf, .inl (dF, 2, .inl Fm)), (ml, .inl (dL, 2, .inl Ln))] s.heap := hP
  have hiXM : ∀ w ∈ wsXM0, w ∈ wsXM_turn := by decide +kernel
  have hf16 := hts (.fieldLink RXM 16 "AddressTextsModel" "family" "[I") (by decide +kernel)
  have hf19 := hts (.fieldLink RXM 19 "AddressTextsModel" "length" "[I") (by decide +kernel)
  have hf13 := hts (.fieldLink RXM 13 "AddressTextsModel" "bytes" "[I") (by decide +kernel)
  have hl := lv_entry ([.ref m0]) (n := 3) (Nat.le_of_ble_eq_true rfl)
  rw [lg_entry_eq]
  generalize (lg_sl ([.ref m0]) ++ List.replicate (3 - (lg_sl ([.ref m0])).length) Slot.unset).toArray = ls at hl ⊢
  have hl : lv_has ls 3 [(0, .ref m0)] := hl
  refine lv_iconst (v := nI 0) hx hb dXM_turn_0 (by decide) ?_
  refine lv_istore_n (lv' := [(1, .int (nI 0)), (0, .ref m0)]) hx hb dXM_turn_1 rfl hl (by decide) rfl (fun ls hl => ?_)
  have lp2 : ∀ (N : Nat) (k : Nat) (E : Nat → Int32), (k ≤ 16) → (∀ j, j < 16 → (j < k → E j = B (16 + j) ∧ E (16 + j) = B j) ∧ (k ≤ j → E j = B j ∧ E (16 + j) = B (16 + j))) → (16 - k) < N → ∀ (H : Heap) (locs : List Loc), va_P (dC, dI) azCl [(m0, .inr (2, [.ref mt, .int (nI n), .ref mb, .ref mf, .ref ml, .ref mp, .int xm, .int xg, .ref mo, .int (nI w)])), (mb, .inl (dB, 32, .inl E)), (mf, .inl (dF, 2, .inl Fm)), (ml, .inl (dL, 2, .inl Ln))] H → va_D A [(m0, .inr (2, [.ref mt, .int (nI n), .ref mb, .ref mf, .ref ml, .ref mp, .int xm, .int xg, .ref mo, .int (nI w)])), (mb, .inl (dB, 32, .inl E)), (mf, .inl (dF, 2, .inl Fm)), (ml, .inl (dL, 2, .inl Ln))] → va_S A s.heap H locs → ∀ (ls : Array Slot), lv_has ls 3 [(0, .ref m0), (1, .int (nI k))] → W p l e (headSpec wsXM_turn ({ frames := 0, cells := 0, slots := 0, locals := 0 })).room s m ([.ref m0] : List Value).toArray below meth c H locs 0 0 (MQ below (va_Qv (fun u => (∀ j, j < 16 → u.1 j = B (16 + j)) ∧ (∀ j, j < 16 → u.1 (16 + j) = B j) ∧ u.2.1 0 = Fm 1 ∧ u.2.1 1 = Fm 0 ∧ u.2.2 0 = Ln 1 ∧ u.2.2 1 = Ln 0) (wr_B (dC, dI) azCl [(dB, .int), (dF, .int), (dL, .int)] A (fun u : (Nat → Int32) × (Nat → Int32) × (Nat → Int32) => [(m0, .inr (2, [.ref mt, .int (nI n), .ref mb, .ref mf, .ref ml, .ref mp, .int xm, .int xg, .ref mo, .int (nI w)])), (mb, .inl (dB, 32, .inl u.1)), (mf, .inl (dF, 2, .inl u.2.1)), (ml, .inl (dL, 2, .inl u.2.2))])) A) ([.ref m0] : List Value).toArray s 0 0 A) (F0 m 2 ls []) := by
    intro N
    induction N with
    | zero => intro k E hk hE hN; exact absurd hN (Nat.not_lt_zero _)
    | succ N ih =>
      intro k E hk hE hN H locs hP hD hS ls hl
      refine lv_iload_n hx hb dXM_turn_2 rfl (lv_at hl 1 rfl) ?_
      refine lv_bipush (v := nI 16) hx hb dXM_turn_3 (by decide) ?_
      refine bn_ge (tgt := 46) hx hb dXM_turn_5 (by decide) (by omega) (by omega) (fun c5 => ?_) (fun c5 => ?_)
      · refine lv_aload_n hx hb dXM_turn_46 rfl (lv_at hl 0 rfl) ?_
        refine va_get (D := (dC, dI)) (ci := 2) (v := .ref mf) (C := RXM) (T := TXM) (N := 10) hx hb hts hiXM hown hK hP 0 rfl rfl 3 (by decide) hf16 (fun _ h9 => h9) rfl dXM_turn_47 ?_
        refine lv_iconst (v := nI 0) hx hb dXM_turn_50 (by decide) ?_
        refine ld_i hx hb hK hP 2 1 rfl rfl (by omega) (by omega) dXM_turn_51 ?_
        refine lv_istore_n (lv' := [(1, .int (Fm 0)), (0, .ref m0)]) hx hb dXM_turn_52 rfl hl (by decide) rfl (fun ls hl => ?_)
        refine lv_aload_n hx hb dXM_turn_53 rfl (lv_at hl 1 rfl) ?_
        refine va_get (D := (dC, dI)) (ci := 2) (v := .ref mf) (C := RXM) (T := TXM) (N := 10) hx hb hts hiXM hown hK hP 0 rfl rfl 3 (by decide) hf16 (fun _ h9 => h9) rfl dXM_turn_54 ?_
        refine lv_iconst (v := nI 0) hx hb dXM_turn_57 (by decide) ?_
        refine lv_aload_n hx hb dXM_turn_58 rfl (lv_at hl 1 rfl) ?_
        refine va_get (D := (dC, dI)) (ci := 2) (v := .ref mf) (C := RXM) (T := TXM) (N := 10) hx hb hts hiXM hown hK hP 0 rfl rfl 3 (by decide) hf16 (fun _ h9 => h9) rfl dXM_turn_59 ?_
        refine lv_iconst (v := nI 1) hx hb dXM_turn_62 (by decide) ?_
        refine ld_i hx hb hK hP 2 1 rfl rfl (by omega) (by omega) dXM_turn_63 ?_
        refine st_i hx hb hK hP hD hS 2 1 rfl rfl (by omega) (by omega) dXM_turn_64 (fun H locs hP hD hS => ?_)
        have hP : va_P (dC, dI) azCl [(m0, .inr (2, [.ref mt, .int (nI n), .ref mb, .ref mf, .ref ml, .ref mp, .int xm, .int xg, .ref mo, .int (nI w)])), (mb, .inl (dB, 32, .inl E)), (mf, .inl (dF, 2, .inl (upd Fm 0 (Fm 1)))), (ml, .inl (dL, 2, .inl Ln))] H := hP
        have hD : va_D A [(m0, .inr (2, [.ref mt, .int (nI n), .ref mb, .ref mf, .ref ml, .ref mp, .int xm, .int xg, .ref mo, .int (nI w)])), (mb, .inl (dB, 32, .inl E)), (mf, .inl (dF, 2, .inl (upd Fm 0 (Fm 1)))), (ml, .inl (dL, 2, .inl Ln))] := hD
        refine lv_aload_n hx hb dXM_turn_65 rfl (lv_at hl 1 rfl) ?_
        refine va_get (D := (dC, dI)) (ci := 2) (v := .ref mf) (C := RXM) (T := TXM) (N := 10) hx hb hts hiXM hown hK hP 0 rfl rfl 3 (by decide) hf16 (fun _ h9 => h9) rfl dXM_turn_66 ?_
        refine lv_iconst (v := nI 1) hx hb dXM_turn_69 (by decide) ?_
        refine lv_iload_n hx hb dXM_turn_70 rfl (lv_at hl 0 rfl) ?_
        refine st_i hx hb hK hP hD hS 2 1 rfl rfl (by omega) (by omega) dXM_turn_71 (fun H locs hP hD hS => ?_)
        have hP : va_P (dC, dI) azCl [(m0, .inr (2, [.ref mt, .int (nI n), .ref mb, .ref mf, .ref ml, .ref mp, .int xm, .int xg, .ref mo, .int (nI w)])), (mb, .inl (dB, 32, .inl E)), (mf, .inl (dF, 2, .inl (upd (upd Fm 0 (Fm 1)) 1 (Fm 0)))), (ml, .inl (dL, 2, .inl Ln))] H := hP
        have hD : va_D A [(m0, .inr (2, [.ref mt, .int (nI n), .ref mb, .ref mf, .ref ml, .ref mp, .int xm, .int xg, .ref mo, .int (nI w)])), (mb, .inl (dB, 32, .inl E)), (mf, .inl (dF, 2, .inl (upd (upd Fm 0 (Fm 1)) 1 (Fm 0)))), (ml, .inl (dL, 2, .inl Ln))] := hD
        refine lv_aload_n hx hb dXM_turn_72 rfl (lv_at hl 1 rfl) ?_
        refine va_get (D := (dC, dI)) (ci := 2) (v := .ref ml) (C := RXM) (T := TXM) (N := 10) hx hb hts hiXM hown hK hP 0 rfl rfl 4 (by decide) hf19 (fun _ h9 => h9) rfl dXM_turn_73 ?_
        refine lv_iconst (v := nI 0) hx hb dXM_turn_76 (by decide) ?_
        refine ld_i hx hb hK hP 3 2 rfl rfl (by omega) (by omega) dXM_turn_77 ?_
        refine lv_istore_n (lv' := [(2, .int (Ln 0)), (1, .int (Fm 0)), (0, .ref m0)]) hx hb dXM_turn_78 rfl hl (by decide) rfl (fun ls hl => ?_)
        refine lv_aload_n hx hb dXM_turn_79 rfl (lv_at hl 2 rfl) ?_
        refine va_get (D := (dC, dI)) (ci := 2) (v := .ref ml) (C := RXM) (T := TXM) (N := 10) hx hb hts hiXM hown hK hP 0 rfl rfl 4 (by decide) hf19 (fun _ h9 => h9) rfl dXM_turn_80 ?_
        refine lv_iconst (v := nI 0) hx hb dXM_turn_83 (by decide) ?_
        refine lv_aload_n hx hb dXM_turn_84 rfl (lv_at hl 2 rfl) ?_
        refine va_get (D := (dC, dI)) (ci := 2) (v := .ref ml) (C := RXM) (T := TXM) (N := 10) hx hb hts hiXM hown hK hP 0 rfl rfl 4 (by decide) hf19 (fun _ h9 => h9) rfl dXM_turn_85 ?_
        refine lv_iconst (v := nI 1) hx hb dXM_turn_88 (by decide) ?_
        refine ld_i hx hb hK hP 3 2 rfl rfl (by omega) (by omega) dXM_turn_89 ?_
        refine st_i hx hb hK hP hD hS 3 2 rfl rfl (by omega) (by omega) dXM_turn_90 (fun H locs hP hD hS => ?_)
        have hP : va_P (dC, dI) azCl [(m0, .inr (2, [.ref mt, .int (nI n), .ref mb, .ref mf, .ref ml, .ref mp, .int xm, .int xg, .ref mo, .int (nI w)])), (mb, .inl (dB, 32, .inl E)), (mf, .inl (dF, 2, .inl (upd (upd Fm 0 (Fm 1)) 1 (Fm 0)))), (ml, .inl (dL, 2, .inl (upd Ln 0 (Ln 1))))] H := hP
        have hD : va_D A [(m0, .inr (2, [.ref mt, .int (nI n), .ref mb, .ref mf, .ref ml, .ref mp, .int xm, .int xg, .ref mo, .int (nI w)])), (mb, .inl (dB, 32, .inl E)), (mf, .inl (dF, 2, .inl (upd (upd Fm 0 (Fm 1)) 1 (Fm 0)))), (ml, .inl (dL, 2, .inl (upd Ln 0 (Ln 1))))] := hD
        refine lv_aload_n hx hb dXM_turn_91 rfl (lv_at hl 2 rfl) ?_
        refine va_get (D := (dC, dI)) (ci := 2) (v := .ref ml) (C := RXM) (T := TXM) (N := 10) hx hb hts hiXM hown hK hP 0 rfl rfl 4 (by decide) hf19 (fun _ h9 => h9) rfl dXM_turn_92 ?_
        refine lv_iconst (v := nI 1) hx hb dXM_turn_95 (by decide) ?_
        refine lv_iload_n hx hb dXM_turn_96 rfl (lv_at hl 0 rfl) ?_
        refine st_i hx hb hK hP hD hS 3 2 rfl rfl (by omega) (by omega) dXM_turn_97 (fun H locs hP hD hS => ?_)
        have hP : va_P (dC, dI) azCl [(m0, .inr (2, [.ref mt, .int (nI n), .ref mb, .ref mf, .ref ml, .ref mp, .int xm, .int xg, .ref mo, .int (nI w)])), (mb, .inl (dB, 32, .inl E)), (mf, .inl (dF, 2, .inl (upd (upd Fm 0 (Fm 1)) 1 (Fm 0)))), (ml, .inl (dL, 2, .inl (upd (upd Ln 0 (Ln 1)) 1 (Ln 0))))] H := hP
        have hD : va_D A [(m0, .inr (2, [.ref mt, .int (nI n), .ref mb, .ref mf, .ref ml, .ref mp, .int xm, .int xg, .ref mo, .int (nI w)])), (mb, .inl (dB, 32, .inl E)), (mf, .inl (dF, 2, .inl (upd (upd Fm 0 (Fm 1)) 1 (Fm 0)))), (ml, .inl (dL, 2, .inl (upd (upd Ln 0 (Ln 1)) 1 (Ln 0))))] := hD
        exact wt_v hx hb hr ((E, upd (upd Fm 0 (Fm 1)) 1 (Fm 0), upd (upd Ln 0 (Ln 1)) 1 (Ln 0))) (⟨fun j hj => ((hE j hj).1 (by omega)).1, fun j hj => ((hE j hj).1 (by omega)).2, rfl, rfl, rfl, rfl⟩) (hP.sub [0, 1, 2, 3] rfl) hK (hD.sub [0, 1, 2, 3] (by decide) rfl) hS dXM_turn_98 hlocks
      · refine lv_aload_n hx hb dXM_turn_8 rfl (lv_at hl 0 rfl) ?_
        refine va_get (D := (dC, dI)) (ci := 2) (v := .ref mb) (C := RXM) (T := TXM) (N := 10) hx hb hts hiXM hown hK hP 0 rfl rfl 2 (by decide) hf13 (fun _ h9 => h9) rfl dXM_turn_9 ?_
        refine lv_iload_n hx hb dXM_turn_12 rfl (lv_at hl 1 rfl) ?_
        refine ld_i hx hb hK hP 1 0 rfl rfl (by omega) (by omega) dXM_turn_13 ?_
        refine lv_istore_n (lv' := [(2, .int (E k)), (0, .ref m0), (1, .int (nI k))]) hx hb dXM_turn_14 rfl hl (by decide) rfl (fun ls hl => ?_)
        refine lv_aload_n hx hb dXM_turn_15 rfl (lv_at hl 1 rfl) ?_
        refine va_get (D := (dC, dI)) (ci := 2) (v := .ref mb) (C := RXM) (T := TXM) (N := 10) hx hb hts hiXM hown hK hP 0 rfl rfl 2 (by decide) hf13 (fun _ h9 => h9) rfl dXM_turn_16 ?_
        refine lv_iload_n hx hb dXM_turn_19 rfl (lv_at hl 2 rfl) ?_
        refine lv_aload_n hx hb dXM_turn_20 rfl (lv_at hl 1 rfl) ?_
        refine va_get (D := (dC, dI)) (ci := 2) (v := .ref mb) (C := RXM) (T := TXM) (N := 10) hx hb hts hiXM hown hK hP 0 rfl rfl 2 (by decide) hf13 (fun _ h9 => h9) rfl dXM_turn_21 ?_
        refine lv_bipush (v := nI 16) hx hb dXM_turn_24 (by decide) ?_
        refine lv_iload_n hx hb dXM_turn_26 rfl (lv_at hl 2 rfl) ?_
        refine lv_iadd hx hb dXM_turn_27 ?_
        refine tp_i (nI (16 + k)) (nI_add _ _) ?_
        refine ld_i hx hb hK hP 1 0 rfl rfl (by omega) (by omega) dXM_turn_28 ?_
        refine st_i hx hb hK hP hD hS 1 0 rfl rfl (by omega) (by omega) dXM_turn_29 (fun H locs hP hD hS => ?_)
        have hP : va_P (dC, dI) azCl [(m0, .inr (2, [.ref mt, .int (nI n), .ref mb, .ref mf, .ref ml, .ref mp, .int xm, .int xg, .ref mo, .int (nI w)])), (mb, .inl (dB, 32, .inl (upd E k (E (16 + k))))), (mf, .inl (dF, 2, .inl Fm)), (ml, .inl (dL, 2, .inl Ln))] H := hP
        have hD : va_D A [(m0, .inr (2, [.ref mt, .int (nI n), .ref mb, .ref mf, .ref ml, .ref mp, .int xm, .int xg, .ref mo, .int (nI w)])), (mb, .inl (dB, 32, .inl (upd E k (E (16 + k))))), (mf, .inl (dF, 2, .inl Fm)), (ml, .inl (dL, 2, .inl Ln))] := hD
        refine lv_aload_n hx hb dXM_turn_30 rfl (lv_at hl 1 rfl) ?_
        refine va_get (D := (dC, dI)) (ci := 2) (v := .ref mb) (C := RXM) (T := TXM) (N := 10) hx hb hts hiXM hown hK hP 0 rfl rfl 2 (by decide) hf13 (fun _ h9 => h9) rfl dXM_turn_31 ?_
        refine lv_bipush (v := nI 16) hx hb dXM_turn_34 (by decide) ?_
        refine lv_iload_n hx hb dXM_turn_36 rfl (lv_at hl 2 rfl) ?_
        refine lv_iadd hx hb dXM_turn_37 ?_
        refine tp_i (nI (16 + k)) (nI_add _ _) ?_
        refine lv_iload_n hx hb dXM_turn_38 rfl (lv_at hl 0 rfl) ?_
        refine st_i hx hb hK hP hD hS 1 0 rfl rfl (by omega) (by omega) dXM_turn_39 (fun H locs hP hD hS => ?_)
        have hP : va_P (dC, dI) azCl [(m0, .inr (2, [.ref mt, .int (nI n), .ref mb, .ref mf, .ref ml, .ref mp, .int xm, .int xg, .ref mo, .int (nI w)])), (mb, .inl (dB, 32, .inl (upd (upd E k (E (16 + k))) (16 + k) (E k)))), (mf, .inl (dF, 2, .inl Fm)), (ml, .inl (dL, 2, .inl Ln))] H := hP
        have hD : va_D A [(m0, .inr (2, [.ref mt, .int (nI n), .ref mb, .ref mf, .ref ml, .ref mp, .int xm, .int xg, .ref mo, .int (nI w)])), (mb, .inl (dB, 32, .inl (upd (upd E k (E (16 + k))) (16 + k) (E k)))), (mf, .inl (dF, 2, .inl Fm)), (ml, .inl (dL, 2, .inl Ln))] := hD
        refine lv_iinc (v := nI (k + 1)) (lv' := [(1, .int (nI (k + 1))), (2, .int (E k)), (0, .ref m0)]) hx hb dXM_turn_40 hl (k := 2) rfl (nI_add _ 1) (by decide) rfl (fun ls hl => ?_)
        refine lv_goto (tgt := 2) hx hb dXM_turn_43 (by decide) ?_
        exact ih (k + 1) (upd (upd E k (E (16 + k))) (16 + k) (E k)) (by omega) (az_turn_s c5 hE) (by omega) _ _ (hP.sub [0, 1, 2, 3] rfl) (hD.sub [0, 1, 2, 3] (by decide) rfl) hS ls (lv_sub hl [2, 0] rfl)
  exact lp2 _ 0 B (Nat.zero_le _) (fun j hj => ⟨fun h => absurd h (Nat.not_lt_zero j), fun _ => ⟨rfl, rfl⟩⟩) (Nat.lt_succ_self _) _ _ (hP.sub [0, 1, 2, 3] rfl) (hD.sub [0, 1, 2, 3] (by decide) rfl) hS ls (lv_sub hl [1, 0] rfl)
set_option maxRecDepth 100000 in
set_option maxHeartbeats 4000000 in
/-- bits(x) -/
theorem ct_m_bits (l : Launch) (dC : Nat → ClassId) (dI : Nat → Nat → Nat) (m0 mt mb mf ml mp mo n w : Nat) (xm xg : Int32) (dB : ClassId) (B : Nat → Int32) (V1 : Nat) (hV : V1 < 340282366920938463463374607431768211456) (hB0 : az_by B 0 V1) (x : Int32) : Met l yXM_bits wsXM_bits ({ frames := 0, cells := 0, slots := 0, locals := 0 }) (rd_P (dC, dI) azCl [(m0, .inr (2, [.ref mt, .int (nI n), .ref mb, .ref mf, .ref ml, .ref mp, .int xm, .int xg, .ref mo, .int (nI w)])), (mb, .inl (dB, 32, .inl B))] [(dB, .int)] [.ref m0, .int x]) (vp_Sl (fun r => r = az_bits V1 x)) 0 0 (fun _ => False) := by
  refine Met.ofW (cc := cXM_bits) (maxL := 5) (ret := (some .long)) (by decide) rfl ?_
  intro p e s m args below meth c s₁ Bd hml hv
  obtain ⟨rfl, hP, hK⟩ := hv
  have hx := Bd.exec
  have hb := Bd.bytes
  have hr := Bd.returns
  have hts := atoms_spec (ws := wsXM_bits) Bd.pre
  have hown : s.vm.findClass RXM = some m.cls := findClass_of_methodNamed Bd.named
  have hlocks := Bd.notSynchronized
  have hiXM : ∀ w ∈ wsXM0, w ∈ wsXM_bits := by decide +kernel
  have hf13 := hts (.fieldLink RXM 13 "AddressTextsModel" "bytes" "[I") (by decide +kernel)
  have hl := lv_entry ([.ref m0, .int x]) (n := 5) (Nat.le_of_ble_eq_true rfl)
  rw [lg_entry_eq]
  generalize (lg_sl ([.ref m0, .int x]) ++ List.replicate (5 - (lg_sl ([.ref m0, .int x])).length) Slot.unset).toArray = ls at hl ⊢
  have hl : lv_has ls 5 [(0, .ref m0), (1, .int x)] := hl
  refine lv_iload_n hx hb dXM_bits_0 rfl (lv_at hl 1 rfl) ?_
  refine lv_if_eq (tgt := 11) hx hb dXM_bits_1 (by decide) (fun c1 => ?_) (fun c1 => ?_)
  · obtain ⟨hf, hh, hx2, hbt⟩ : ∃ hf : Nat, hf < 2 ∧ x = nI hf ∧ az_bits V1 x = lN (az_half V1 hf) := by first | exact ⟨0, by omega, c1, by unfold az_bits; rw [if_pos c1]; rfl⟩ | exact ⟨1, by omega, c6, by unfold az_bits; rw [if_neg c1, if_pos c6]; rfl⟩
    rw [hbt]
    rw [hx2] at hl
    have hXl := az_half_lt (V := V1) hf hV
    refine lv_lconst (v := lN 0) hx hb dXM_bits_11 (by decide) ?_
    refine lv_lstore_n (lv' := [(2, .long (lN 0)), (0, .ref m0), (1, .int (nI hf))]) hx hb dXM_bits_12 rfl hl (by decide) rfl (fun ls hl => ?_)
    refine lv_iconst (v := nI 0) hx hb dXM_bits_13 (by decide) ?_
    refine lv_istore (lv' := [(4, .int (nI 0)), (2, .long (lN 0)), (0, .ref m0), (1, .int (nI hf))]) hx hb dXM_bits_14 hl (by decide) rfl (fun ls hl => ?_)
    have lp16 : ∀ (N : Nat) (k : Nat) (vv : Nat), (k ≤ 8) → (vv = az_half V1 hf / 2 ^ (64 - 8 * k)) → (8 - k) < N → ∀ (ls : Array Slot), lv_has ls 5 [(0, .ref m0), (1, .int (nI hf)), (2, .long (lN vv)), (4, .int (nI k))] → W p l e (headSpec wsXM_bits ({ frames := 0, cells := 0, slots := 0, locals := 0 })).room s m ([.ref m0, .int x] : List Value).toArray below meth c s.heap [] 0 0 (MQ below (vp_Sl (fun r => r = lN (az_half V1 hf))) ([.ref m0, .int x] : List Value).toArray s 0 0 (fun _ => False)) (F0 m 16 ls []) := by
      intro N
      induction N with
      | zero => intro k vv hk hvv hN; exact absurd hN (Nat.not_lt_zero _)
      | succ N ih =>
        intro k vv hk hvv hN ls hl
        refine lv_iload hx hb dXM_bits_16 (lv_at hl 3 rfl) ?_
        refine lv_bipush (v := nI 8) hx hb dXM_bits_18 (by decide) ?_
        refine bn_ge (tgt := 48) hx hb dXM_bits_20 (by decide) (by omega) (by omega) (fun c20 => ?_) (fun c20 => ?_)
        · refine lv_lload_n hx hb dXM_bits_48 rfl (lv_at hl 2 rfl) ?_
          exact rt_l hx hb hr (by rw [hvv, show 64 - 8 * k = 0 by omega, Nat.pow_zero, Nat.div_one]) dXM_bits_49 hlocks
        · have hbb := az_byte_lt V1 (8 * hf + k)
          have hs : vv * 256 + az_byte V1 (8 * hf + k) = az_half V1 hf / 2 ^ (64 - 8 * (k + 1)) := by rw [az_half_b hh c20, hvv]; exact az_half_s c20
          have hsl : az_half V1 hf / 2 ^ (64 - 8 * (k + 1)) ≤ az_half V1 hf := Nat.div_le_self _ _
          refine lv_lload_n hx hb dXM_bits_23 rfl (lv_at hl 2 rfl) ?_
          refine lv_bipush (v := nI 8) hx hb dXM_bits_24 (by decide) ?_
          refine lv_lshl (v := lN (vv * 2 ^ 8)) hx hb dXM_bits_26 (wb_shl (k := 8) _ (by omega)) ?_
          refine lv_aload_n hx hb dXM_bits_27 rfl (lv_at hl 0 rfl) ?_
          refine va_get (D := (dC, dI)) (ci := 2) (v := .ref mb) (C := RXM) (T := TXM) (N := 10) hx hb hts hiXM hown hK hP 0 rfl rfl 2 (by decide) hf13 (fun _ h9 => h9) rfl dXM_bits_28 ?_
          refine lv_bipush (v := nI 8) hx hb dXM_bits_31 (by decide) ?_
          refine lv_iload_n hx hb dXM_bits_33 rfl (lv_at hl 1 rfl) ?_
          refine lv_imul hx hb dXM_bits_34 ?_
          refine tp_i (nI (8 * hf)) (pk_mul _ _) ?_
          refine lv_iload hx hb dXM_bits_35 (lv_at hl 3 rfl) ?_
          refine lv_iadd hx hb dXM_bits_37 ?_
          refine tp_i (nI ((8 * hf) + k)) (nI_add _ _) ?_
          refine ld_i hx hb hK hP 1 0 rfl rfl (by omega) (by omega) dXM_bits_38 ?_
          refine tp_i (nI (az_byte V1 (8 * hf + k))) (by have h := hB0 (8 * hf + k) (by omega); rw [Nat.zero_add] at h; exact h) ?_
          refine lv_i2l (v := lN (az_byte V1 (8 * hf + k))) hx hb dXM_bits_39 (nI_l (by omega)) ?_
          refine lv_lor hx hb dXM_bits_40 ?_
          refine tp_l (lN (vv * 256 + az_byte V1 (8 * hf + k))) (g_or (k := 8) (p := 256) rfl hbb (by omega)) ?_
          refine lv_lstore_n (lv' := [(2, .long (lN (vv * 256 + az_byte V1 (8 * hf + k)))), (0, .ref m0), (1, .int (nI hf)), (4, .int (nI k))]) hx hb dXM_bits_41 rfl hl (by decide) rfl (fun ls hl => ?_)
          refine lv_iinc (v := nI (k + 1)) (lv' := [(4, .int (nI (k + 1))), (2, .long (lN (vv * 256 + az_byte V1 (8 * hf + k)))), (0, .ref m0), (1, .int (nI hf))]) hx hb dXM_bits_42 hl (k := 3) rfl (nI_add _ 1) (by decide) rfl (fun ls hl => ?_)
          refine lv_goto (tgt := 16) hx hb dXM_bits_45 (by decide) ?_
          exact ih (k + 1) (vv * 256 + az_byte V1 (8 * hf + k)) (by omega) (hs) (by omega) ls (lv_sub hl [2, 3, 1, 0] rfl)
    exact lp16 _ 0 0 (Nat.zero_le _) (by rw [Nat.mul_zero, Nat.sub_zero]; exact (Nat.div_eq_of_lt hXl).symm) (Nat.lt_succ_self _) ls (lv_sub hl [2, 3, 1, 0] rfl)
  · refine lv_iload_n hx hb dXM_bits_4 rfl (lv_at hl 1 rfl) ?_
    refine lv_iconst (v := nI 1) hx hb dXM_bits_5 (by decide) ?_
    refine lv_icmp_eq (tgt := 11) hx hb dXM_bits_6 (by decide) (fun c6 => ?_) (fun c6 => ?_)
    · obtain ⟨hf, hh, hx2, hbt⟩ : ∃ hf : Nat, hf < 2 ∧ x = nI hf ∧ az_bits V1 x = lN (az_half V1 hf) := by first | exact ⟨0, by omega, c1, by unfold az_bits; rw [if_pos c1]; rfl⟩ | exact ⟨1, by omega, c6, by unfold az_bits; rw [if_neg c1, if_pos c6]; rfl⟩
      rw [hbt]
      rw [hx2] at hl
      have hXl := az_half_lt (V := V1) hf hV
      refine lv_lconst (v := lN 0) hx hb dXM_bits_11 (by decide) ?_
      refine lv_lstore_n (lv' := [(2, .long (lN 0)), (0, .ref m0), (1, .int (nI hf))]) hx hb dXM_bits_12 rfl hl (by decide) rfl (fun ls hl => ?_)
      refine lv_iconst (v := nI 0) hx hb dXM_bits_13 (by decide) ?_
      refine lv_istore (lv' := [(4, .int (nI 0)), (2, .long (lN 0)), (0, .ref m0), (1, .int (nI hf))]) hx hb dXM_bits_14 hl (by decide) rfl (fun ls hl => ?_)
      have lp16 : ∀ (N : Nat) (k : Nat) (vv : Nat), (k ≤ 8) → (vv = az_half V1 hf / 2 ^ (64 - 8 * k)) → (8 - k) < N → ∀ (ls : Array Slot), lv_has ls 5 [(0, .ref m0), (1, .int (nI hf)), (2, .long (lN vv)), (4, .int (nI k))] → W p l e (headSpec wsXM_bits ({ frames := 0, cells := 0, slots := 0, locals := 0 })).room s m ([.ref m0, .int x] : List Value).toArray below meth c s.heap [] 0 0 (MQ below (vp_Sl (fun r => r = lN (az_half V1 hf))) ([.ref m0, .int x] : List Value).toArray s 0 0 (fun _ => False)) (F0 m 16 ls []) := by
        intro N
        induction N with
        | zero => intro k vv hk hvv hN; exact absurd hN (Nat.not_lt_zero _)
        | succ N ih =>
          intro k vv hk hvv hN ls hl
          refine lv_iload hx hb dXM_bits_16 (lv_at hl 3 rfl) ?_
          refine lv_bipush (v := nI 8) hx hb dXM_bits_18 (by decide) ?_
          refine bn_ge (tgt := 48) hx hb dXM_bits_20 (by decide) (by omega) (by omega) (fun c20 => ?_) (fun c20 => ?_)
          · refine lv_lload_n hx hb dXM_bits_48 rfl (lv_at hl 2 rfl) ?_
            exact rt_l hx hb hr (by rw [hvv, show 64 - 8 * k = 0 by omega, Nat.pow_zero, Nat.div_one]) dXM_bits_49 hlocks
          · have hbb := az_byte_lt V1 (8 * hf + k)
            have hs : vv * 256 + az_byte V1 (8 * hf + k) = az_half V1 hf / 2 ^ (64 - 8 * (k + 1)) := by rw [az_half_b hh c20, hvv]; exact az_half_s c20
            have hsl : az_half V1 hf / 2 ^ (64 - 8 * (k + 1)) ≤ az_half V1 hf := Nat.div_le_self _ _
            refine lv_lload_n hx hb dXM_bits_23 rfl (lv_at hl 2 rfl) ?_
            refine lv_bipush (v := nI 8) hx hb dXM_bits_24 (by decide) ?_
            refine lv_lshl (v := lN (vv * 2 ^ 8)) hx hb dXM_bits_26 (wb_shl (k := 8) _ (by omega)) ?_
            refine lv_aload_n hx hb dXM_bits_27 rfl (lv_at hl 0 rfl) ?_
            refine va_get (D := (dC, dI)) (ci := 2) (v := .ref mb) (C := RXM) (T := TXM) (N := 10) hx hb hts hiXM hown hK hP 0 rfl rfl 2 (by decide) hf13 (fun _ h9 => h9) rfl dXM_bits_28 ?_
            refine lv_bipush (v := nI 8) hx hb dXM_bits_31 (by decide) ?_
            refine lv_iload_n hx hb dXM_bits_33 rfl (lv_at hl 1 rfl) ?_
            refine lv_imul hx hb dXM_bits_34 ?_
            refine tp_i (nI (8 * hf)) (pk_mul _ _) ?_
            refine lv_iload hx hb dXM_bits_35 (lv_at hl 3 rfl) ?_
            refine lv_iadd hx hb dXM_bits_37 ?_
            refine tp_i (nI ((8 * hf) + k)) (nI_add _ _) ?_
            refine ld_i hx hb hK hP 1 0 rfl rfl (by omega) (by omega) dXM_bits_38 ?_
            refine tp_i (nI (az_byte V1 (8 * hf + k))) (by have h := hB0 (8 * hf + k) (by omega); rw [Nat.zero_add] at h; exact h) ?_
            refine lv_i2l (v := lN (az_byte V1 (8 * hf + k))) hx hb dXM_bits_39 (nI_l (by omega)) ?_
            refine lv_lor hx hb dXM_bits_40 ?_
            refine tp_l (lN (vv * 256 + az_byte V1 (8 * hf + k))) (g_or (k := 8) (p := 256) rfl hbb (by omega)) ?_
            refine lv_lstore_n (lv' := [(2, .long (lN (vv * 256 + az_byte V1 (8 * hf + k)))), (0, .ref m0), (1, .int (nI hf)), (4, .int (nI k))]) hx hb dXM_bits_41 rfl hl (by decide) rfl (fun ls hl => ?_)
            refine lv_iinc (v := nI (k + 1)) (lv' := [(4, .int (nI (k + 1))), (2, .long (lN (vv * 256 + az_byte V1 (8 * hf + k)))), (0, .ref m0), (1, .int (nI hf))]) hx hb dXM_bits_42 hl (k := 3) rfl (nI_add _ 1) (by decide) rfl (fun ls hl => ?_)
            refine lv_goto (tgt := 16) hx hb dXM_bits_45 (by decide) ?_
            exact ih (k + 1) (vv * 256 + az_byte V1 (8 * hf + k)) (by omega) (hs) (by omega) ls (lv_sub hl [2, 3, 1, 0] rfl)
      exact lp16 _ 0 0 (Nat.zero_le _) (by rw [Nat.mul_zero, Nat.sub_zero]; exact (Nat.div_eq_of_lt hXl).symm) (Nat.lt_succ_self _) ls (lv_sub hl [2, 3, 1, 0] rfl)
    · refine lv_lconst (v := lN 0) hx hb dXM_bits_9 (by decide) ?_
      exact rt_l hx hb hr (by unfold az_bits; rw [if_neg c1, if_neg c6]) dXM_bits_10 hlocks
set_option maxRecDepth 100000 in
set_option maxHeartbeats 4000000 in
/-- cut() -/
theorem ct_m_cut (l : Launch) (dC : Nat → ClassId) (dI : Nat → Nat → Nat) (sz : Nat) (m0 mt mb mf ml mp mo n w : Nat) (xm xg : Int32) (dB : ClassId) (B : Nat → Int32) (dF : ClassId) (Fm : Nat → Int32) (dL : ClassId) (Ln : Nat → Int32) (f1 l1 V1 : Nat) (h1 : az_ad f1 l1 V1) (hF0 : Fm 0 = nI f1) (hL0 : Ln 0 = nI l1) (hB0 : az_by B 0 V1) : Met l yXM_cut wsXM_cut ({ frames := 1, cells := 0, slots := 0, locals := 23 }) (wr_P (dC, dI) azCl [(m0, .inr (2, [.ref mt, .int (nI n), .ref mb, .ref mf, .ref ml, .ref mp, .int xm, .int xg, .ref mo, .int (nI w)])), (mb, .inl (dB, 32, .inl B)), (mf, .inl (dF, 2, .inl Fm)), (ml, .inl (dL, 2, .inl Ln))] [(dB, .int), (dF, .int), (dL, .int)] sz [.ref m0]) (va_Qi (fun r u => r = az_b (¬ az_cut V1 (az_wl f1 - l1) = V1) ∧ az_by u 0 (az_cut V1 (az_wl f1 - l1)) ∧ ∀ j, 16 ≤ j → u j = B j) (wr_B (dC, dI) azCl [(dB, .int), (dF, .int), (dL, .int)] (va_A [(m0, .inr (2, [.ref mt, .int (nI n), .ref mb, .ref mf, .ref ml, .ref mp, .int xm, .int xg, .ref mo, .int (nI w)])), (mb, .inl (dB, 32, .inl B)), (mf, .inl (dF, 2, .inl Fm)), (ml, .inl (dL, 2, .inl Ln))] sz) (fun u : Nat → Int32 => [(m0, .inr (2, [.ref mt, .int (nI n), .ref mb, .ref mf, .ref ml, .ref mp, .int xm, .int xg, .ref mo, .int (nI w)])), (mb, .inl (dB, 32, .inl u)), (mf, .inl (dF, 2, .inl Fm)), (ml, .inl (dL, 2, .inl Ln))])) (va_A [(m0, .inr (2, [.ref mt, .int (nI n), .ref mb, .ref mf, .ref ml, .ref mp, .int xm, .int xg, .ref mo, .int (nI w)])), (mb, .inl (dB, 32, .inl B)), (mf, .inl (dF, 2, .inl Fm)), (ml, .inl (dL, 2, .inl Ln))] sz)) 0 0 (va_A [(m0, .inr (2, [.ref mt, .int (nI n), .ref mb, .ref mf, .ref ml, .ref mp, .int xm, .int xg, .ref mo, .int (nI w)])), (mb, .inl (dB, 32, .inl B)), (mf, .inl (dF, 2, .inl Fm)), (ml, .inl (dL, 2, .inl Ln))] sz) := by
  refine Met.ofW (cc := cXM_cut) (maxL := 5) (ret := (some .boolean)) (by decide) rfl ?_
  intro p e s m args below meth c s₁ Bd hml hv
  obtain ⟨rfl, hsz, hP, hK, hD0⟩ := hv
  have hx := Bd.exec
  have hb := Bd.bytes
  have hr := Bd.returns
  have hts := atoms_spec (ws := wsXM_cut) Bd.pre
  have hown : s.vm.findClass RXM = some m.cls := findClass_of_methodNamed Bd.named
  have hlocks := Bd.notSynchronized
  subst hsz
  have hD := hD0.self (sz := s.heap.size)
  generalize hAe : va_A [(m0, .inr (2, [.ref mt, .int (nI n), .ref mb, .ref mf, .ref ml, .ref mp, .int xm, .int xg, .ref mo, .int (nI w)])), (mb, .inl (dB, 32, .inl B)), (mf, .inl (dF, 2, .inl Fm)), (ml, .inl (dL, 2, .inl Ln))] s.heap.size = A at hD ⊢
  have hA : ∀ q : Nat, s.heap.size ≤ q → A q := fun q h => by rw [← hAe]; exact Or.inr h
  have hS : va_S A s.heap s.heap [] := va_S.rf
  have hP : va_P (dC, dI) azCl [(m0, .inr (2, [.ref mt, .int (nI n), .ref mb, .ref mf, .ref ml, .ref mp, .int xm, .int xg, .ref mo, .int (nI w)])), (mb, .inl (dB, 32, .inl B)), (mf, .inl (dF, 2, .inl Fm)), (ml, .inl (dL, 2, .inl Ln))] s.heap := hP
  have hiXM : ∀ w ∈ wsXM0, w ∈ wsXM_cut := by decide +kernel
  have hf13 := hts (.fieldLink RXM 13 "AddressTextsModel" "bytes" "[I") (by decide +kernel)
  have hf16 := hts (.fieldLink RXM 16 "AddressTextsModel" "family" "[I") (by decide +kernel)
  have hf19 := hts (.fieldLink RXM 19 "AddressTextsModel" "length" "[I") (by decide +kernel)
  have hl := lv_entry ([.ref m0]) (n := 5) (Nat.le_of_ble_eq_true rfl)
  rw [lg_entry_eq]
  generalize (lg_sl ([.ref m0]) ++ List.replicate (5 - (lg_sl ([.ref m0])).length) Slot.unset).toArray = ls at hl ⊢
  have hl : lv_has ls 5 [(0, .ref m0)] := hl
  have hV := az_ad_V h1
  have hf1 := az_ad_6 h1
  have hl1 := h1.2
  have hw1 := az_wl_le f1
  have jp28 : ∀ (H : Heap) (locs : List Loc), va_P (dC, dI) azCl [(m0, .inr (2, [.ref mt, .int (nI n), .ref mb, .ref mf, .ref ml, .ref mp, .int xm, .int xg, .ref mo, .int (nI w)])), (mb, .inl (dB, 32, .inl B)), (mf, .inl (dF, 2, .inl Fm)), (ml, .inl (dL, 2, .inl Ln))] H → va_D A [(m0, .inr (2, [.ref mt, .int (nI n), .ref mb, .ref mf, .ref ml, .ref mp, .int xm, .int xg, .ref mo, .int (nI w)])), (mb, .inl (dB, 32, .inl B)), (mf, .inl (dF, 2, .inl Fm)), (ml, .inl (dL, 2, .inl Ln))] → va_S A s.heap H locs → ∀ (ls : Array Slot), lv_has ls 5 [(0, .ref m0), (1, .int (nI 0)), (2, .int (nI (az_wl f1))), (3, .int (nI l1))] → W p l e (headSpec wsXM_cut ({ frames := 1, cells := 0, slots := 0, locals := 23 })).room s m ([.ref m0] : List Value).toArray below meth c H locs 0 0 (MQ below (va_Qi (fun r u => r = az_b (¬ az_cut V1 (az_wl f1 - l1) = V1) ∧ az_by u 0 (az_cut V1 (az_wl f1 - l1)) ∧ ∀ j, 16 ≤ j → u j = B j) (wr_B (dC, dI) azCl [(dB, .int), (dF, .int), (dL, .int)] A (fun u : Nat → Int32 => [(m0, .inr (2, [.ref mt, .int (nI n), .ref mb, .ref mf, .ref ml, .ref mp, .int xm, .int xg, .ref mo, .int (nI w)])), (mb, .inl (dB, 32, .inl u)), (mf, .inl (dF, 2, .inl Fm)), (ml, .inl (dL, 2, .inl Ln))])) A) ([.ref m0] : List Value).toArray s 0 0 A) (F0 m 28 ls []) := by
    intro  H locs hP hD hS ls hl
    have lp28 : ∀ (N : Nat) (k : Nat) (al : Nat) (E : Nat → Int32), (l1 ≤ k) → (k ≤ az_wl f1) → (az_by E 0 (az_clr V1 (az_wl f1 - k) (az_wl f1 - l1))) → (∀ j, 16 ≤ j → E j = B j) → ((al = 1 ∧ az_clr V1 (az_wl f1 - k) (az_wl f1 - l1) ≠ V1) ∨ (al = 0 ∧ az_clr V1 (az_wl f1 - k) (az_wl f1 - l1) = V1)) → (az_wl f1 - k) < N → ∀ (H : Heap) (locs : List Loc), va_P (dC, dI) azCl [(m0, .inr (2, [.ref mt, .int (nI n), .ref mb, .ref mf, .ref ml, .ref mp, .int xm, .int xg, .ref mo, .int (nI w)])), (mb, .inl (dB, 32, .inl E)), (mf, .inl (dF, 2, .inl Fm)), (ml, .inl (dL, 2, .inl Ln))] H → va_D A [(m0, .inr (2, [.ref mt, .int (nI n), .ref mb, .ref mf, .ref ml, .ref mp, .int xm, .int xg, .ref mo, .int (nI w)])), (mb, .inl (dB, 32, .inl E)), (mf, .inl (dF, 2, .inl Fm)), (ml, .inl (dL, 2, .inl Ln))] → va_S A s.heap H locs → ∀ (ls : Array Slot), lv_has ls 5 [(0, .ref m0), (1, .int (nI al)), (2, .int (nI (az_wl f1))), (3, .int (nI k))] → W p l e (headSpec wsXM_cut ({ frames := 1, cells := 0, slots := 0, locals := 23 })).room s m ([.ref m0] : List Value).toArray below meth c H locs 0 0 (MQ below (va_Qi (fun r u => r = az_b (¬ az_cut V1 (az_wl f1 - l1) = V1) ∧ az_by u 0 (az_cut V1 (az_wl f1 - l1)) ∧ ∀ j, 16 ≤ j → u j = B j) (wr_B (dC, dI) azCl [(dB, .int), (dF, .int), (dL, .int)] A (fun u : Nat → Int32 => [(m0, .inr (2, [.ref mt, .int (nI n), .ref mb, .ref mf, .ref ml, .ref mp, .int xm, .int xg, .ref mo, .int (nI w)])), (mb, .inl (dB, 32, .inl u)), (mf, .inl (dF, 2, .inl Fm)), (ml, .inl (dL, 2, .inl Ln))])) A) ([.ref m0] : List Value).toArray s 0 0 A) (F0 m 28 ls []) := by
      intro N
      induction N with
      | zero => intro k al E hk hk2 hE hE2 hal hN; exact absurd hN (Nat.not_lt_zero _)
      | succ N ih =>
        intro k al E hk hk2 hE hE2 hal hN H locs hP hD hS ls hl
        refine lv_iload_n hx hb dXM_cut_28 rfl (lv_at hl 3 rfl) ?_
        refine lv_iload_n hx hb dXM_cut_29 rfl (lv_at hl 2 rfl) ?_
        refine bn_ge (tgt := 99) hx hb dXM_cut_30 (by decide) (by omega) (by omega) (fun c30 => ?_) (fun c30 => ?_)
        · have hfin : az_clr V1 (az_wl f1 - k) (az_wl f1 - l1) = az_cut V1 (az_wl f1 - l1) := by rw [show az_wl f1 - k = 0 by omega]; exact az_clr_1 _ _
          refine lv_iload_n hx hb dXM_cut_99 rfl (lv_at hl 1 rfl) ?_
          exact wt_z hx hb hr (by rcases hal with ⟨q, _⟩ | ⟨q, _⟩ <;> (subst q; rfl)) (E) (⟨by rw [← hfin]; rcases hal with ⟨q, e⟩ | ⟨q, e⟩; exact (by rw [q]; exact (az_b_t (p := ¬ az_clr V1 (az_wl f1 - k) (az_wl f1 - l1) = V1) e).symm); exact (by rw [q]; exact (az_b_f (p := ¬ az_clr V1 (az_wl f1 - k) (az_wl f1 - l1) = V1) (fun z => z e)).symm), by rw [← hfin]; exact hE, hE2⟩) (hP.sub [0, 1, 2, 3] rfl) hK (hD.sub [0, 1, 2, 3] (by decide) rfl) hS dXM_cut_100 hlocks
        · have hcl : az_clr V1 (az_wl f1 - k) (az_wl f1 - l1) = az_clr V1 (az_wl f1 - (k + 1)) (az_wl f1 - l1) + az_clr V1 (az_wl f1 - k) (az_wl f1 - l1) / 2 ^ (az_wl f1 - 1 - k) % 2 * 2 ^ (az_wl f1 - 1 - k) ∧ az_bit f1 (az_clr V1 (az_wl f1 - k) (az_wl f1 - l1)) k = az_clr V1 (az_wl f1 - k) (az_wl f1 - l1) / 2 ^ (az_wl f1 - 1 - k) % 2 := by have h := az_clr_s V1 (s := az_wl f1 - 1 - k) (m := az_wl f1 - l1) (by omega); rw [show az_wl f1 - 1 - k + 1 = az_wl f1 - k by omega] at h; refine ⟨?_, rfl⟩; rw [h.2, show az_wl f1 - (k + 1) = az_wl f1 - 1 - k by omega]; exact h.1
          have hle : az_clr V1 (az_wl f1 - k) (az_wl f1 - l1) ≤ V1 := az_clr_le V1 (by omega)
          have hpp : 0 < 2 ^ (az_wl f1 - 1 - k) := Nat.two_pow_pos _
          have jp53 : ∀ (a2 : Nat), ((a2 = 1 ∧ az_clr V1 (az_wl f1 - (k + 1)) (az_wl f1 - l1) ≠ V1) ∨ (a2 = 0 ∧ az_clr V1 (az_wl f1 - (k + 1)) (az_wl f1 - l1) = V1)) → ∀ (H : Heap) (locs : List Loc), va_P (dC, dI) azCl [(m0, .inr (2, [.ref mt, .int (nI n), .ref mb, .ref mf, .ref ml, .ref mp, .int xm, .int xg, .ref mo, .int (nI w)])), (mb, .inl (dB, 32, .inl E)), (mf, .inl (dF, 2, .inl Fm)), (ml, .inl (dL, 2, .inl Ln))] H → va_D A [(m0, .inr (2, [.ref mt, .int (nI n), .ref mb, .ref mf, .ref ml, .ref mp, .int xm, .int xg, .ref mo, .int (nI w)])), (mb, .inl (dB, 32, .inl E)), (mf, .inl (dF, 2, .inl Fm)), (ml, .inl (dL, 2, .inl Ln))] → va_S A s.heap H locs → ∀ (ls : Array Slot), lv_has ls 5 [(0, .ref m0), (1, .int (nI a2)), (2, .int (nI (az_wl f1))), (3, .int (nI k))] → W p l e (headSpec wsXM_cut ({ frames := 1, cells := 0, slots := 0, locals := 23 })).room s m ([.ref m0] : List Value).toArray below meth c H locs 0 0 (MQ below (va_Qi (fun r u => r = az_b (¬ az_cut V1 (az_wl f1 - l1) = V1) ∧ az_by u 0 (az_cut V1 (az_wl f1 - l1)) ∧ ∀ j, 16 ≤ j → u j = B j) (wr_B (dC, dI) azCl [(dB, .int), (dF, .int), (dL, .int)] A (fun u : Nat → Int32 => [(m0, .inr (2, [.ref mt, .int (nI n), .ref mb, .ref mf, .ref ml, .ref mp, .int xm, .int xg, .ref mo, .int (nI w)])), (mb, .inl (dB, 32, .inl u)), (mf, .inl (dF, 2, .inl Fm)), (ml, .inl (dL, 2, .inl Ln))])) A) ([.ref m0] : List Value).toArray s 0 0 A) (F0 m 53 ls []) := by
            intro a2 ha2 H locs hP hD hS ls hl
            refine lv_iload_n hx hb dXM_cut_53 rfl (lv_at hl 2 rfl) ?_
            refine lv_bipush (v := nI 32) hx hb dXM_cut_54 (by decide) ?_
            refine bn_ne (tgt := 66) hx hb dXM_cut_56 (by decide) (by omega) (by omega) (fun c56 => ?_) (fun c56 => ?_)
            · refine lv_iload_n hx hb dXM_cut_66 rfl (lv_at hl 3 rfl) ?_
              refine lv_istore (lv' := [(4, .int (nI k)), (0, .ref m0), (1, .int (nI a2)), (2, .int (nI (az_wl f1))), (3, .int (nI k))]) hx hb dXM_cut_67 hl (by decide) rfl (fun ls hl => ?_)
              obtain ⟨at_, hat⟩ : ∃ z, z = k := ⟨_, rfl⟩
              have hl : lv_has ls 5 [(4, .int (nI at_)), (0, .ref m0), (1, .int (nI a2)), (2, .int (nI (az_wl f1))), (3, .int (nI k))] := by rw [hat]; exact hl
              have h127 : at_ = 127 - (az_wl f1 - 1 - k) := by have := az_wl_2 f1; omega
              have hbl := az_byte_lt (az_clr V1 (az_wl f1 - k) (az_wl f1 - l1)) (at_ / 8)
              refine lv_aload_n hx hb dXM_cut_69 rfl (lv_at hl 1 rfl) ?_
              refine va_get (D := (dC, dI)) (ci := 2) (v := .ref mb) (C := RXM) (T := TXM) (N := 10) hx hb hts hiXM hown hK hP 0 rfl rfl 2 (by decide) hf13 (fun _ h9 => h9) rfl dXM_cut_70 ?_
              refine lv_iload hx hb dXM_cut_73 (lv_at hl 0 rfl) ?_
              refine lv_bipush (v := nI 8) hx hb dXM_cut_75 (by decide) ?_
              refine lv_idiv hx hb dXM_cut_77 (by decide) ?_
              refine tp_i (nI (at_ / 8)) (pk_div (by omega) (by omega) (by omega)) ?_
              refine lv_dup2_11 hx hb dXM_cut_78 rfl rfl ?_
              refine ld_i hx hb hK hP 1 0 rfl rfl (by omega) (by omega) dXM_cut_79 ?_
              refine tp_i (nI (az_byte (az_clr V1 (az_wl f1 - k) (az_wl f1 - l1)) (at_ / 8))) (by have h := hE (at_ / 8) (by omega); rw [Nat.zero_add] at h; exact h) ?_
              refine lv_sipush (v := nI 128) hx hb dXM_cut_80 (by decide) ?_
              refine lv_iload hx hb dXM_cut_83 (lv_at hl 0 rfl) ?_
              refine lv_bipush (v := nI 8) hx hb dXM_cut_85 (by decide) ?_
              refine lv_irem hx hb dXM_cut_87 (by decide) ?_
              refine tp_i (nI (at_ % 8)) (pk_rem (by omega) (by omega) (by omega)) ?_
              refine lv_ishr hx hb dXM_cut_88 ?_
              refine lv_iconst (v := -1) hx hb dXM_cut_89 (by decide) ?_
              refine lv_ixor hx hb dXM_cut_90 ?_
              refine lv_iand hx hb dXM_cut_91 ?_
              refine tp_i (nI (az_byte (az_clr V1 (az_wl f1 - k) (az_wl f1 - l1)) (at_ / 8) - az_byte (az_clr V1 (az_wl f1 - k) (az_wl f1 - l1)) (at_ / 8) / 2 ^ (7 - at_ % 8) % 2 * 2 ^ (7 - at_ % 8))) (az_clrI _ (by omega) _ hbl) ?_
              refine st_i hx hb hK hP hD hS 1 0 rfl rfl (by omega) (by omega) dXM_cut_92 (fun H locs hP hD hS => ?_)
              have hP : va_P (dC, dI) azCl [(m0, .inr (2, [.ref mt, .int (nI n), .ref mb, .ref mf, .ref ml, .ref mp, .int xm, .int xg, .ref mo, .int (nI w)])), (mb, .inl (dB, 32, .inl (upd E (at_ / 8) (nI (az_byte (az_clr V1 (az_wl f1 - k) (az_wl f1 - l1)) (at_ / 8) - az_byte (az_clr V1 (az_wl f1 - k) (az_wl f1 - l1)) (at_ / 8) / 2 ^ (7 - at_ % 8) % 2 * 2 ^ (7 - at_ % 8)))))), (mf, .inl (dF, 2, .inl Fm)), (ml, .inl (dL, 2, .inl Ln))] H := hP
              have hD : va_D A [(m0, .inr (2, [.ref mt, .int (nI n), .ref mb, .ref mf, .ref ml, .ref mp, .int xm, .int xg, .ref mo, .int (nI w)])), (mb, .inl (dB, 32, .inl (upd E (at_ / 8) (nI (az_byte (az_clr V1 (az_wl f1 - k) (az_wl f1 - l1)) (at_ / 8) - az_byte (az_clr V1 (az_wl f1 - k) (az_wl f1 - l1)) (at_ / 8) / 2 ^ (7 - at_ % 8) % 2 * 2 ^ (7 - at_ % 8)))))), (mf, .inl (dF, 2, .inl Fm)), (ml, .inl (dL, 2, .inl Ln))] := hD
              refine lv_iinc (v := nI (k + 1)) (lv' := [(3, .int (nI (k + 1))), (4, .int (nI at_)), (0, .ref m0), (1, .int (nI a2)), (2, .int (nI (az_wl f1)))]) hx hb dXM_cut_93 hl (k := 4) rfl (nI_add _ 1) (by decide) rfl (fun ls hl => ?_)
              refine lv_goto (tgt := 28) hx hb dXM_cut_96 (by decide) ?_
              exact ih (k + 1) a2 (upd E (at_ / 8) (nI (az_byte (az_clr V1 (az_wl f1 - k) (az_wl f1 - l1)) (at_ / 8) - az_byte (az_clr V1 (az_wl f1 - k) (az_wl f1 - l1)) (at_ / 8) / 2 ^ (7 - at_ % 8) % 2 * 2 ^ (7 - at_ % 8)))) (by omega) (by omega) (az_by_clr hE hcl.1 (by omega) h127) (fun j hj => by rw [pk_un (by omega)]; exact hE2 j hj) (ha2) (by omega) _ _ (hP.sub [0, 1, 2, 3] rfl) (hD.sub [0, 1, 2, 3] (by decide) rfl) hS ls (lv_sub hl [2, 3, 4, 0] rfl)
            · refine lv_bipush (v := nI 96) hx hb dXM_cut_59 (by decide) ?_
              refine lv_iload_n hx hb dXM_cut_61 rfl (lv_at hl 3 rfl) ?_
              refine lv_iadd hx hb dXM_cut_62 ?_
              refine tp_i (nI (96 + k)) (nI_add _ _) ?_
              refine lv_goto (tgt := 67) hx hb dXM_cut_63 (by decide) ?_
              refine lv_istore (lv' := [(4, .int (nI (96 + k))), (0, .ref m0), (1, .int (nI a2)), (2, .int (nI (az_wl f1))), (3, .int (nI k))]) hx hb dXM_cut_67 hl (by decide) rfl (fun ls hl => ?_)
              obtain ⟨at_, hat⟩ : ∃ z, z = 96 + k := ⟨_, rfl⟩
              have hl : lv_has ls 5 [(4, .int (nI at_)), (0, .ref m0), (1, .int (nI a2)), (2, .int (nI (az_wl f1))), (3, .int (nI k))] := by rw [hat]; exact hl
              have h127 : at_ = 127 - (az_wl f1 - 1 - k) := by have := az_wl_2 f1; omega
              have hbl := az_byte_lt (az_clr V1 (az_wl f1 - k) (az_wl f1 - l1)) (at_ / 8)
              refine lv_aload_n hx hb dXM_cut_69 rfl (lv_at hl 1 rfl) ?_
              refine va_get (D := (dC, dI)) (ci := 2) (v := .ref mb) (C := RXM) (T := TXM) (N := 10) hx hb hts hiXM hown hK hP 0 rfl rfl 2 (by decide) hf13 (fun _ h9 => h9) rfl dXM_cut_70 ?_
              refine lv_iload hx hb dXM_cut_73 (lv_at hl 0 rfl) ?_
              refine lv_bipush (v := nI 8) hx hb dXM_cut_75 (by decide) ?_
              refine lv_idiv hx hb dXM_cut_77 (by decide) ?_
              refine tp_i (nI (at_ / 8)) (pk_div (by omega) (by omega) (by omega)) ?_
              refine lv_dup2_11 hx hb dXM_cut_78 rfl rfl ?_
              refine ld_i hx hb hK hP 1 0 rfl rfl (by omega) (by omega) dXM_cut_79 ?_
              refine tp_i (nI (az_byte (az_clr V1 (az_wl f1 - k) (az_wl f1 - l1)) (at_ / 8))) (by have h := hE (at_ / 8) (by omega); rw [Nat.zero_add] at h; exact h) ?_
              refine lv_sipush (v := nI 128) hx hb dXM_cut_80 (by decide) ?_
              refine lv_iload hx hb dXM_cut_83 (lv_at hl 0 rfl) ?_
              refine lv_bipush (v := nI 8) hx hb dXM_cut_85 (by decide) ?_
              refine lv_irem hx hb dXM_cut_87 (by decide) ?_
              refine tp_i (nI (at_ % 8)) (pk_rem (by omega) (by omega) (by omega)) ?_
              refine lv_ishr hx hb dXM_cut_88 ?_
              refine lv_iconst (v := -1) hx hb dXM_cut_89 (by decide) ?_
              refine lv_ixor hx hb dXM_cut_90 ?_
              refine lv_iand hx hb dXM_cut_91 ?_
              refine tp_i (nI (az_byte (az_clr V1 (az_wl f1 - k) (az_wl f1 - l1)) (at_ / 8) - az_byte (az_clr V1 (az_wl f1 - k) (az_wl f1 - l1)) (at_ / 8) / 2 ^ (7 - at_ % 8) % 2 * 2 ^ (7 - at_ % 8))) (az_clrI _ (by omega) _ hbl) ?_
              refine st_i hx hb hK hP hD hS 1 0 rfl rfl (by omega) (by omega) dXM_cut_92 (fun H locs hP hD hS => ?_)
              have hP : va_P (dC, dI) azCl [(m0, .inr (2, [.ref mt, .int (nI n), .ref mb, .ref mf, .ref ml, .ref mp, .int xm, .int xg, .ref mo, .int (nI w)])), (mb, .inl (dB, 32, .inl (upd E (at_ / 8) (nI (az_byte (az_clr V1 (az_wl f1 - k) (az_wl f1 - l1)) (at_ / 8) - az_byte (az_clr V1 (az_wl f1 - k) (az_wl f1 - l1)) (at_ / 8) / 2 ^ (7 - at_ % 8) % 2 * 2 ^ (7 - at_ % 8)))))), (mf, .inl (dF, 2, .inl Fm)), (ml, .inl (dL, 2, .inl Ln))] H := hP
              have hD : va_D A [(m0, .inr (2, [.ref mt, .int (nI n), .ref mb, .ref mf, .ref ml, .ref mp, .int xm, .int xg, .ref mo, .int (nI w)])), (mb, .inl (dB, 32, .inl (upd E (at_ / 8) (nI (az_byte (az_clr V1 (az_wl f1 - k) (az_wl f1 - l1)) (at_ / 8) - az_byte (az_clr V1 (az_wl f1 - k) (az_wl f1 - l1)) (at_ / 8) / 2 ^ (7 - at_ % 8) % 2 * 2 ^ (7 - at_ % 8)))))), (mf, .inl (dF, 2, .inl Fm)), (ml, .inl (dL, 2, .inl Ln))] := hD
              refine lv_iinc (v := nI (k + 1)) (lv' := [(3, .int (nI (k + 1))), (4, .int (nI at_)), (0, .ref m0), (1, .int (nI a2)), (2, .int (nI (az_wl f1)))]) hx hb dXM_cut_93 hl (k := 4) rfl (nI_add _ 1) (by decide) rfl (fun ls hl => ?_)
              refine lv_goto (tgt := 28) hx hb dXM_cut_96 (by decide) ?_
              exact ih (k + 1) a2 (upd E (at_ / 8) (nI (az_byte (az_clr V1 (az_wl f1 - k) (az_wl f1 - l1)) (at_ / 8) - az_byte (az_clr V1 (az_wl f1 - k) (az_wl f1 - l1)) (at_ / 8) / 2 ^ (7 - at_ % 8) % 2 * 2 ^ (7 - at_ % 8)))) (by omega) (by omega) (az_by_clr hE hcl.1 (by omega) h127) (fun j hj => by rw [pk_un (by omega)]; exact hE2 j hj) (ha2) (by omega) _ _ (hP.sub [0, 1, 2, 3] rfl) (hD.sub [0, 1, 2, 3] (by decide) rfl) hS ls (lv_sub hl [2, 3, 4, 0] rfl)
          refine lv_iload_n hx hb dXM_cut_33 rfl (lv_at hl 1 rfl) ?_
          refine bz_ne (tgt := 47) hx hb dXM_cut_34 (by decide) (by omega) (fun c34 => ?_) (fun c34 => ?_)
          · refine lv_iconst (v := nI 1) hx hb dXM_cut_47 (by decide) ?_
            refine lv_goto (tgt := 52) hx hb dXM_cut_48 (by decide) ?_
            refine lv_istore_n (lv' := [(1, .int (nI 1)), (0, .ref m0), (2, .int (nI (az_wl f1))), (3, .int (nI k))]) hx hb dXM_cut_52 rfl hl (by decide) rfl (fun ls hl => ?_)
            exact jp53 1 (Or.inl ⟨rfl, by first | (rcases hal with ⟨_, q⟩ | ⟨q, _⟩; exact (by omega); exact (absurd q c34)) | (rw [hcl.2] at c44; rw [c44] at hcl; omega)⟩) _ _ (hP.sub [0, 1, 2, 3] rfl) (hD.sub [0, 1, 2, 3] (by decide) rfl) hS ls (lv_sub hl [1, 0, 2, 3] rfl)
          · refine lv_aload_n hx hb dXM_cut_37 rfl (lv_at hl 0 rfl) ?_
            refine lv_iconst (v := nI 0) hx hb dXM_cut_38 (by decide) ?_
            refine lv_iload_n hx hb dXM_cut_39 rfl (lv_at hl 3 rfl) ?_
            refine rc_Vi (As := [.int (nI 0), .int (nI k)]) (rest := []) ⟨hx, hb, hml, hown, hts⟩ (ct_m_bit l dC dI m0 mt mb mf ml mp mo n w xm xg dF Fm dB E 0 k f1 (az_clr V1 (az_wl f1 - k) (az_wl f1 - l1)) (by omega) hF0 hf1 hE (by omega)) (cwV 2 hts gXM_cut_XM_bit rfl rfl rfl (by decide +kernel) ⟨Nat.le_of_ble_eq_true rfl, Nat.le_of_ble_eq_true rfl⟩) (hP.sub [0, 2, 1] rfl) (hK.sub [1, 0] rfl) 0 rfl rfl rfl hl.1 rfl (Nat.le_of_ble_eq_true rfl) dXM_cut_40 ⟨(Nat.zero_le _), (Nat.zero_le _)⟩ ?_
            refine lv_iconst (v := nI 1) hx hb dXM_cut_43 (by decide) ?_
            refine bn_ne (tgt := 51) hx hb dXM_cut_44 (by decide) (by (have : az_bit f1 (az_clr V1 (az_wl f1 - k) (az_wl f1 - l1)) k < 2 := Nat.mod_lt _ (by decide)); omega) (by (have : az_bit f1 (az_clr V1 (az_wl f1 - k) (az_wl f1 - l1)) k < 2 := Nat.mod_lt _ (by decide)); omega) (fun c44 => ?_) (fun c44 => ?_)
            · refine lv_iconst (v := nI 0) hx hb dXM_cut_51 (by decide) ?_
              refine lv_istore_n (lv' := [(1, .int (nI 0)), (0, .ref m0), (2, .int (nI (az_wl f1))), (3, .int (nI k))]) hx hb dXM_cut_52 rfl hl (by decide) rfl (fun ls hl => ?_)
              exact jp53 0 (Or.inr ⟨rfl, by rcases hal with ⟨q, _⟩ | ⟨_, q⟩; exact (by omega); exact (by have h0 : az_clr V1 (az_wl f1 - k) (az_wl f1 - l1) / 2 ^ (az_wl f1 - 1 - k) % 2 = 0 := (by rw [hcl.2] at c44; omega); rw [h0] at hcl; omega)⟩) _ _ (hP.sub [0, 1, 2, 3] rfl) (hD.sub [0, 1, 2, 3] (by decide) rfl) hS ls (lv_sub hl [1, 0, 2, 3] rfl)
            · refine lv_iconst (v := nI 1) hx hb dXM_cut_47 (by decide) ?_
              refine lv_goto (tgt := 52) hx hb dXM_cut_48 (by decide) ?_
              refine lv_istore_n (lv' := [(1, .int (nI 1)), (0, .ref m0), (2, .int (nI (az_wl f1))), (3, .int (nI k))]) hx hb dXM_cut_52 rfl hl (by decide) rfl (fun ls hl => ?_)
              exact jp53 1 (Or.inl ⟨rfl, by first | (rcases hal with ⟨_, q⟩ | ⟨q, _⟩; exact (by omega); exact (absurd q c34)) | (rw [hcl.2] at c44; rw [c44] at hcl; omega)⟩) _ _ (hP.sub [0, 1, 2, 3] rfl) (hD.sub [0, 1, 2, 3] (by decide) rfl) hS ls (lv_sub hl [1, 0, 2, 3] rfl)
    exact lp28 _ l1 0 B (Nat.le_refl _) (hl1) (by rw [az_clr_0]; exact hB0) (fun _ _ => rfl) (Or.inr ⟨rfl, az_clr_0 _ _⟩) (Nat.lt_succ_self _) _ _ (hP.sub [0, 1, 2, 3] rfl) (hD.sub [0, 1, 2, 3] (by decide) rfl) hS ls (lv_sub hl [0, 1, 2, 3] rfl)
  refine lv_iconst (v := nI 0) hx hb dXM_cut_0 (by decide) ?_
  refine lv_istore_n (lv' := [(1, .int (nI 0)), (0, .ref m0)]) hx hb dXM_cut_1 rfl hl (by decide) rfl (fun ls hl => ?_)
  refine lv_aload_n hx hb dXM_cut_2 rfl (lv_at hl 1 rfl) ?_
  refine va_get (D := (dC, dI)) (ci := 2) (v := .ref mf) (C := RXM) (T := TXM) (N := 10) hx hb hts hiXM hown hK hP 0 rfl rfl 3 (by decide) hf16 (fun _ h9 => h9) rfl dXM_cut_3 ?_
  refine lv_iconst (v := nI 0) hx hb dXM_cut_6 (by decide) ?_
  refine ld_i hx hb hK hP 2 1 rfl rfl (by omega) (by omega) dXM_cut_7 ?_
  refine tp_i (nI f1) (hF0) ?_
  refine lv_iconst (v := nI 4) hx hb dXM_cut_8 (by decide) ?_
  refine bn_ne (tgt := 17) hx hb dXM_cut_9 (by decide) (by omega) (by omega) (fun c9 => ?_) (fun c9 => ?_)
  · refine lv_sipush (v := nI 128) hx hb dXM_cut_17 (by decide) ?_
    refine tp_i (nI (az_wl f1)) (congrArg nI (by first | (rw [c9]; rfl) | exact (az_wl_n c9).symm)) ?_
    refine lv_istore_n (lv' := [(2, .int (nI (az_wl f1))), (1, .int (nI 0)), (0, .ref m0)]) hx hb dXM_cut_20 rfl hl (by decide) rfl (fun ls hl => ?_)
    refine lv_aload_n hx hb dXM_cut_21 rfl (lv_at hl 2 rfl) ?_
    refine va_get (D := (dC, dI)) (ci := 2) (v := .ref ml) (C := RXM) (T := TXM) (N := 10) hx hb hts hiXM hown hK hP 0 rfl rfl 4 (by decide) hf19 (fun _ h9 => h9) rfl dXM_cut_22 ?_
    refine lv_iconst (v := nI 0) hx hb dXM_cut_25 (by decide) ?_
    refine ld_i hx hb hK hP 3 2 rfl rfl (by omega) (by omega) dXM_cut_26 ?_
    refine tp_i (nI l1) (hL0) ?_
    refine lv_istore_n (lv' := [(3, .int (nI l1)), (2, .int (nI (az_wl f1))), (1, .int (nI 0)), (0, .ref m0)]) hx hb dXM_cut_27 rfl hl (by decide) rfl (fun ls hl => ?_)
    exact jp28  _ _ (hP.sub [0, 1, 2, 3] rfl) (hD.sub [0, 1, 2, 3] (by decide) rfl) hS ls (lv_sub hl [3, 2, 1, 0] rfl)
  · refine lv_bipush (v := nI 32) hx hb dXM_cut_12 (by decide) ?_
    refine lv_goto (tgt := 20) hx hb dXM_cut_14 (by decide) ?_
    refine tp_i (nI (az_wl f1)) (congrArg nI (by first | (rw [c9]; rfl) | exact (az_wl_n c9).symm)) ?_
    refine lv_istore_n (lv' := [(2, .int (nI (az_wl f1))), (1, .int (nI 0)), (0, .ref m0)]) hx hb dXM_cut_20 rfl hl (by decide) rfl (fun ls hl => ?_)
    refine lv_aload_n hx hb dXM_cut_21 rfl (lv_at hl 2 rfl) ?_
    refine va_get (D := (dC, dI)) (ci := 2) (v := .ref ml) (C := RXM) (T := TXM) (N := 10) hx hb hts hiXM hown hK hP 0 rfl rfl 4 (by decide) hf19 (fun _ h9 => h9) rfl dXM_cut_22 ?_
    refine lv_iconst (v := nI 0) hx hb dXM_cut_25 (by decide) ?_
    refine ld_i hx hb hK hP 3 2 rfl rfl (by omega) (by omega) dXM_cut_26 ?_
    refine tp_i (nI l1) (hL0) ?_
    refine lv_istore_n (lv' := [(3, .int (nI l1)), (2, .int (nI (az_wl f1))), (1, .int (nI 0)), (0, .ref m0)]) hx hb dXM_cut_27 rfl hl (by decide) rfl (fun ls hl => ?_)
    exact jp28  _ _ (hP.sub [0, 1, 2, 3] rfl) (hD.sub [0, 1, 2, 3] (by decide) rfl) hS ls (lv_sub hl [3, 2, 1, 0] rfl)
