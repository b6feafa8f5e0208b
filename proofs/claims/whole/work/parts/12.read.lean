set_option maxRecDepth 100000 in
set_option maxHeartbeats 4000000 in
/-- readParts(from, to, first) -/
theorem ct_readParts (l : Launch) (dC : Nat → ClassId) (dI : Nat → Nat → Nat) (sz : Nat) (h0 ht hw a1 a2 a3 n w : Nat) (cT : ClassId) (f : Nat → Int32) (T : Nat → Nat) (hT : az_tp f T n) (hn : n ≤ 60) (fr to fs V : Nat) (hfr : fr < 2147483648) (hto : to ≤ n) (hV : V < 340282366920938463463374607431768211456) (hVz : V % 2 ^ (16 * (8 - fs)) = 0) (hcl : fs + az_cn T fr to ≤ 8) : Met l yX1_readParts wsX1_readParts ({ frames := 3, cells := 0, slots := 0, locals := 68 }) (wr_P (dC, dI) azCl [(h0, .inr (1, [.ref ht, .int (nI n), .ref hw, .int (nI w), .ref a1, .ref a2, .ref a3])), (ht, .inl (cT, 60, .inl f)), (a3, .inr (0, [.int (nI 6), .int (nI 128), .long (lN (V / 18446744073709551616)), .long (lN (V % 18446744073709551616))]))] [(cT, .byte)] sz [.ref h0, .int (nI fr), .int (nI to), .int (nI fs)]) (va_Qi (fun r u => u < 340282366920938463463374607431768211456 ∧ ((az_rv T n to (az_cn T fr to) fr fs V = none ∧ r = nI 0) ∨ (az_rv T n to (az_cn T fr to) fr fs V = some u ∧ r = nI 1 ∧ u % 2 ^ (16 * (8 - (fs + az_cn T fr to))) = 0))) (wr_B (dC, dI) azCl [(cT, .byte)] (va_A [(h0, .inr (1, [.ref ht, .int (nI n), .ref hw, .int (nI w), .ref a1, .ref a2, .ref a3])), (ht, .inl (cT, 60, .inl f)), (a3, .inr (0, [.int (nI 6), .int (nI 128), .long (lN (V / 18446744073709551616)), .long (lN (V % 18446744073709551616))]))] sz) (fun u : Nat => [(h0, .inr (1, [.ref ht, .int (nI n), .ref hw, .int (nI w), .ref a1, .ref a2, .ref a3])), (ht, .inl (cT, 60, .inl f)), (a3, .inr (0, [.int (nI 6), .int (nI 128), .long (lN (u / 18446744073709551616)), .long (lN (u % 18446744073709551616))]))])) (va_A [(h0, .inr (1, [.ref ht, .int (nI n), .ref hw, .int (nI w), .ref a1, .ref a2, .ref a3])), (ht, .inl (cT, 60, .inl f)), (a3, .inr (0, [.int (nI 6), .int (nI 128), .long (lN (V / 18446744073709551616)), .long (lN (V % 18446744073709551616))]))] sz)) 0 0 (va_A [(h0, .inr (1, [.ref ht, .int (nI n), .ref hw, .int (nI w), .ref a1, .ref a2, .ref a3])), (ht, .inl (cT, 60, .inl f)), (a3, .inr (0, [.int (nI 6), .int (nI 128), .long (lN (V / 18446744073709551616)), .long (lN (V % 18446744073709551616))]))] sz) := by
  refine Met.ofW (cc := cX1_readParts) (maxL := 9) (ret := (some .boolean)) (by decide) rfl ?_
  intro p e s m args below meth c s₁ Bd hml hv
  obtain ⟨rfl, hsz, hP, hK, hD0⟩ := hv
  have hx := Bd.exec
  have hb := Bd.bytes
  have hr := Bd.returns
  have hts := atoms_spec (ws := wsX1_readParts) Bd.pre
  have hown : s.vm.findClass RX1 = some m.cls := findClass_of_methodNamed Bd.named
  have hlocks := Bd.notSynchronized
  subst hsz
  have hD := hD0.self (sz := s.heap.size)
  generalize hAe : va_A [(h0, .inr (1, [.ref ht, .int (nI n), .ref hw, .int (nI w), .ref a1, .ref a2, .ref a3])), (ht, .inl (cT, 60, .inl f)), (a3, .inr (0, [.int (nI 6), .int (nI 128), .long (lN (V / 18446744073709551616)), .long (lN (V % 18446744073709551616))]))] s.heap.size = A at hD ⊢
  have hA : ∀ q : Nat, s.heap.size ≤ q → A q := fun q h => by rw [← hAe]; exact Or.inr h
  have hS : va_S A s.heap s.heap [] := va_S.rf
  have hP : va_P (dC, dI) azCl [(h0, .inr (1, [.ref ht, .int (nI n), .ref hw, .int (nI w), .ref a1, .ref a2, .ref a3])), (ht, .inl (cT, 60, .inl f)), (a3, .inr (0, [.int (nI 6), .int (nI 128), .long (lN (V / 18446744073709551616)), .long (lN (V % 18446744073709551616))]))] s.heap := hP
  have hiX1 : ∀ w ∈ wsX10, w ∈ wsX1_readParts := by decide +kernel
  have hf33 := hts (.fieldLink RX1 33 "AddressTexts" "spare" "LAddressTexts$Address;") (by decide +kernel)
  have hl := lv_entry ([.ref h0, .int (nI fr), .int (nI to), .int (nI fs)]) (n := 9) (Nat.le_of_ble_eq_true rfl)
  rw [lg_entry_eq]
  generalize (lg_sl ([.ref h0, .int (nI fr), .int (nI to), .int (nI fs)]) ++ List.replicate (9 - (lg_sl ([.ref h0, .int (nI fr), .int (nI to), .int (nI fs)])).length) Slot.unset).toArray = ls at hl ⊢
  have hl : lv_has ls 9 [(0, .ref h0), (1, .int (nI fr)), (2, .int (nI to)), (3, .int (nI fs))] := hl
  refine lv_aload_n hx hb dX1_readParts_0 rfl (lv_at hl 0 rfl) ?_
  refine lv_iload_n hx hb dX1_readParts_1 rfl (lv_at hl 1 rfl) ?_
  refine lv_iload_n hx hb dX1_readParts_2 rfl (lv_at hl 2 rfl) ?_
  refine rc_Vi (As := [.int (nI fr), .int (nI to)]) (rest := []) ⟨hx, hb, hml, hown, hts⟩ (ct_partsIn l dC dI h0 ht hw a1 a2 a3 n w cT f T hT hn fr to hfr hto) (cwV 2 hts gX1_readParts_X1_partsIn rfl rfl rfl (by decide +kernel) ⟨Nat.le_of_ble_eq_true rfl, Nat.le_of_ble_eq_true rfl⟩) (hP.sub [0, 1] rfl) (hK.sub [0] rfl) 0 rfl rfl rfl hl.1 rfl (Nat.le_of_ble_eq_true rfl) dX1_readParts_3 ⟨(Nat.zero_le _), (Nat.zero_le _)⟩ ?_
  refine lv_istore (lv' := [(4, .int (nI (az_cn T fr to))), (0, .ref h0), (1, .int (nI fr)), (2, .int (nI to)), (3, .int (nI fs))]) hx hb dX1_readParts_6 hl (by decide) rfl (fun ls hl => ?_)
  refine lv_iload_n hx hb dX1_readParts_8 rfl (lv_at hl 2 rfl) ?_
  refine lv_istore (lv' := [(5, .int (nI fr)), (4, .int (nI (az_cn T fr to))), (0, .ref h0), (1, .int (nI fr)), (2, .int (nI to)), (3, .int (nI fs))]) hx hb dX1_readParts_9 hl (by decide) rfl (fun ls hl => ?_)
  refine lv_iconst (v := nI 0) hx hb dX1_readParts_11 (by decide) ?_
  refine lv_istore (lv' := [(6, .int (nI 0)), (5, .int (nI fr)), (4, .int (nI (az_cn T fr to))), (0, .ref h0), (1, .int (nI fr)), (2, .int (nI to)), (3, .int (nI fs))]) hx hb dX1_readParts_12 hl (by decide) rfl (fun ls hl => ?_)
  have lp14 : ∀ (N : Nat) (k : Nat) (at_ : Nat) (v : Nat), (k ≤ az_cn T fr to) → (at_ < 2147483648) → (v < 340282366920938463463374607431768211456) → (v % 2 ^ (16 * (8 - (fs + k))) = 0) → (az_rv T n to (az_cn T fr to - k) at_ (fs + k) v = az_rv T n to (az_cn T fr to) fr fs V) → (az_cn T fr to - k) < N → ∀ (H : Heap) (locs : List Loc), va_P (dC, dI) azCl [(h0, .inr (1, [.ref ht, .int (nI n), .ref hw, .int (nI w), .ref a1, .ref a2, .ref a3])), (ht, .inl (cT, 60, .inl f)), (a3, .inr (0, [.int (nI 6), .int (nI 128), .long (lN (v / 18446744073709551616)), .long (lN (v % 18446744073709551616))]))] H → va_D A [(h0, .inr (1, [.ref ht, .int (nI n), .ref hw, .int (nI w), .ref a1, .ref a2, .ref a3])), (ht, .inl (cT, 60, .inl f)), (a3, .inr (0, [.int (nI 6), .int (nI 128), .long (lN (v / 18446744073709551616)), .long (lN (v % 18446744073709551616))]))] → va_S A s.heap H locs → ∀ (ls : Array Slot), lv_has ls 9 [(0, .ref h0), (1, .int (nI fr)), (2, .int (nI to)), (3, .int (nI fs)), (4, .int (nI (az_cn T fr to))), (5, .int (nI at_)), (6, .int (nI k))] → W p l e (headSpec wsX1_readParts ({ frames := 3, cells := 0, slots := 0, locals := 68 })).room s m ([.ref h0, .int (nI fr), .int (nI to), .int (nI fs)] : List Value).toArray below meth c H locs 0 0 (MQ below (va_Qi (fun r u => u < 340282366920938463463374607431768211456 ∧ ((az_rv T n to (az_cn T fr to) fr fs V = none ∧ r = nI 0) ∨ (az_rv T n to (az_cn T fr to) fr fs V = some u ∧ r = nI 1 ∧ u % 2 ^ (16 * (8 - (fs + az_cn T fr to))) = 0))) (wr_B (dC, dI) azCl [(cT, .byte)] A (fun u : Nat => [(h0, .inr (1, [.ref ht, .int (nI n), .ref hw, .int (nI w), .ref a1, .ref a2, .ref a3])), (ht, .inl (cT, 60, .inl f)), (a3, .inr (0, [.int (nI 6), .int (nI 128), .long (lN (u / 18446744073709551616)), .long (lN (u % 18446744073709551616))]))])) A) ([.ref h0, .int (nI fr), .int (nI to), .int (nI fs)] : List Value).toArray s 0 0 A) (F0 m 14 ls []) := by
    intro N
    induction N with
    | zero => intro k at_ v hk hat hv hvz hrv hN; exact absurd hN (Nat.not_lt_zero _)
    | succ N ih =>
      intro k at_ v hk hat hv hvz hrv hN H locs hP hD hS ls hl
      refine lv_iload hx hb dX1_readParts_14 (lv_at hl 6 rfl) ?_
      refine lv_iload hx hb dX1_readParts_16 (lv_at hl 4 rfl) ?_
      refine bn_ge (tgt := 78) hx hb dX1_readParts_18 (by decide) (by omega) (by omega) (fun c18 => ?_) (fun c18 => ?_)
      · refine lv_iconst (v := nI 1) hx hb dX1_readParts_78 (by decide) ?_
        exact wt_z hx hb hr (rfl) (v) (⟨hv, Or.inr ⟨by rw [← hrv, show az_cn T fr to - k = 0 by omega]; rfl, rfl, by rw [show fs + az_cn T fr to = fs + k by omega]; exact hvz⟩⟩) (hP.sub [0, 1, 2] rfl) hK (hD.sub [0, 1, 2] (by decide) rfl) hS dX1_readParts_79 hlocks
      · have hpl := az_pl_le (T := T) (n := n) (mk := 58) (i := at_)
        have hmin : min (az_pl T n 58 at_) to ≤ to := Nat.min_le_right _ _
        refine lv_aload_n hx hb dX1_readParts_21 rfl (lv_at hl 0 rfl) ?_
        refine lv_bipush (v := nI 58) hx hb dX1_readParts_22 (by decide) ?_
        refine lv_iload hx hb dX1_readParts_24 (lv_at hl 5 rfl) ?_
        refine rc_Vi (As := [.int (nI 58), .int (nI at_)]) (rest := []) ⟨hx, hb, hml, hown, hts⟩ (ct_placeOf l dC dI h0 ht hw a1 a2 a3 n w cT f T hT hn 58 at_ (by omega) hat) (cwV 2 hts gX1_readParts_X1_placeOf rfl rfl rfl (by decide +kernel) ⟨Nat.le_of_ble_eq_true rfl, Nat.le_of_ble_eq_true rfl⟩) (hP.sub [0, 1] rfl) (hK.sub [0] rfl) 0 rfl rfl rfl hl.1 rfl (Nat.le_of_ble_eq_true rfl) dX1_readParts_26 ⟨(Nat.zero_le _), (Nat.zero_le _)⟩ ?_
        refine lv_iload_n hx hb dX1_readParts_29 rfl (lv_at hl 2 rfl) ?_
        refine va_mmin hx hb (by rw [hml]; exact hl.1.symm) hown (hts (.methodLink RX1 113 Lib.Math.min.name) (by decide +kernel)) (hts (.static Lib.Math.min.name) (by decide +kernel)) (hts (.initialized "java/lang/Math") (by decide +kernel)) (hts (.code Lib.Math.min.name Lib.Math.min.code 2 (some .int)) (by decide +kernel)) (Nat.le_of_ble_eq_true rfl) (Nat.le_of_ble_eq_true rfl) (Nat.zero_le _) (Nat.zero_le _) dX1_readParts_30 ?_
        refine tp_i (nI (min (az_pl T n 58 at_) to)) (az_min (by omega) (by omega)) ?_
        refine lv_istore (lv' := [(7, .int (nI (min (az_pl T n 58 at_) to))), (0, .ref h0), (1, .int (nI fr)), (2, .int (nI to)), (3, .int (nI fs)), (4, .int (nI (az_cn T fr to))), (5, .int (nI at_)), (6, .int (nI k))]) hx hb dX1_readParts_33 hl (by decide) rfl (fun ls hl => ?_)
        refine lv_aload_n hx hb dX1_readParts_35 rfl (lv_at hl 1 rfl) ?_
        refine lv_iload hx hb dX1_readParts_36 (lv_at hl 6 rfl) ?_
        refine lv_iload hx hb dX1_readParts_38 (lv_at hl 0 rfl) ?_
        refine rc_Vi (As := [.int (nI at_), .int (nI (min (az_pl T n 58 at_) to))]) (rest := []) ⟨hx, hb, hml, hown, hts⟩ (ct_hexadecimalIn l dC dI h0 ht hw a1 a2 a3 n w cT f T hT hn at_ (min (az_pl T n 58 at_) to) hat (by omega)) (cwV 2 hts gX1_readParts_X1_hexadecimalIn rfl rfl rfl (by decide +kernel) ⟨Nat.le_of_ble_eq_true rfl, Nat.le_of_ble_eq_true rfl⟩) (hP.sub [0, 1] rfl) (hK.sub [0] rfl) 0 rfl rfl rfl hl.1 rfl (Nat.le_of_ble_eq_true rfl) dX1_readParts_40 ⟨(Nat.zero_le _), (Nat.zero_le _)⟩ ?_
        rcases hd : az_hx T at_ (min (az_pl T n 58 at_) to) with _ | pv
        · refine tp_i (-1) (rfl) ?_
          refine lv_istore (lv' := [(8, .int (-1)), (7, .int (nI (min (az_pl T n 58 at_) to))), (0, .ref h0), (1, .int (nI fr)), (2, .int (nI to)), (3, .int (nI fs)), (4, .int (nI (az_cn T fr to))), (5, .int (nI at_)), (6, .int (nI k))]) hx hb dX1_readParts_43 hl (by decide) rfl (fun ls hl => ?_)
          refine lv_iload hx hb dX1_readParts_45 (lv_at hl 0 rfl) ?_
          refine lv_iconst (v := -1) hx hb dX1_readParts_47 (by decide) ?_
          refine lv_icmp_ne (tgt := 53) hx hb dX1_readParts_48 (by decide) (fun c => absurd c (by decide)) (fun _ => ?_)
          refine lv_iconst (v := nI 0) hx hb dX1_readParts_51 (by decide) ?_
          exact wt_z hx hb hr (rfl) (v) (⟨hv, Or.inl ⟨by rw [← hrv, az_rv_bad c18 hd], rfl⟩⟩) (hP.sub [0, 1, 2] rfl) hK (hD.sub [0, 1, 2] (by decide) rfl) hS dX1_readParts_52 hlocks
        · have hpv := az_hx_lt hd
          have hsp : az_sp v (fs + k) pv < 340282366920938463463374607431768211456 ∧ az_sp v (fs + k) pv % 2 ^ (16 * (8 - (fs + (k + 1)))) = 0 := by rcases Nat.lt_or_ge (fs + k) 4 with q | q; exact (⟨(az_sp_u hv q hpv hvz).2.2.1, (az_sp_u hv q hpv hvz).2.2.2⟩); exact (⟨(az_sp_l hv q (by omega) hpv hvz).2.2.1, (az_sp_l hv q (by omega) hpv hvz).2.2.2⟩)
          refine tp_i (nI pv) (rfl) ?_
          refine lv_istore (lv' := [(8, .int (nI pv)), (7, .int (nI (min (az_pl T n 58 at_) to))), (0, .ref h0), (1, .int (nI fr)), (2, .int (nI to)), (3, .int (nI fs)), (4, .int (nI (az_cn T fr to))), (5, .int (nI at_)), (6, .int (nI k))]) hx hb dX1_readParts_43 hl (by decide) rfl (fun ls hl => ?_)
          refine lv_iload hx hb dX1_readParts_45 (lv_at hl 0 rfl) ?_
          refine lv_iconst (v := -1) hx hb dX1_readParts_47 (by decide) ?_
          refine lv_icmp_ne (tgt := 53) hx hb dX1_readParts_48 (by decide) (fun _ => ?_) (fun c => absurd c (nI_m1 (by omega)))
          refine lv_aload_n hx hb dX1_readParts_53 rfl (lv_at hl 2 rfl) ?_
          refine va_get (D := (dC, dI)) (ci := 1) (v := .ref a3) (C := RX1) (T := TX1) (N := 7) hx hb hts hiX1 hown hK hP 0 rfl rfl 6 (by decide) hf33 (fun _ h9 => h9) rfl dX1_readParts_54 ?_
          refine lv_iload_n hx hb dX1_readParts_57 rfl (lv_at hl 5 rfl) ?_
          refine lv_iload hx hb dX1_readParts_58 (lv_at hl 8 rfl) ?_
          refine lv_iadd hx hb dX1_readParts_60 ?_
          refine tp_i (nI (fs + k)) (nI_add _ _) ?_
          refine lv_iload hx hb dX1_readParts_61 (lv_at hl 0 rfl) ?_
          refine wc_Vv (As := [.int (nI (fs + k)), .int (nI pv)]) (rest := []) (wr := [(h0, .inr (1, [.ref ht, .int (nI n), .ref hw, .int (nI w), .ref a1, .ref a2, .ref a3])), (ht, .inl (cT, 60, .inl f))]) ⟨hx, hb, hml, hown, hts⟩ (ct_setPart l dC dI H.size a3 6 128 v (fs + k) pv hv (by omega) hpv hvz) (cwV 2 hts gX1_readParts_X0_setPart rfl rfl rfl (by decide +kernel) ⟨Nat.le_of_ble_eq_true rfl, Nat.le_of_ble_eq_true rfl⟩) hP hD hK hS hA [2] [0, 1] [] rfl rfl (by decide) (by decide) (by decide) rfl 0 rfl rfl rfl hl.1 rfl (Nat.le_of_ble_eq_true rfl) dX1_readParts_63 ⟨(Nat.zero_le _), (Nat.zero_le _)⟩ (fun u63 H locs hp63 hP hD hS => ?_)
          try dsimp only at hp63
          have hP : va_P (dC, dI) azCl [(h0, .inr (1, [.ref ht, .int (nI n), .ref hw, .int (nI w), .ref a1, .ref a2, .ref a3])), (ht, .inl (cT, 60, .inl f)), (a3, .inr (0, [.int (nI 6), .int (nI 128), .long (lN ((az_sp v (fs + k) pv) / 18446744073709551616)), .long (lN ((az_sp v (fs + k) pv) % 18446744073709551616))]))] H := hP
          have hD : va_D A [(h0, .inr (1, [.ref ht, .int (nI n), .ref hw, .int (nI w), .ref a1, .ref a2, .ref a3])), (ht, .inl (cT, 60, .inl f)), (a3, .inr (0, [.int (nI 6), .int (nI 128), .long (lN ((az_sp v (fs + k) pv) / 18446744073709551616)), .long (lN ((az_sp v (fs + k) pv) % 18446744073709551616))]))] := hD
          refine lv_iload hx hb dX1_readParts_66 (lv_at hl 1 rfl) ?_
          refine lv_iconst (v := nI 1) hx hb dX1_readParts_68 (by decide) ?_
          refine lv_iadd hx hb dX1_readParts_69 ?_
          refine tp_i (nI ((min (az_pl T n 58 at_) to) + 1)) (nI_add _ _) ?_
          refine lv_istore (lv' := [(5, .int (nI ((min (az_pl T n 58 at_) to) + 1))), (8, .int (nI pv)), (7, .int (nI (min (az_pl T n 58 at_) to))), (0, .ref h0), (1, .int (nI fr)), (2, .int (nI to)), (3, .int (nI fs)), (4, .int (nI (az_cn T fr to))), (6, .int (nI k))]) hx hb dX1_readParts_70 hl (by decide) rfl (fun ls hl => ?_)
          refine lv_iinc (v := nI (k + 1)) (lv' := [(6, .int (nI (k + 1))), (5, .int (nI ((min (az_pl T n 58 at_) to) + 1))), (8, .int (nI pv)), (7, .int (nI (min (az_pl T n 58 at_) to))), (0, .ref h0), (1, .int (nI fr)), (2, .int (nI to)), (3, .int (nI fs)), (4, .int (nI (az_cn T fr to)))]) hx hb dX1_readParts_72 hl (k := 8) rfl (nI_add _ 1) (by decide) rfl (fun ls hl => ?_)
          refine lv_goto (tgt := 14) hx hb dX1_readParts_75 (by decide) ?_
          exact ih (k + 1) (min (az_pl T n 58 at_) to + 1) (az_sp v (fs + k) pv) (by omega) (by omega) (hsp.1) (hsp.2) (by rw [← hrv, az_rv_step c18 hd]; rfl) (by omega) _ _ (hP.sub [0, 1, 2] rfl) (hD.sub [0, 1, 2] (by decide) rfl) hS ls (lv_sub hl [4, 5, 6, 7, 8, 1, 0] rfl)
  exact lp14 _ 0 fr V (Nat.zero_le _) (hfr) (hV) (hVz) (rfl) (Nat.lt_succ_self _) _ _ (hP.sub [0, 1, 2] rfl) (hD.sub [0, 1, 2] (by decide) rfl) hS ls (lv_sub hl [3, 4, 5, 6, 2, 1, 0] rfl)
set_option maxRecDepth 100000 in
set_option maxHeartbeats 4000000 in
/-- readSix() -/
theorem ct_readSix (l : Launch) (dC : Nat → ClassId) (dI : Nat → Nat → Nat) (sz : Nat) (h0 ht hw a1 a2 a3 n w : Nat) (cT : ClassId) (f : Nat → Int32) (T : Nat → Nat) (hT : az_tp f T n) (hn : n ≤ 60) (e1 e2 : Int32) (e3 e4 : Int64) : Met l yX1_readSix wsX1_readSix ({ frames := 4, cells := 0, slots := 0, locals := 96 }) (wr_P (dC, dI) azCl [(h0, .inr (1, [.ref ht, .int (nI n), .ref hw, .int (nI w), .ref a1, .ref a2, .ref a3])), (ht, .inl (cT, 60, .inl f)), (a3, .inr (0, [.int e1, .int e2, .long e3, .long e4]))] [(cT, .byte)] sz [.ref h0]) (va_Qi (fun r u => u < 340282366920938463463374607431768211456 ∧ ((az_six T n = none ∧ r = nI 0) ∨ (az_six T n = some u ∧ r = nI 1))) (wr_B (dC, dI) azCl [(cT, .byte)] (va_A [(h0, .inr (1, [.ref ht, .int (nI n), .ref hw, .int (nI w), .ref a1, .ref a2, .ref a3])), (ht, .inl (cT, 60, .inl f)), (a3, .inr (0, [.int e1, .int e2, .long e3, .long e4]))] sz) (fun u : Nat => [(h0, .inr (1, [.ref ht, .int (nI n), .ref hw, .int (nI w), .ref a1, .ref a2, .ref a3])), (ht, .inl (cT, 60, .inl f)), (a3, .inr (0, [.int (nI 6), .int (nI 128), .long (lN (u / 18446744073709551616)), .long (lN (u % 18446744073709551616))]))])) (va_A [(h0, .inr (1, [.ref ht, .int (nI n), .ref hw, .int (nI w), .ref a1, .ref a2, .ref a3])), (ht, .inl (cT, 60, .inl f)), (a3, .inr (0, [.int e1, .int e2, .long e3, .long e4]))] sz)) 0 0 (va_A [(h0, .inr (1, [.ref ht, .int (nI n), .ref hw, .int (nI w), .ref a1, .ref a2, .ref a3])), (ht, .inl (cT, 60, .inl f)), (a3, .inr (0, [.int e1, .int e2, .long e3, .long e4]))] sz) := by
  refine Met.ofW (cc := cX1_readSix) (maxL := 5) (ret := (some .boolean)) (by decide) rfl ?_
  intro p e s m args below meth c s₁ Bd hml hv
  obtain ⟨rfl, hsz, hP, hK, hD0⟩ := hv
  have hx := Bd.exec
  have hb := Bd.bytes
  have hr := Bd.returns
  have hts := atoms_spec (ws := wsX1_readSix) Bd.pre
  have hown : s.vm.findClass RX1 = some m.cls := findClass_of_methodNamed Bd.named
  have hlocks := Bd.notSynchronized
  subst hsz
  have hD := hD0.self (sz := s.heap.size)
  generalize hAe : va_A [(h0, .inr (1, [.ref ht, .int (nI n), .ref hw, .int (nI w), .ref a1, .ref a2, .ref a3])), (ht, .inl (cT, 60, .inl f)), (a3, .inr (0, [.int e1, .int e2, .long e3, .long e4]))] s.heap.size = A at hD ⊢
  have hA : ∀ q : Nat, s.heap.size ≤ q → A q := fun q h => by rw [← hAe]; exact Or.inr h
  have hS : va_S A s.heap s.heap [] := va_S.rf
  have hP : va_P (dC, dI) azCl [(h0, .inr (1, [.ref ht, .int (nI n), .ref hw, .int (nI w), .ref a1, .ref a2, .ref a3])), (ht, .inl (cT, 60, .inl f)), (a3, .inr (0, [.int e1, .int e2, .long e3, .long e4]))] s.heap := hP
  have hiX1 : ∀ w ∈ wsX10, w ∈ wsX1_readSix := by decide +kernel
  have hf33 := hts (.fieldLink RX1 33 "AddressTexts" "spare" "LAddressTexts$Address;") (by decide +kernel)
  have hf13 := hts (.fieldLink RX1 13 "AddressTexts" "tapeCount" "I") (by decide +kernel)
  have hl := lv_entry ([.ref h0]) (n := 5) (Nat.le_of_ble_eq_true rfl)
  rw [lg_entry_eq]
  generalize (lg_sl ([.ref h0]) ++ List.replicate (5 - (lg_sl ([.ref h0])).length) Slot.unset).toArray = ls at hl ⊢
  have hl : lv_has ls 5 [(0, .ref h0)] := hl
  refine lv_aload_n hx hb dX1_readSix_0 rfl (lv_at hl 0 rfl) ?_
  refine va_get (D := (dC, dI)) (ci := 1) (v := .ref a3) (C := RX1) (T := TX1) (N := 7) hx hb hts hiX1 hown hK hP 0 rfl rfl 6 (by decide) hf33 (fun _ h9 => h9) rfl dX1_readSix_1 ?_
  refine lv_bipush (v := nI 6) hx hb dX1_readSix_4 (by decide) ?_
  refine wc_Vv (As := [.int (nI 6)]) (rest := []) (wr := [(h0, .inr (1, [.ref ht, .int (nI n), .ref hw, .int (nI w), .ref a1, .ref a2, .ref a3])), (ht, .inl (cT, 60, .inl f))]) ⟨hx, hb, hml, hown, hts⟩ (ct_clear l dC dI s.heap.size a3 6 e1 e2 e3 e4 (by omega)) (cwV 1 hts gX1_readSix_X0_clear rfl rfl rfl (by decide +kernel) ⟨Nat.le_of_ble_eq_true rfl, Nat.le_of_ble_eq_true rfl⟩) hP hD hK hS hA [2] [0, 1] [] rfl rfl (by decide) (by decide) (by decide) rfl 0 rfl rfl rfl hl.1 rfl (Nat.le_of_ble_eq_true rfl) dX1_readSix_6 ⟨(Nat.zero_le _), (Nat.zero_le _)⟩ (fun u0 H locs hp0 hP hD hS => ?_)
  try dsimp only at hp0
  have hP : va_P (dC, dI) azCl [(h0, .inr (1, [.ref ht, .int (nI n), .ref hw, .int (nI w), .ref a1, .ref a2, .ref a3])), (ht, .inl (cT, 60, .inl f)), (a3, .inr (0, [.int (nI 6), .int (nI 128), .long (lN (0 / 18446744073709551616)), .long (lN (0 % 18446744073709551616))]))] H := hP
  have hD : va_D A [(h0, .inr (1, [.ref ht, .int (nI n), .ref hw, .int (nI w), .ref a1, .ref a2, .ref a3])), (ht, .inl (cT, 60, .inl f)), (a3, .inr (0, [.int (nI 6), .int (nI 128), .long (lN (0 / 18446744073709551616)), .long (lN (0 % 18446744073709551616))]))] := hD
  have hgl := az_gp_le (T := T) (n := n) (i := 0)
  have hca := az_cn_le (T := T) (fr := 0) (to := az_gp T n 0)
  have hcb := az_cn_le (T := T) (fr := az_gp T n 0 + 2) (to := n)
  refine lv_aload_n hx hb dX1_readSix_9 rfl (lv_at hl 0 rfl) ?_
  refine rc_Vi (As := []) (rest := []) ⟨hx, hb, hml, hown, hts⟩ (ct_placeOfGap l dC dI h0 ht hw a1 a2 a3 n w cT f T hT hn) (cwV 0 hts gX1_readSix_X1_placeOfGap rfl rfl rfl (by decide +kernel) ⟨Nat.le_of_ble_eq_true rfl, Nat.le_of_ble_eq_true rfl⟩) (hP.sub [0, 1] rfl) (hK.sub [0] rfl) 0 rfl rfl rfl hl.1 rfl (Nat.le_of_ble_eq_true rfl) dX1_readSix_10 ⟨(Nat.zero_le _), (Nat.zero_le _)⟩ ?_
  refine lv_istore_n (lv' := [(1, .int (nI (az_gp T n 0))), (0, .ref h0)]) hx hb dX1_readSix_13 rfl hl (by decide) rfl (fun ls hl => ?_)
  refine lv_aload_n hx hb dX1_readSix_14 rfl (lv_at hl 1 rfl) ?_
  refine lv_iconst (v := nI 0) hx hb dX1_readSix_15 (by decide) ?_
  refine lv_iload_n hx hb dX1_readSix_16 rfl (lv_at hl 0 rfl) ?_
  refine rc_Vi (As := [.int (nI 0), .int (nI (az_gp T n 0))]) (rest := []) ⟨hx, hb, hml, hown, hts⟩ (ct_partsIn l dC dI h0 ht hw a1 a2 a3 n w cT f T hT hn 0 (az_gp T n 0) (by omega) hgl) (cwV 2 hts gX1_readSix_X1_partsIn rfl rfl rfl (by decide +kernel) ⟨Nat.le_of_ble_eq_true rfl, Nat.le_of_ble_eq_true rfl⟩) (hP.sub [0, 1] rfl) (hK.sub [0] rfl) 0 rfl rfl rfl hl.1 rfl (Nat.le_of_ble_eq_true rfl) dX1_readSix_17 ⟨(Nat.zero_le _), (Nat.zero_le _)⟩ ?_
  refine lv_istore_n (lv' := [(2, .int (nI (az_cn T 0 (az_gp T n 0)))), (1, .int (nI (az_gp T n 0))), (0, .ref h0)]) hx hb dX1_readSix_20 rfl hl (by decide) rfl (fun ls hl => ?_)
  refine lv_aload_n hx hb dX1_readSix_21 rfl (lv_at hl 2 rfl) ?_
  refine lv_iload_n hx hb dX1_readSix_22 rfl (lv_at hl 1 rfl) ?_
  refine lv_iconst (v := nI 2) hx hb dX1_readSix_23 (by decide) ?_
  refine lv_iadd hx hb dX1_readSix_24 ?_
  refine tp_i (nI ((az_gp T n 0) + 2)) (nI_add _ _) ?_
  refine lv_aload_n hx hb dX1_readSix_25 rfl (lv_at hl 2 rfl) ?_
  refine va_get (D := (dC, dI)) (ci := 1) (v := .int (nI n)) (C := RX1) (T := TX1) (N := 7) hx hb hts hiX1 hown hK hP 0 rfl rfl 1 (by decide) hf13 (fun _ h9 => h9) rfl dX1_readSix_26 ?_
  refine rc_Vi (As := [.int (nI ((az_gp T n 0) + 2)), .int (nI n)]) (rest := []) ⟨hx, hb, hml, hown, hts⟩ (ct_partsIn l dC dI h0 ht hw a1 a2 a3 n w cT f T hT hn (az_gp T n 0 + 2) n (by omega) (Nat.le_refl _)) (cwV 2 hts gX1_readSix_X1_partsIn rfl rfl rfl (by decide +kernel) ⟨Nat.le_of_ble_eq_true rfl, Nat.le_of_ble_eq_true rfl⟩) (hP.sub [0, 1] rfl) (hK.sub [0] rfl) 0 rfl rfl rfl hl.1 rfl (Nat.le_of_ble_eq_true rfl) dX1_readSix_29 ⟨(Nat.zero_le _), (Nat.zero_le _)⟩ ?_
  refine lv_istore_n (lv' := [(3, .int (nI (az_cn T (az_gp T n 0 + 2) n))), (2, .int (nI (az_cn T 0 (az_gp T n 0)))), (1, .int (nI (az_gp T n 0))), (0, .ref h0)]) hx hb dX1_readSix_32 rfl hl (by decide) rfl (fun ls hl => ?_)
  refine lv_iload_n hx hb dX1_readSix_33 rfl (lv_at hl 2 rfl) ?_
  refine lv_aload_n hx hb dX1_readSix_34 rfl (lv_at hl 3 rfl) ?_
  refine va_get (D := (dC, dI)) (ci := 1) (v := .int (nI n)) (C := RX1) (T := TX1) (N := 7) hx hb hts hiX1 hown hK hP 0 rfl rfl 1 (by decide) hf13 (fun _ h9 => h9) rfl dX1_readSix_35 ?_
  refine bn_ge (tgt := 57) hx hb dX1_readSix_38 (by decide) (by omega) (by omega) (fun c38 => ?_) (fun c38 => ?_)
  · refine lv_iload_n hx hb dX1_readSix_57 rfl (lv_at hl 1 rfl) ?_
    refine lv_bipush (v := nI 8) hx hb dX1_readSix_58 (by decide) ?_
    refine bn_ne (tgt := 67) hx hb dX1_readSix_60 (by decide) (by omega) (by omega) (fun c60 => ?_) (fun c60 => ?_)
    · refine lv_iconst (v := nI 0) hx hb dX1_readSix_67 (by decide) ?_
      refine lv_istore (lv' := [(4, .int (nI 0)), (3, .int (nI (az_cn T (az_gp T n 0 + 2) n))), (2, .int (nI (az_cn T 0 (az_gp T n 0)))), (1, .int (nI (az_gp T n 0))), (0, .ref h0)]) hx hb dX1_readSix_68 hl (by decide) rfl (fun ls hl => ?_)
      refine lv_iload hx hb dX1_readSix_70 (lv_at hl 0 rfl) ?_
      refine lv_if_eq (tgt := 107) hx hb dX1_readSix_72 (by decide) (fun _ => ?_) (fun c => absurd c (by decide))
      refine lv_iconst (v := nI 0) hx hb dX1_readSix_107 (by decide) ?_
      exact wt_z hx hb hr (rfl) (0) (⟨by omega, Or.inl ⟨by unfold az_six; rw [if_neg (by omega)], rfl⟩⟩) (hP.sub [0, 1, 2] rfl) hK (hD.sub [0, 1, 2] (by decide) rfl) hS dX1_readSix_108 hlocks
    · refine lv_iconst (v := nI 1) hx hb dX1_readSix_63 (by decide) ?_
      refine lv_goto (tgt := 68) hx hb dX1_readSix_64 (by decide) ?_
      refine lv_istore (lv' := [(4, .int (nI 1)), (3, .int (nI (az_cn T (az_gp T n 0 + 2) n))), (2, .int (nI (az_cn T 0 (az_gp T n 0)))), (1, .int (nI (az_gp T n 0))), (0, .ref h0)]) hx hb dX1_readSix_68 hl (by decide) rfl (fun ls hl => ?_)
      refine lv_iload hx hb dX1_readSix_70 (lv_at hl 0 rfl) ?_
      refine lv_if_eq (tgt := 107) hx hb dX1_readSix_72 (by decide) (fun c => absurd c (by decide)) (fun _ => ?_)
      refine lv_aload_n hx hb dX1_readSix_75 rfl (lv_at hl 4 rfl) ?_
      refine lv_iconst (v := nI 0) hx hb dX1_readSix_76 (by decide) ?_
      refine lv_iload_n hx hb dX1_readSix_77 rfl (lv_at hl 3 rfl) ?_
      refine lv_iconst (v := nI 0) hx hb dX1_readSix_78 (by decide) ?_
      refine wc_Vi (As := [.int (nI 0), .int (nI (az_gp T n 0)), .int (nI 0)]) (rest := []) (wr := []) ⟨hx, hb, hml, hown, hts⟩ (ct_readParts l dC dI H.size h0 ht hw a1 a2 a3 n w cT f T hT hn 0 (az_gp T n 0) 0 0 (by omega) (by omega) (by omega) (by decide) (by omega)) (cwV 3 hts gX1_readSix_X1_readParts rfl rfl rfl (by decide +kernel) ⟨Nat.le_of_ble_eq_true rfl, Nat.le_of_ble_eq_true rfl⟩) hP hD hK hS hA [0, 1, 2] [] [0] rfl rfl (by decide) (by decide) (by decide) rfl 0 rfl rfl rfl hl.1 rfl (Nat.le_of_ble_eq_true rfl) dX1_readSix_79 ⟨(Nat.zero_le _), (Nat.zero_le _)⟩ (fun r1 v1 H locs hp1 hP hD hS => ?_)
      try dsimp only at hp1
      have hP : va_P (dC, dI) azCl [(h0, .inr (1, [.ref ht, .int (nI n), .ref hw, .int (nI w), .ref a1, .ref a2, .ref a3])), (ht, .inl (cT, 60, .inl f)), (a3, .inr (0, [.int (nI 6), .int (nI 128), .long (lN (v1 / 18446744073709551616)), .long (lN (v1 % 18446744073709551616))]))] H := hP
      have hD : va_D A [(h0, .inr (1, [.ref ht, .int (nI n), .ref hw, .int (nI w), .ref a1, .ref a2, .ref a3])), (ht, .inl (cT, 60, .inl f)), (a3, .inr (0, [.int (nI 6), .int (nI 128), .long (lN (v1 / 18446744073709551616)), .long (lN (v1 % 18446744073709551616))]))] := hD
      obtain ⟨hu1, ⟨ea1, er1⟩ | ⟨ea1, er1, ez1⟩⟩ := hp1
      · subst er1
        refine lv_if_eq (tgt := 107) hx hb dX1_readSix_82 (by decide) (fun _ => ?_) (fun c => absurd c (by decide))
        refine lv_iconst (v := nI 0) hx hb dX1_readSix_107 (by decide) ?_
        exact wt_z hx hb hr (rfl) (v1) (⟨hu1, Or.inl ⟨by unfold az_six; rw [if_pos (by omega), ea1], rfl⟩⟩) (hP.sub [0, 1, 2] rfl) hK (hD.sub [0, 1, 2] (by decide) rfl) hS dX1_readSix_108 hlocks
      · subst er1
        refine lv_if_eq (tgt := 107) hx hb dX1_readSix_82 (by decide) (fun c => absurd c (by decide)) (fun _ => ?_)
        refine lv_aload_n hx hb dX1_readSix_85 rfl (lv_at hl 4 rfl) ?_
        refine lv_iload_n hx hb dX1_readSix_86 rfl (lv_at hl 3 rfl) ?_
        refine lv_iconst (v := nI 2) hx hb dX1_readSix_87 (by decide) ?_
        refine lv_iadd hx hb dX1_readSix_88 ?_
        refine tp_i (nI ((az_gp T n 0) + 2)) (nI_add _ _) ?_
        refine lv_aload_n hx hb dX1_readSix_89 rfl (lv_at hl 4 rfl) ?_
        refine va_get (D := (dC, dI)) (ci := 1) (v := .int (nI n)) (C := RX1) (T := TX1) (N := 7) hx hb hts hiX1 hown hK hP 0 rfl rfl 1 (by decide) hf13 (fun _ h9 => h9) rfl dX1_readSix_90 ?_
        refine lv_bipush (v := nI 8) hx hb dX1_readSix_93 (by decide) ?_
        refine lv_iload_n hx hb dX1_readSix_95 rfl (lv_at hl 1 rfl) ?_
        have h8 : az_cn T (az_gp T n 0 + 2) n ≤ 8 := by first | omega | (rw [az_cn_0 (by omega)]; omega)
        refine lv_isub hx hb dX1_readSix_96 ?_
        refine tp_i (nI (8 - (az_cn T (az_gp T n 0 + 2) n))) (pk_sub (by omega)) ?_
        refine wc_Vi (As := [.int (nI ((az_gp T n 0) + 2)), .int (nI n), .int (nI (8 - (az_cn T (az_gp T n 0 + 2) n)))]) (rest := []) (wr := []) ⟨hx, hb, hml, hown, hts⟩ (ct_readParts l dC dI H.size h0 ht hw a1 a2 a3 n w cT f T hT hn (az_gp T n 0 + 2) n (8 - az_cn T (az_gp T n 0 + 2) n) v1 (by omega) (by omega) hu1 (az_mono ez1 (by first | omega | (rw [az_cn_0 (T := T) (fr := az_gp T n 0 + 2) (to := n) (by omega)]; omega))) (by omega)) (cwV 3 hts gX1_readSix_X1_readParts rfl rfl rfl (by decide +kernel) ⟨Nat.le_of_ble_eq_true rfl, Nat.le_of_ble_eq_true rfl⟩) hP hD hK hS hA [0, 1, 2] [] [0] rfl rfl (by decide) (by decide) (by decide) rfl 0 rfl rfl rfl hl.1 rfl (Nat.le_of_ble_eq_true rfl) dX1_readSix_97 ⟨(Nat.zero_le _), (Nat.zero_le _)⟩ (fun r2 v2 H locs hp2 hP hD hS => ?_)
        try dsimp only at hp2
        have hP : va_P (dC, dI) azCl [(h0, .inr (1, [.ref ht, .int (nI n), .ref hw, .int (nI w), .ref a1, .ref a2, .ref a3])), (ht, .inl (cT, 60, .inl f)), (a3, .inr (0, [.int (nI 6), .int (nI 128), .long (lN (v2 / 18446744073709551616)), .long (lN (v2 % 18446744073709551616))]))] H := hP
        have hD : va_D A [(h0, .inr (1, [.ref ht, .int (nI n), .ref hw, .int (nI w), .ref a1, .ref a2, .ref a3])), (ht, .inl (cT, 60, .inl f)), (a3, .inr (0, [.int (nI 6), .int (nI 128), .long (lN (v2 / 18446744073709551616)), .long (lN (v2 % 18446744073709551616))]))] := hD
        obtain ⟨hu2, ⟨ea2, er2⟩ | ⟨ea2, er2, ez2⟩⟩ := hp2
        · subst er2
          refine lv_if_eq (tgt := 107) hx hb dX1_readSix_100 (by decide) (fun _ => ?_) (fun c => absurd c (by decide))
          refine lv_iconst (v := nI 0) hx hb dX1_readSix_107 (by decide) ?_
          exact wt_z hx hb hr (rfl) (v2) (⟨hu2, Or.inl ⟨by unfold az_six; rw [if_pos (by omega), ea1]; exact ea2, rfl⟩⟩) (hP.sub [0, 1, 2] rfl) hK (hD.sub [0, 1, 2] (by decide) rfl) hS dX1_readSix_108 hlocks
        · subst er2
          refine lv_if_eq (tgt := 107) hx hb dX1_readSix_100 (by decide) (fun c => absurd c (by decide)) (fun _ => ?_)
          refine lv_iconst (v := nI 1) hx hb dX1_readSix_103 (by decide) ?_
          refine lv_goto (tgt := 108) hx hb dX1_readSix_104 (by decide) ?_
          exact wt_z hx hb hr (rfl) (v2) (⟨hu2, Or.inr ⟨by unfold az_six; rw [if_pos (by omega), ea1]; exact ea2, rfl⟩⟩) (hP.sub [0, 1, 2] rfl) hK (hD.sub [0, 1, 2] (by decide) rfl) hS dX1_readSix_108 hlocks
  · refine lv_iload_n hx hb dX1_readSix_41 rfl (lv_at hl 1 rfl) ?_
    refine lv_iload_n hx hb dX1_readSix_42 rfl (lv_at hl 0 rfl) ?_
    refine lv_iadd hx hb dX1_readSix_43 ?_
    refine tp_i (nI ((az_cn T 0 (az_gp T n 0)) + (az_cn T (az_gp T n 0 + 2) n))) (nI_add _ _) ?_
    refine lv_bipush (v := nI 8) hx hb dX1_readSix_44 (by decide) ?_
    refine bn_ge (tgt := 53) hx hb dX1_readSix_46 (by decide) (by omega) (by omega) (fun c46 => ?_) (fun c46 => ?_)
    · refine lv_iconst (v := nI 0) hx hb dX1_readSix_53 (by decide) ?_
      refine lv_goto (tgt := 68) hx hb dX1_readSix_54 (by decide) ?_
      refine lv_istore (lv' := [(4, .int (nI 0)), (3, .int (nI (az_cn T (az_gp T n 0 + 2) n))), (2, .int (nI (az_cn T 0 (az_gp T n 0)))), (1, .int (nI (az_gp T n 0))), (0, .ref h0)]) hx hb dX1_readSix_68 hl (by decide) rfl (fun ls hl => ?_)
      refine lv_iload hx hb dX1_readSix_70 (lv_at hl 0 rfl) ?_
      refine lv_if_eq (tgt := 107) hx hb dX1_readSix_72 (by decide) (fun _ => ?_) (fun c => absurd c (by decide))
      refine lv_iconst (v := nI 0) hx hb dX1_readSix_107 (by decide) ?_
      exact wt_z hx hb hr (rfl) (0) (⟨by omega, Or.inl ⟨by unfold az_six; rw [if_neg (by omega)], rfl⟩⟩) (hP.sub [0, 1, 2] rfl) hK (hD.sub [0, 1, 2] (by decide) rfl) hS dX1_readSix_108 hlocks
    · refine lv_iconst (v := nI 1) hx hb dX1_readSix_49 (by decide) ?_
      refine lv_goto (tgt := 68) hx hb dX1_readSix_50 (by decide) ?_
      refine lv_istore (lv' := [(4, .int (nI 1)), (3, .int (nI (az_cn T (az_gp T n 0 + 2) n))), (2, .int (nI (az_cn T 0 (az_gp T n 0)))), (1, .int (nI (az_gp T n 0))), (0, .ref h0)]) hx hb dX1_readSix_68 hl (by decide) rfl (fun ls hl => ?_)
      refine lv_iload hx hb dX1_readSix_70 (lv_at hl 0 rfl) ?_
      refine lv_if_eq (tgt := 107) hx hb dX1_readSix_72 (by decide) (fun c => absurd c (by decide)) (fun _ => ?_)
      refine lv_aload_n hx hb dX1_readSix_75 rfl (lv_at hl 4 rfl) ?_
      refine lv_iconst (v := nI 0) hx hb dX1_readSix_76 (by decide) ?_
      refine lv_iload_n hx hb dX1_readSix_77 rfl (lv_at hl 3 rfl) ?_
      refine lv_iconst (v := nI 0) hx hb dX1_readSix_78 (by decide) ?_
      refine wc_Vi (As := [.int (nI 0), .int (nI (az_gp T n 0)), .int (nI 0)]) (rest := []) (wr := []) ⟨hx, hb, hml, hown, hts⟩ (ct_readParts l dC dI H.size h0 ht hw a1 a2 a3 n w cT f T hT hn 0 (az_gp T n 0) 0 0 (by omega) (by omega) (by omega) (by decide) (by omega)) (cwV 3 hts gX1_readSix_X1_readParts rfl rfl rfl (by decide +kernel) ⟨Nat.le_of_ble_eq_true rfl, Nat.le_of_ble_eq_true rfl⟩) hP hD hK hS hA [0, 1, 2] [] [0] rfl rfl (by decide) (by decide) (by decide) rfl 0 rfl rfl rfl hl.1 rfl (Nat.le_of_ble_eq_true rfl) dX1_readSix_79 ⟨(Nat.zero_le _), (Nat.zero_le _)⟩ (fun r1 v1 H locs hp1 hP hD hS => ?_)
      try dsimp only at hp1
      have hP : va_P (dC, dI) azCl [(h0, .inr (1, [.ref ht, .int (nI n), .ref hw, .int (nI w), .ref a1, .ref a2, .ref a3])), (ht, .inl (cT, 60, .inl f)), (a3, .inr (0, [.int (nI 6), .int (nI 128), .long (lN (v1 / 18446744073709551616)), .long (lN (v1 % 18446744073709551616))]))] H := hP
      have hD : va_D A [(h0, .inr (1, [.ref ht, .int (nI n), .ref hw, .int (nI w), .ref a1, .ref a2, .ref a3])), (ht, .inl (cT, 60, .inl f)), (a3, .inr (0, [.int (nI 6), .int (nI 128), .long (lN (v1 / 18446744073709551616)), .long (lN (v1 % 18446744073709551616))]))] := hD
      obtain ⟨hu1, ⟨ea1, er1⟩ | ⟨ea1, er1, ez1⟩⟩ := hp1
      · subst er1
        refine lv_if_eq (tgt := 107) hx hb dX1_readSix_82 (by decide) (fun _ => ?_) (fun c => absurd c (by decide))
        refine lv_iconst (v := nI 0) hx hb dX1_readSix_107 (by decide) ?_
        exact wt_z hx hb hr (rfl) (v1) (⟨hu1, Or.inl ⟨by unfold az_six; rw [if_pos (by omega), ea1], rfl⟩⟩) (hP.sub [0, 1, 2] rfl) hK (hD.sub [0, 1, 2] (by decide) rfl) hS dX1_readSix_108 hlocks
      · subst er1
        refine lv_if_eq (tgt := 107) hx hb dX1_readSix_82 (by decide) (fun c => absurd c (by decide)) (fun _ => ?_)
        refine lv_aload_n hx hb dX1_readSix_85 rfl (lv_at hl 4 rfl) ?_
        refine lv_iload_n hx hb dX1_readSix_86 rfl (lv_at hl 3 rfl) ?_
        refine lv_iconst (v := nI 2) hx hb dX1_readSix_87 (by decide) ?_
        refine lv_iadd hx hb dX1_readSix_88 ?_
        refine tp_i (nI ((az_gp T n 0) + 2)) (nI_add _ _) ?_
        refine lv_aload_n hx hb dX1_readSix_89 rfl (lv_at hl 4 rfl) ?_
        refine va_get (D := (dC, dI)) (ci := 1) (v := .int (nI n)) (C := RX1) (T := TX1) (N := 7) hx hb hts hiX1 hown hK hP 0 rfl rfl 1 (by decide) hf13 (fun _ h9 => h9) rfl dX1_readSix_90 ?_
        refine lv_bipush (v := nI 8) hx hb dX1_readSix_93 (by decide) ?_
        refine lv_iload_n hx hb dX1_readSix_95 rfl (lv_at hl 1 rfl) ?_
        have h8 : az_cn T (az_gp T n 0 + 2) n ≤ 8 := by first | omega | (rw [az_cn_0 (by omega)]; omega)
        refine lv_isub hx hb dX1_readSix_96 ?_
        refine tp_i (nI (8 - (az_cn T (az_gp T n 0 + 2) n))) (pk_sub (by omega)) ?_
        refine wc_Vi (As := [.int (nI ((az_gp T n 0) + 2)), .int (nI n), .int (nI (8 - (az_cn T (az_gp T n 0 + 2) n)))]) (rest := []) (wr := []) ⟨hx, hb, hml, hown, hts⟩ (ct_readParts l dC dI H.size h0 ht hw a1 a2 a3 n w cT f T hT hn (az_gp T n 0 + 2) n (8 - az_cn T (az_gp T n 0 + 2) n) v1 (by omega) (by omega) hu1 (az_mono ez1 (by first | omega | (rw [az_cn_0 (T := T) (fr := az_gp T n 0 + 2) (to := n) (by omega)]; omega))) (by omega)) (cwV 3 hts gX1_readSix_X1_readParts rfl rfl rfl (by decide +kernel) ⟨Nat.le_of_ble_eq_true rfl, Nat.le_of_ble_eq_true rfl⟩) hP hD hK hS hA [0, 1, 2] [] [0] rfl rfl (by decide) (by decide) (by decide) rfl 0 rfl rfl rfl hl.1 rfl (Nat.le_of_ble_eq_true rfl) dX1_readSix_97 ⟨(Nat.zero_le _), (Nat.zero_le _)⟩ (fun r2 v2 H locs hp2 hP hD hS => ?_)
        try dsimp only at hp2
        have hP : va_P (dC, dI) azCl [(h0, .inr (1, [.ref ht, .int (nI n), .ref hw, .int (nI w), .ref a1, .ref a2, .ref a3])), (ht, .inl (cT, 60, .inl f)), (a3, .inr (0, [.int (nI 6), .int (nI 128), .long (lN (v2 / 18446744073709551616)), .long (lN (v2 % 18446744073709551616))]))] H := hP
        have hD : va_D A [(h0, .inr (1, [.ref ht, .int (nI n), .ref hw, .int (nI w), .ref a1, .ref a2, .ref a3])), (ht, .inl (cT, 60, .inl f)), (a3, .inr (0, [.int (nI 6), .int (nI 128), .long (lN (v2 / 18446744073709551616)), .long (lN (v2 % 18446744073709551616))]))] := hD
        obtain ⟨hu2, ⟨ea2, er2⟩ | ⟨ea2, er2, ez2⟩⟩ := hp2
        · subst er2
          refine lv_if_eq (tgt := 107) hx hb dX1_readSix_100 (by decide) (fun _ => ?_) (fun c => absurd c (by decide))
          refine lv_iconst (v := nI 0) hx hb dX1_readSix_107 (by decide) ?_
          exact wt_z hx hb hr (rfl) (v2) (⟨hu2, Or.inl ⟨by unfold az_six; rw [if_pos (by omega), ea1]; exact ea2, rfl⟩⟩) (hP.sub [0, 1, 2] rfl) hK (hD.sub [0, 1, 2] (by decide) rfl) hS dX1_readSix_108 hlocks
        · subst er2
          refine lv_if_eq (tgt := 107) hx hb dX1_readSix_100 (by decide) (fun c => absurd c (by decide)) (fun _ => ?_)
          refine lv_iconst (v := nI 1) hx hb dX1_readSix_103 (by decide) ?_
          refine lv_goto (tgt := 108) hx hb dX1_readSix_104 (by decide) ?_
          exact wt_z hx hb hr (rfl) (v2) (⟨hu2, Or.inr ⟨by unfold az_six; rw [if_pos (by omega), ea1]; exact ea2, rfl⟩⟩) (hP.sub [0, 1, 2] rfl) hK (hD.sub [0, 1, 2] (by decide) rfl) hS dX1_readSix_108 hlocks
set_option maxRecDepth 100000 in
set_option maxHeartbeats 4000000 in
/-- readFour() -/
theorem ct_readFour (l : Launch) (dC : Nat → ClassId) (dI : Nat → Nat → Nat) (sz : Nat) (h0 ht hw a1 a2 a3 n w : Nat) (cT : ClassId) (f : Nat → Int32) (T : Nat → Nat) (hT : az_tp f T n) (hn : n ≤ 60) (e1 e2 : Int32) (e3 e4 : Int64) : Met l yX1_readFour wsX1_readFour ({ frames := 3, cells := 0, slots := 0, locals := 70 }) (wr_P (dC, dI) azCl [(h0, .inr (1, [.ref ht, .int (nI n), .ref hw, .int (nI w), .ref a1, .ref a2, .ref a3])), (ht, .inl (cT, 60, .inl f)), (a3, .inr (0, [.int e1, .int e2, .long e3, .long e4]))] [(cT, .byte)] sz [.ref h0]) (va_Qi (fun r u => u < 4294967296 ∧ ((az_q4 T n 4 0 0 = none ∧ r = nI 0) ∨ (az_q4 T n 4 0 0 = some u ∧ r = nI 1))) (wr_B (dC, dI) azCl [(cT, .byte)] (va_A [(h0, .inr (1, [.ref ht, .int (nI n), .ref hw, .int (nI w), .ref a1, .ref a2, .ref a3])), (ht, .inl (cT, 60, .inl f)), (a3, .inr (0, [.int e1, .int e2, .long e3, .long e4]))] sz) (fun u : Nat => [(h0, .inr (1, [.ref ht, .int (nI n), .ref hw, .int (nI w), .ref a1, .ref a2, .ref a3])), (ht, .inl (cT, 60, .inl f)), (a3, .inr (0, [.int (nI 4), .int (nI 32), .long (lN (u / 18446744073709551616)), .long (lN (u % 18446744073709551616))]))])) (va_A [(h0, .inr (1, [.ref ht, .int (nI n), .ref hw, .int (nI w), .ref a1, .ref a2, .ref a3])), (ht, .inl (cT, 60, .inl f)), (a3, .inr (0, [.int e1, .int e2, .long e3, .long e4]))] sz)) 0 0 (va_A [(h0, .inr (1, [.ref ht, .int (nI n), .ref hw, .int (nI w), .ref a1, .ref a2, .ref a3])), (ht, .inl (cT, 60, .inl f)), (a3, .inr (0, [.int e1, .int e2, .long e3, .long e4]))] sz) := by
  refine Met.ofW (cc := cX1_readFour) (maxL := 5) (ret := (some .boolean)) (by decide) rfl ?_
  intro p e s m args below meth c s₁ Bd hml hv
  obtain ⟨rfl, hsz, hP, hK, hD0⟩ := hv
  have hx := Bd.exec
  have hb := Bd.bytes
  have hr := Bd.returns
  have hts := atoms_spec (ws := wsX1_readFour) Bd.pre
  have hown : s.vm.findClass RX1 = some m.cls := findClass_of_methodNamed Bd.named
  have hlocks := Bd.notSynchronized
  subst hsz
  have hD := hD0.self (sz := s.heap.size)
  generalize hAe : va_A [(h0, .inr (1, [.ref ht, .int (nI n), .ref hw, .int (nI w), .ref a1, .ref a2, .ref a3])), (ht, .inl (cT, 60, .inl f)), (a3, .inr (0, [.int e1, .int e2, .long e3, .long e4]))] s.heap.size = A at hD ⊢
  have hA : ∀ q : Nat, s.heap.size ≤ q → A q := fun q h => by rw [← hAe]; exact Or.inr h
  have hS : va_S A s.heap s.heap [] := va_S.rf
  have hP : va_P (dC, dI) azCl [(h0, .inr (1, [.ref ht, .int (nI n), .ref hw, .int (nI w), .ref a1, .ref a2, .ref a3])), (ht, .inl (cT, 60, .inl f)), (a3, .inr (0, [.int e1, .int e2, .long e3, .long e4]))] s.heap := hP
  have hiX1 : ∀ w ∈ wsX10, w ∈ wsX1_readFour := by decide +kernel
  have hiX0 : ∀ w ∈ wsX00, w ∈ wsX1_readFour := by decide +kernel
  have hf33 := hts (.fieldLink RX1 33 "AddressTexts" "spare" "LAddressTexts$Address;") (by decide +kernel)
  have hf13 := hts (.fieldLink RX1 13 "AddressTexts" "tapeCount" "I") (by decide +kernel)
  have hf66 := hts (.fieldLink RX1 66 "AddressTexts$Address" "lower" "J") (by decide +kernel)
  have hl := lv_entry ([.ref h0]) (n := 5) (Nat.le_of_ble_eq_true rfl)
  rw [lg_entry_eq]
  generalize (lg_sl ([.ref h0]) ++ List.replicate (5 - (lg_sl ([.ref h0])).length) Slot.unset).toArray = ls at hl ⊢
  have hl : lv_has ls 5 [(0, .ref h0)] := hl
  refine lv_aload_n hx hb dX1_readFour_0 rfl (lv_at hl 0 rfl) ?_
  refine va_get (D := (dC, dI)) (ci := 1) (v := .ref a3) (C := RX1) (T := TX1) (N := 7) hx hb hts hiX1 hown hK hP 0 rfl rfl 6 (by decide) hf33 (fun _ h9 => h9) rfl dX1_readFour_1 ?_
  refine lv_iconst (v := nI 4) hx hb dX1_readFour_4 (by decide) ?_
  refine wc_Vv (As := [.int (nI 4)]) (rest := []) (wr := [(h0, .inr (1, [.ref ht, .int (nI n), .ref hw, .int (nI w), .ref a1, .ref a2, .ref a3])), (ht, .inl (cT, 60, .inl f))]) ⟨hx, hb, hml, hown, hts⟩ (ct_clear l dC dI s.heap.size a3 4 e1 e2 e3 e4 (by omega)) (cwV 1 hts gX1_readFour_X0_clear rfl rfl rfl (by decide +kernel) ⟨Nat.le_of_ble_eq_true rfl, Nat.le_of_ble_eq_true rfl⟩) hP hD hK hS hA [2] [0, 1] [] rfl rfl (by decide) (by decide) (by decide) rfl 0 rfl rfl rfl hl.1 rfl (Nat.le_of_ble_eq_true rfl) dX1_readFour_5 ⟨(Nat.zero_le _), (Nat.zero_le _)⟩ (fun u0 H locs hp0 hP hD hS => ?_)
  try dsimp only at hp0
  have hP : va_P (dC, dI) azCl [(h0, .inr (1, [.ref ht, .int (nI n), .ref hw, .int (nI w), .ref a1, .ref a2, .ref a3])), (ht, .inl (cT, 60, .inl f)), (a3, .inr (0, [.int (nI 4), .int (nI 32), .long (lN (0 / 18446744073709551616)), .long (lN (0 % 18446744073709551616))]))] H := hP
  have hD : va_D A [(h0, .inr (1, [.ref ht, .int (nI n), .ref hw, .int (nI w), .ref a1, .ref a2, .ref a3])), (ht, .inl (cT, 60, .inl f)), (a3, .inr (0, [.int (nI 4), .int (nI 32), .long (lN (0 / 18446744073709551616)), .long (lN (0 % 18446744073709551616))]))] := hD
  refine lv_iconst (v := nI 0) hx hb dX1_readFour_8 (by decide) ?_
  refine lv_istore_n (lv' := [(1, .int (nI 0)), (0, .ref h0)]) hx hb dX1_readFour_9 rfl hl (by decide) rfl (fun ls hl => ?_)
  refine lv_iconst (v := nI 0) hx hb dX1_readFour_10 (by decide) ?_
  refine lv_istore_n (lv' := [(2, .int (nI 0)), (1, .int (nI 0)), (0, .ref h0)]) hx hb dX1_readFour_11 rfl hl (by decide) rfl (fun ls hl => ?_)
  have lp12 : ∀ (N : Nat) (k : Nat) (at_ : Nat) (v : Nat), (k ≤ 4) → (at_ ≤ n + 1) → (v < 256 ^ k) → (az_q4 T n (4 - k) at_ v = az_q4 T n 4 0 0) → (4 - k) < N → ∀ (H : Heap) (locs : List Loc), va_P (dC, dI) azCl [(h0, .inr (1, [.ref ht, .int (nI n), .ref hw, .int (nI w), .ref a1, .ref a2, .ref a3])), (ht, .inl (cT, 60, .inl f)), (a3, .inr (0, [.int (nI 4), .int (nI 32), .long (lN (v / 18446744073709551616)), .long (lN (v % 18446744073709551616))]))] H → va_D A [(h0, .inr (1, [.ref ht, .int (nI n), .ref hw, .int (nI w), .ref a1, .ref a2, .ref a3])), (ht, .inl (cT, 60, .inl f)), (a3, .inr (0, [.int (nI 4), .int (nI 32), .long (lN (v / 18446744073709551616)), .long (lN (v % 18446744073709551616))]))] → va_S A s.heap H locs → ∀ (ls : Array Slot), lv_has ls 5 [(0, .ref h0), (1, .int (nI at_)), (2, .int (nI k))] → W p l e (headSpec wsX1_readFour ({ frames := 3, cells := 0, slots := 0, locals := 70 })).room s m ([.ref h0] : List Value).toArray below meth c H locs 0 0 (MQ below (va_Qi (fun r u => u < 4294967296 ∧ ((az_q4 T n 4 0 0 = none ∧ r = nI 0) ∨ (az_q4 T n 4 0 0 = some u ∧ r = nI 1))) (wr_B (dC, dI) azCl [(cT, .byte)] A (fun u : Nat => [(h0, .inr (1, [.ref ht, .int (nI n), .ref hw, .int (nI w), .ref a1, .ref a2, .ref a3])), (ht, .inl (cT, 60, .inl f)), (a3, .inr (0, [.int (nI 4), .int (nI 32), .long (lN (u / 18446744073709551616)), .long (lN (u % 18446744073709551616))]))])) A) ([.ref h0] : List Value).toArray s 0 0 A) (F0 m 12 ls []) := by
    intro N
    induction N with
    | zero => intro k at_ v hk hat hv hq hN; exact absurd hN (Nat.not_lt_zero _)
    | succ N ih =>
      intro k at_ v hk hat hv hq hN H locs hP hD hS ls hl
      refine lv_iload_n hx hb dX1_readFour_12 rfl (lv_at hl 2 rfl) ?_
      refine lv_iconst (v := nI 4) hx hb dX1_readFour_13 (by decide) ?_
      refine bn_ge (tgt := 75) hx hb dX1_readFour_14 (by decide) (by omega) (by omega) (fun c14 => ?_) (fun c14 => ?_)
      · have hv32 : v < 4294967296 := by have h := hv; rw [show k = 4 by omega] at h; exact h
        refine lv_iload_n hx hb dX1_readFour_75 rfl (lv_at hl 1 rfl) ?_
        refine lv_aload_n hx hb dX1_readFour_76 rfl (lv_at hl 0 rfl) ?_
        refine va_get (D := (dC, dI)) (ci := 1) (v := .int (nI n)) (C := RX1) (T := TX1) (N := 7) hx hb hts hiX1 hown hK hP 0 rfl rfl 1 (by decide) hf13 (fun _ h9 => h9) rfl dX1_readFour_77 ?_
        refine lv_iconst (v := nI 1) hx hb dX1_readFour_80 (by decide) ?_
        refine lv_iadd hx hb dX1_readFour_81 ?_
        refine tp_i (nI (n + 1)) (nI_add _ _) ?_
        refine bn_ne (tgt := 89) hx hb dX1_readFour_82 (by decide) (by omega) (by omega) (fun c82 => ?_) (fun c82 => ?_)
        · refine lv_iconst (v := nI 0) hx hb dX1_readFour_89 (by decide) ?_
          exact wt_z hx hb hr (rfl) (v) (⟨hv32, Or.inl ⟨by rw [← hq, show 4 - k = 0 by omega]; exact if_neg c82, rfl⟩⟩) (hP.sub [0, 1, 2] rfl) hK (hD.sub [0, 1, 2] (by decide) rfl) hS dX1_readFour_90 hlocks
        · refine lv_iconst (v := nI 1) hx hb dX1_readFour_85 (by decide) ?_
          refine lv_goto (tgt := 90) hx hb dX1_readFour_86 (by decide) ?_
          exact wt_z hx hb hr (rfl) (v) (⟨hv32, Or.inr ⟨by rw [← hq, show 4 - k = 0 by omega]; exact if_pos c82, rfl⟩⟩) (hP.sub [0, 1, 2] rfl) hK (hD.sub [0, 1, 2] (by decide) rfl) hS dX1_readFour_90 hlocks
      · have hpl := az_pl_le (T := T) (n := n) (mk := 46) (i := at_)
        have hv4 : 256 ^ k ≤ 16777216 := az_p256 c14
        refine lv_aload_n hx hb dX1_readFour_17 rfl (lv_at hl 0 rfl) ?_
        refine lv_bipush (v := nI 46) hx hb dX1_readFour_18 (by decide) ?_
        refine lv_iload_n hx hb dX1_readFour_20 rfl (lv_at hl 1 rfl) ?_
        refine rc_Vi (As := [.int (nI 46), .int (nI at_)]) (rest := []) ⟨hx, hb, hml, hown, hts⟩ (ct_placeOf l dC dI h0 ht hw a1 a2 a3 n w cT f T hT hn 46 at_ (by omega) (by omega)) (cwV 2 hts gX1_readFour_X1_placeOf rfl rfl rfl (by decide +kernel) ⟨Nat.le_of_ble_eq_true rfl, Nat.le_of_ble_eq_true rfl⟩) (hP.sub [0, 1] rfl) (hK.sub [0] rfl) 0 rfl rfl rfl hl.1 rfl (Nat.le_of_ble_eq_true rfl) dX1_readFour_21 ⟨(Nat.zero_le _), (Nat.zero_le _)⟩ ?_
        refine lv_istore_n (lv' := [(3, .int (nI (az_pl T n 46 at_))), (0, .ref h0), (1, .int (nI at_)), (2, .int (nI k))]) hx hb dX1_readFour_24 rfl hl (by decide) rfl (fun ls hl => ?_)
        refine lv_aload_n hx hb dX1_readFour_25 rfl (lv_at hl 1 rfl) ?_
        refine lv_iload_n hx hb dX1_readFour_26 rfl (lv_at hl 2 rfl) ?_
        refine lv_iload_n hx hb dX1_readFour_27 rfl (lv_at hl 0 rfl) ?_
        refine lv_sipush (v := nI 255) hx hb dX1_readFour_28 (by decide) ?_
        refine rc_Vi (As := [.int (nI at_), .int (nI (az_pl T n 46 at_)), .int (nI 255)]) (rest := []) ⟨hx, hb, hml, hown, hts⟩ (ct_decimalIn l dC dI h0 ht hw a1 a2 a3 n w cT f T hT hn at_ (az_pl T n 46 at_) 255 (by omega) hpl (fun q => az_pl_ge q) (by omega)) (cwV 3 hts gX1_readFour_X1_decimalIn rfl rfl rfl (by decide +kernel) ⟨Nat.le_of_ble_eq_true rfl, Nat.le_of_ble_eq_true rfl⟩) (hP.sub [0, 1] rfl) (hK.sub [0] rfl) 0 rfl rfl rfl hl.1 rfl (Nat.le_of_ble_eq_true rfl) dX1_readFour_31 ⟨(Nat.zero_le _), (Nat.zero_le _)⟩ ?_
        rcases hd : az_dc T at_ (az_pl T n 46 at_) 255 with _ | d
        · refine tp_i (-1) (rfl) ?_
          refine lv_istore (lv' := [(4, .int (-1)), (3, .int (nI (az_pl T n 46 at_))), (0, .ref h0), (1, .int (nI at_)), (2, .int (nI k))]) hx hb dX1_readFour_34 hl (by decide) rfl (fun ls hl => ?_)
          refine lv_iload hx hb dX1_readFour_36 (lv_at hl 0 rfl) ?_
          refine lv_iconst (v := -1) hx hb dX1_readFour_38 (by decide) ?_
          refine lv_icmp_ne (tgt := 44) hx hb dX1_readFour_39 (by decide) (fun c => absurd c (by decide)) (fun _ => ?_)
          refine lv_iconst (v := nI 0) hx hb dX1_readFour_42 (by decide) ?_
          exact wt_z hx hb hr (rfl) (v) (⟨by omega, Or.inl ⟨by rw [← hq, az_q4_bad c14 hd], rfl⟩⟩) (hP.sub [0, 1, 2] rfl) hK (hD.sub [0, 1, 2] (by decide) rfl) hS dX1_readFour_43 hlocks
        · have hdl := az_dc_le hd
          refine tp_i (nI d) (rfl) ?_
          refine lv_istore (lv' := [(4, .int (nI d)), (3, .int (nI (az_pl T n 46 at_))), (0, .ref h0), (1, .int (nI at_)), (2, .int (nI k))]) hx hb dX1_readFour_34 hl (by decide) rfl (fun ls hl => ?_)
          refine lv_iload hx hb dX1_readFour_36 (lv_at hl 0 rfl) ?_
          refine lv_iconst (v := -1) hx hb dX1_readFour_38 (by decide) ?_
          refine lv_icmp_ne (tgt := 44) hx hb dX1_readFour_39 (by decide) (fun _ => ?_) (fun c => absurd c (nI_m1 (by omega)))
          refine lv_aload_n hx hb dX1_readFour_44 rfl (lv_at hl 2 rfl) ?_
          refine va_get (D := (dC, dI)) (ci := 1) (v := .ref a3) (C := RX1) (T := TX1) (N := 7) hx hb hts hiX1 hown hK hP 0 rfl rfl 6 (by decide) hf33 (fun _ h9 => h9) rfl dX1_readFour_45 ?_
          refine lv_aload_n hx hb dX1_readFour_48 rfl (lv_at hl 2 rfl) ?_
          refine va_get (D := (dC, dI)) (ci := 1) (v := .ref a3) (C := RX1) (T := TX1) (N := 7) hx hb hts hiX1 hown hK hP 0 rfl rfl 6 (by decide) hf33 (fun _ h9 => h9) rfl dX1_readFour_49 ?_
          refine va_get (D := (dC, dI)) (ci := 0) (v := .long (lN (v % 18446744073709551616))) (C := RX0) (T := TX0) (N := 4) hx hb hts hiX0 hown hK hP 2 rfl rfl 3 (by decide) hf66 (fun _ h9 => h9) rfl dX1_readFour_52 ?_
          refine lv_bipush (v := nI 8) hx hb dX1_readFour_55 (by decide) ?_
          refine lv_lshl (v := lN (v % 18446744073709551616 * 2 ^ 8)) hx hb dX1_readFour_57 (wb_shl (k := 8) _ (by omega)) ?_
          refine lv_iload hx hb dX1_readFour_58 (lv_at hl 0 rfl) ?_
          refine lv_i2l (v := lN d) hx hb dX1_readFour_60 (nI_l (by omega)) ?_
          refine lv_lor hx hb dX1_readFour_61 ?_
          refine tp_l (lN ((v * 256 + d) % 18446744073709551616)) ((g_or (k := 8) (p := 256) rfl (by omega) (by omega)).trans (congrArg lN (by omega))) ?_
          refine va_put (D := (dC, dI)) (ci := 0) (v := .long (lN ((v * 256 + d) % 18446744073709551616))) (ty := .long) (C := RX0) (T := TX0) (N := 4) hx hb hts hiX0 tyX0 tyX0_ok nmX0 hown hK hP hD hS 2 rfl rfl 3 (by decide) hf66 (fun _ h9 => h9) rfl (by decide +kernel) rfl rfl (Nat.le_of_ble_eq_true rfl) dX1_readFour_62 (fun H locs hP hD hS => ?_)
          have hP : va_P (dC, dI) azCl [(h0, .inr (1, [.ref ht, .int (nI n), .ref hw, .int (nI w), .ref a1, .ref a2, .ref a3])), (ht, .inl (cT, 60, .inl f)), (a3, .inr (0, [.int (nI 4), .int (nI 32), .long (lN (v / 18446744073709551616)), .long (lN ((v * 256 + d) % 18446744073709551616))]))] H := hP
          have hD : va_D A [(h0, .inr (1, [.ref ht, .int (nI n), .ref hw, .int (nI w), .ref a1, .ref a2, .ref a3])), (ht, .inl (cT, 60, .inl f)), (a3, .inr (0, [.int (nI 4), .int (nI 32), .long (lN (v / 18446744073709551616)), .long (lN ((v * 256 + d) % 18446744073709551616))]))] := hD
          have e65 : (v * 256 + d) / 18446744073709551616 = v / 18446744073709551616 := by omega
          have hP : va_P (dC, dI) azCl [(h0, .inr (1, [.ref ht, .int (nI n), .ref hw, .int (nI w), .ref a1, .ref a2, .ref a3])), (ht, .inl (cT, 60, .inl f)), (a3, .inr (0, [.int (nI 4), .int (nI 32), .long (lN ((v * 256 + d) / 18446744073709551616)), .long (lN ((v * 256 + d) % 18446744073709551616))]))] H := by rw [e65]; exact hP
          have hD : va_D A [(h0, .inr (1, [.ref ht, .int (nI n), .ref hw, .int (nI w), .ref a1, .ref a2, .ref a3])), (ht, .inl (cT, 60, .inl f)), (a3, .inr (0, [.int (nI 4), .int (nI 32), .long (lN ((v * 256 + d) / 18446744073709551616)), .long (lN ((v * 256 + d) % 18446744073709551616))]))] := by rw [e65]; exact hD
          refine lv_iload_n hx hb dX1_readFour_65 rfl (lv_at hl 1 rfl) ?_
          refine lv_iconst (v := nI 1) hx hb dX1_readFour_66 (by decide) ?_
          refine lv_iadd hx hb dX1_readFour_67 ?_
          refine tp_i (nI ((az_pl T n 46 at_) + 1)) (nI_add _ _) ?_
          refine lv_istore_n (lv' := [(1, .int (nI ((az_pl T n 46 at_) + 1))), (4, .int (nI d)), (3, .int (nI (az_pl T n 46 at_))), (0, .ref h0), (2, .int (nI k))]) hx hb dX1_readFour_68 rfl hl (by decide) rfl (fun ls hl => ?_)
          refine lv_iinc (v := nI (k + 1)) (lv' := [(2, .int (nI (k + 1))), (1, .int (nI ((az_pl T n 46 at_) + 1))), (4, .int (nI d)), (3, .int (nI (az_pl T n 46 at_))), (0, .ref h0)]) hx hb dX1_readFour_69 hl (k := 4) rfl (nI_add _ 1) (by decide) rfl (fun ls hl => ?_)
          refine lv_goto (tgt := 12) hx hb dX1_readFour_72 (by decide) ?_
          exact ih (k + 1) (az_pl T n 46 at_ + 1) (v * 256 + d) (by omega) (by omega) (az_p256s hv hdl) (by rw [← hq, az_q4_step c14 hd]) (by omega) _ _ (hP.sub [0, 1, 2] rfl) (hD.sub [0, 1, 2] (by decide) rfl) hS ls (lv_sub hl [4, 1, 0] rfl)
  exact lp12 _ 0 0 0 (Nat.zero_le _) (Nat.zero_le _) (by decide) (rfl) (Nat.lt_succ_self _) _ _ (hP.sub [0, 1, 2] rfl) (hD.sub [0, 1, 2] (by decide) rfl) hS ls (lv_sub hl [2, 1, 0] rfl)
set_option maxRecDepth 100000 in
set_option maxHeartbeats 4000000 in
/-- readText() -/
theorem ct_readText (l : Launch) (dC : Nat → ClassId) (dI : Nat → Nat → Nat) (sz : Nat) (h0 ht hw a1 a2 a3 n w : Nat) (cT : ClassId) (f : Nat → Int32) (T : Nat → Nat) (hT : az_tp f T n) (hn : n ≤ 60) (e1 e2 : Int32) (e3 e4 : Int64) : Met l yX1_readText wsX1_readText ({ frames := 5, cells := 0, slots := 0, locals := 120 }) (wr_P (dC, dI) azCl [(h0, .inr (1, [.ref ht, .int (nI n), .ref hw, .int (nI w), .ref a1, .ref a2, .ref a3])), (ht, .inl (cT, 60, .inl f)), (a3, .inr (0, [.int e1, .int e2, .long e3, .long e4]))] [(cT, .byte)] sz [.ref h0]) (va_Qi (fun r u => az_ok u ∧ ((az_text T n = none ∧ r = nI 0) ∨ (az_text T n = some u ∧ r = nI 1))) (wr_B (dC, dI) azCl [(cT, .byte)] (va_A [(h0, .inr (1, [.ref ht, .int (nI n), .ref hw, .int (nI w), .ref a1, .ref a2, .ref a3])), (ht, .inl (cT, 60, .inl f)), (a3, .inr (0, [.int e1, .int e2, .long e3, .long e4]))] sz) (fun u : Nat × Nat => [(h0, .inr (1, [.ref ht, .int (nI n), .ref hw, .int (nI w), .ref a1, .ref a2, .ref a3])), (ht, .inl (cT, 60, .inl f)), (a3, .inr (0, [.int (nI u.1), .int (nI (az_wl u.1)), .long (lN (u.2 / 18446744073709551616)), .long (lN (u.2 % 18446744073709551616))]))])) (va_A [(h0, .inr (1, [.ref ht, .int (nI n), .ref hw, .int (nI w), .ref a1, .ref a2, .ref a3])), (ht, .inl (cT, 60, .inl f)), (a3, .inr (0, [.int e1, .int e2, .long e3, .long e4]))] sz)) 0 0 (va_A [(h0, .inr (1, [.ref ht, .int (nI n), .ref hw, .int (nI w), .ref a1, .ref a2, .ref a3])), (ht, .inl (cT, 60, .inl f)), (a3, .inr (0, [.int e1, .int e2, .long e3, .long e4]))] sz) := by
  refine Met.ofW (cc := cX1_readText) (maxL := 1) (ret := (some .boolean)) (by decide) rfl ?_
  intro p e s m args below meth c s₁ Bd hml hv
  obtain ⟨rfl, hsz, hP, hK, hD0⟩ := hv
  have hx := Bd.exec
  have hb := Bd.bytes
  have hr := Bd.returns
  have hts := atoms_spec (ws := wsX1_readText) Bd.pre
  have hown : s.vm.findClass RX1 = some m.cls := findClass_of_methodNamed Bd.named
  have hlocks := Bd.notSynchronized
  subst hsz
  have hD := hD0.self (sz := s.heap.size)
  generalize hAe : va_A [(h0, .inr (1, [.ref ht, .int (nI n), .ref hw, .int (nI w), .ref a1, .ref a2, .ref a3])), (ht, .inl (cT, 60, .inl f)), (a3, .inr (0, [.int e1, .int e2, .long e3, .long e4]))] s.heap.size = A at hD ⊢
  have hA : ∀ q : Nat, s.heap.size ≤ q → A q := fun q h => by rw [← hAe]; exact Or.inr h
  have hS : va_S A s.heap s.heap [] := va_S.rf
  have hP : va_P (dC, dI) azCl [(h0, .inr (1, [.ref ht, .int (nI n), .ref hw, .int (nI w), .ref a1, .ref a2, .ref a3])), (ht, .inl (cT, 60, .inl f)), (a3, .inr (0, [.int e1, .int e2, .long e3, .long e4]))] s.heap := hP
  have hiX1 : ∀ w ∈ wsX10, w ∈ wsX1_readText := by decide +kernel
  have hf13 := hts (.fieldLink RX1 13 "AddressTexts" "tapeCount" "I") (by decide +kernel)
  have hl := lv_entry ([.ref h0]) (n := 1) (Nat.le_of_ble_eq_true rfl)
  rw [lg_entry_eq]
  generalize (lg_sl ([.ref h0]) ++ List.replicate (1 - (lg_sl ([.ref h0])).length) Slot.unset).toArray = ls at hl ⊢
  have hl : lv_has ls 1 [(0, .ref h0)] := hl
  have hpl := az_pl_le (T := T) (n := n) (mk := 58) (i := 0)
  refine lv_aload_n hx hb dX1_readText_0 rfl (lv_at hl 0 rfl) ?_
  refine lv_bipush (v := nI 58) hx hb dX1_readText_1 (by decide) ?_
  refine lv_iconst (v := nI 0) hx hb dX1_readText_3 (by decide) ?_
  refine rc_Vi (As := [.int (nI 58), .int (nI 0)]) (rest := []) ⟨hx, hb, hml, hown, hts⟩ (ct_placeOf l dC dI h0 ht hw a1 a2 a3 n w cT f T hT hn 58 0 (by omega) (by omega)) (cwV 2 hts gX1_readText_X1_placeOf rfl rfl rfl (by decide +kernel) ⟨Nat.le_of_ble_eq_true rfl, Nat.le_of_ble_eq_true rfl⟩) (hP.sub [0, 1] rfl) (hK.sub [0] rfl) 0 rfl rfl rfl hl.1 rfl (Nat.le_of_ble_eq_true rfl) dX1_readText_4 ⟨(Nat.zero_le _), (Nat.zero_le _)⟩ ?_
  refine lv_aload_n hx hb dX1_readText_7 rfl (lv_at hl 0 rfl) ?_
  refine va_get (D := (dC, dI)) (ci := 1) (v := .int (nI n)) (C := RX1) (T := TX1) (N := 7) hx hb hts hiX1 hown hK hP 0 rfl rfl 1 (by decide) hf13 (fun _ h9 => h9) rfl dX1_readText_8 ?_
  refine bn_ge (tgt := 21) hx hb dX1_readText_11 (by decide) (by omega) (by omega) (fun c11 => ?_) (fun c11 => ?_)
  · refine lv_aload_n hx hb dX1_readText_21 rfl (lv_at hl 0 rfl) ?_
    refine wc_Vi (As := []) (rest := []) (wr := []) ⟨hx, hb, hml, hown, hts⟩ (ct_readFour l dC dI s.heap.size h0 ht hw a1 a2 a3 n w cT f T hT hn e1 e2 e3 e4) (cwV 0 hts gX1_readText_X1_readFour rfl rfl rfl (by decide +kernel) ⟨Nat.le_of_ble_eq_true rfl, Nat.le_of_ble_eq_true rfl⟩) hP hD hK hS hA [0, 1, 2] [] [0] rfl rfl (by decide) (by decide) (by decide) rfl 0 rfl rfl rfl hl.1 rfl (Nat.le_of_ble_eq_true rfl) dX1_readText_22 ⟨(Nat.zero_le _), (Nat.zero_le _)⟩ (fun r1 v1 H locs hp1 hP hD hS => ?_)
    try dsimp only at hp1
    have hP : va_P (dC, dI) azCl [(h0, .inr (1, [.ref ht, .int (nI n), .ref hw, .int (nI w), .ref a1, .ref a2, .ref a3])), (ht, .inl (cT, 60, .inl f)), (a3, .inr (0, [.int (nI 4), .int (nI 32), .long (lN (v1 / 18446744073709551616)), .long (lN (v1 % 18446744073709551616))]))] H := hP
    have hD : va_D A [(h0, .inr (1, [.ref ht, .int (nI n), .ref hw, .int (nI w), .ref a1, .ref a2, .ref a3])), (ht, .inl (cT, 60, .inl f)), (a3, .inr (0, [.int (nI 4), .int (nI 32), .long (lN (v1 / 18446744073709551616)), .long (lN (v1 % 18446744073709551616))]))] := hD
    obtain ⟨hu, ⟨ea, er⟩ | ⟨ea, er⟩⟩ := hp1
    · subst er
      exact wt_z hx hb hr (rfl) ((4, v1)) (⟨(Or.inl ⟨rfl, hu⟩), Or.inl ⟨by unfold az_text; rw [if_neg (Nat.not_lt.mpr c11), ea]; rfl, rfl⟩⟩) (hP.sub [0, 1, 2] rfl) hK (hD.sub [0, 1, 2] (by decide) rfl) hS dX1_readText_25 hlocks
    · subst er
      exact wt_z hx hb hr (rfl) ((4, v1)) (⟨(Or.inl ⟨rfl, hu⟩), Or.inr ⟨by unfold az_text; rw [if_neg (Nat.not_lt.mpr c11), ea]; rfl, rfl⟩⟩) (hP.sub [0, 1, 2] rfl) hK (hD.sub [0, 1, 2] (by decide) rfl) hS dX1_readText_25 hlocks
  · refine lv_aload_n hx hb dX1_readText_14 rfl (lv_at hl 0 rfl) ?_
    refine wc_Vi (As := []) (rest := []) (wr := []) ⟨hx, hb, hml, hown, hts⟩ (ct_readSix l dC dI s.heap.size h0 ht hw a1 a2 a3 n w cT f T hT hn e1 e2 e3 e4) (cwV 0 hts gX1_readText_X1_readSix rfl rfl rfl (by decide +kernel) ⟨Nat.le_of_ble_eq_true rfl, Nat.le_of_ble_eq_true rfl⟩) hP hD hK hS hA [0, 1, 2] [] [0] rfl rfl (by decide) (by decide) (by decide) rfl 0 rfl rfl rfl hl.1 rfl (Nat.le_of_ble_eq_true rfl) dX1_readText_15 ⟨(Nat.zero_le _), (Nat.zero_le _)⟩ (fun r1 v1 H locs hp1 hP hD hS => ?_)
    try dsimp only at hp1
    have hP : va_P (dC, dI) azCl [(h0, .inr (1, [.ref ht, .int (nI n), .ref hw, .int (nI w), .ref a1, .ref a2, .ref a3])), (ht, .inl (cT, 60, .inl f)), (a3, .inr (0, [.int (nI 6), .int (nI 128), .long (lN (v1 / 18446744073709551616)), .long (lN (v1 % 18446744073709551616))]))] H := hP
    have hD : va_D A [(h0, .inr (1, [.ref ht, .int (nI n), .ref hw, .int (nI w), .ref a1, .ref a2, .ref a3])), (ht, .inl (cT, 60, .inl f)), (a3, .inr (0, [.int (nI 6), .int (nI 128), .long (lN (v1 / 18446744073709551616)), .long (lN (v1 % 18446744073709551616))]))] := hD
    obtain ⟨hu, ⟨ea, er⟩ | ⟨ea, er⟩⟩ := hp1
    · subst er
      refine lv_goto (tgt := 25) hx hb dX1_readText_18 (by decide) ?_
      exact wt_z hx hb hr (rfl) ((6, v1)) (⟨(Or.inr ⟨rfl, hu⟩), Or.inl ⟨by unfold az_text; rw [if_pos c11, ea]; rfl, rfl⟩⟩) (hP.sub [0, 1, 2] rfl) hK (hD.sub [0, 1, 2] (by decide) rfl) hS dX1_readText_25 hlocks
    · subst er
      refine lv_goto (tgt := 25) hx hb dX1_readText_18 (by decide) ?_
      exact wt_z hx hb hr (rfl) ((6, v1)) (⟨(Or.inr ⟨rfl, hu⟩), Or.inr ⟨by unfold az_text; rw [if_pos c11, ea]; rfl, rfl⟩⟩) (hP.sub [0, 1, 2] rfl) hK (hD.sub [0, 1, 2] (by decide) rfl) hS dX1_readText_25 hlocks
