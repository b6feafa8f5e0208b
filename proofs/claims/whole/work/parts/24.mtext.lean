set_option maxRecDepth 100000 in
set_option maxHeartbeats 4000000 in
/-- isFour() -/
theorem ct_m_isFour (l : Launch) (dC : Nat → ClassId) (dI : Nat → Nat → Nat) (sz : Nat) (m0 mt mb mf ml mp mo n w : Nat) (xm xg : Int32) (dT : ClassId) (F : Nat → Int32) (T : Nat → Nat) (hF : az_mt F T n) (hn : n ≤ 60) (dP : ClassId) (P : Nat → Int32) : Met l yXM_isFour wsXM_isFour ({ frames := 2, cells := 0, slots := 0, locals := 45 }) (wr_P (dC, dI) azCl [(m0, .inr (2, [.ref mt, .int (nI n), .ref mb, .ref mf, .ref ml, .ref mp, .int xm, .int xg, .ref mo, .int (nI w)])), (mt, .inl (dT, 60, .inl F)), (mp, .inl (dP, 8, .inl P))] [(dT, .int), (dP, .int)] sz [.ref m0]) (va_Qi (fun r u => (az_q4 T n 4 0 0 = none ∧ r = nI 0) ∨ (∃ v, az_q4 T n 4 0 0 = some v ∧ r = nI 1 ∧ u.2.1 = nI 4 ∧ az_fp u.1 4 v)) (wr_B (dC, dI) azCl [(dT, .int), (dP, .int)] (va_A [(m0, .inr (2, [.ref mt, .int (nI n), .ref mb, .ref mf, .ref ml, .ref mp, .int xm, .int xg, .ref mo, .int (nI w)])), (mt, .inl (dT, 60, .inl F)), (mp, .inl (dP, 8, .inl P))] sz) (fun u : (Nat → Int32) × Int32 × Int32 => [(m0, .inr (2, [.ref mt, .int (nI n), .ref mb, .ref mf, .ref ml, .ref mp, .int u.2.1, .int u.2.2, .ref mo, .int (nI w)])), (mt, .inl (dT, 60, .inl F)), (mp, .inl (dP, 8, .inl u.1))])) (va_A [(m0, .inr (2, [.ref mt, .int (nI n), .ref mb, .ref mf, .ref ml, .ref mp, .int xm, .int xg, .ref mo, .int (nI w)])), (mt, .inl (dT, 60, .inl F)), (mp, .inl (dP, 8, .inl P))] sz)) 0 0 (va_A [(m0, .inr (2, [.ref mt, .int (nI n), .ref mb, .ref mf, .ref ml, .ref mp, .int xm, .int xg, .ref mo, .int (nI w)])), (mt, .inl (dT, 60, .inl F)), (mp, .inl (dP, 8, .inl P))] sz) := by
  refine Met.ofW (cc := cXM_isFour) (maxL := 4) (ret := (some .boolean)) (by decide) rfl ?_
  intro p e s m args below meth c s₁ Bd hml hv
  obtain ⟨rfl, hsz, hP, hK, hD0⟩ := hv
  have hx := Bd.exec
  have hb := Bd.bytes
  have hr := Bd.returns
  have hts := atoms_spec (ws := wsXM_isFour) Bd.pre
  have hown : s.vm.findClass RXM = some m.cls := findClass_of_methodNamed Bd.named
  have hlocks := Bd.notSynchronized
  subst hsz
  have hD := hD0.self (sz := s.heap.size)
  generalize hAe : va_A [(m0, .inr (2, [.ref mt, .int (nI n), .ref mb, .ref mf, .ref ml, .ref mp, .int xm, .int xg, .ref mo, .int (nI w)])), (mt, .inl (dT, 60, .inl F)), (mp, .inl (dP, 8, .inl P))] s.heap.size = A at hD ⊢
  have hA : ∀ q : Nat, s.heap.size ≤ q → A q := fun q h => by rw [← hAe]; exact Or.inr h
  have hS : va_S A s.heap s.heap [] := va_S.rf
  have hP : va_P (dC, dI) azCl [(m0, .inr (2, [.ref mt, .int (nI n), .ref mb, .ref mf, .ref ml, .ref mp, .int xm, .int xg, .ref mo, .int (nI w)])), (mt, .inl (dT, 60, .inl F)), (mp, .inl (dP, 8, .inl P))] s.heap := hP
  have hiXM : ∀ w ∈ wsXM0, w ∈ wsXM_isFour := by decide +kernel
  have hf40 := hts (.fieldLink RXM 40 "AddressTextsModel" "many" "I") (by decide +kernel)
  have hf28 := hts (.fieldLink RXM 28 "AddressTextsModel" "size" "I") (by decide +kernel)
  have hf22 := hts (.fieldLink RXM 22 "AddressTextsModel" "parts" "[I") (by decide +kernel)
  have hf7 := hts (.fieldLink RXM 7 "AddressTextsModel" "tape" "[I") (by decide +kernel)
  have hl := lv_entry ([.ref m0]) (n := 4) (Nat.le_of_ble_eq_true rfl)
  rw [lg_entry_eq]
  generalize (lg_sl ([.ref m0]) ++ List.replicate (4 - (lg_sl ([.ref m0])).length) Slot.unset).toArray = ls at hl ⊢
  have hl : lv_has ls 4 [(0, .ref m0)] := hl
  refine lv_aload_n hx hb dXM_isFour_0 rfl (lv_at hl 0 rfl) ?_
  refine lv_iconst (v := nI 0) hx hb dXM_isFour_1 (by decide) ?_
  refine va_put (D := (dC, dI)) (ci := 2) (v := .int (nI 0)) (ty := .int) (C := RXM) (T := TXM) (N := 10) hx hb hts hiXM tyXM tyXM_ok nmXM hown hK hP hD hS 0 rfl rfl 6 (by decide) hf40 (fun _ h9 => h9) rfl (by decide +kernel) rfl rfl (Nat.le_of_ble_eq_true rfl) dXM_isFour_2 (fun H locs hP hD hS => ?_)
  have hP : va_P (dC, dI) azCl [(m0, .inr (2, [.ref mt, .int (nI n), .ref mb, .ref mf, .ref ml, .ref mp, .int (nI 0), .int xg, .ref mo, .int (nI w)])), (mt, .inl (dT, 60, .inl F)), (mp, .inl (dP, 8, .inl P))] H := hP
  have hD : va_D A [(m0, .inr (2, [.ref mt, .int (nI n), .ref mb, .ref mf, .ref ml, .ref mp, .int (nI 0), .int xg, .ref mo, .int (nI w)])), (mt, .inl (dT, 60, .inl F)), (mp, .inl (dP, 8, .inl P))] := hD
  refine lv_iconst (v := nI 0) hx hb dXM_isFour_5 (by decide) ?_
  refine lv_istore_n (lv' := [(1, .int (nI 0)), (0, .ref m0)]) hx hb dXM_isFour_6 rfl hl (by decide) rfl (fun ls hl => ?_)
  refine lv_iconst (v := nI 0) hx hb dXM_isFour_7 (by decide) ?_
  refine lv_istore_n (lv' := [(2, .int (nI 0)), (1, .int (nI 0)), (0, .ref m0)]) hx hb dXM_isFour_8 rfl hl (by decide) rfl (fun ls hl => ?_)
  have lp9 : ∀ (N : Nat) (k : Nat) (fr : Nat) (my : Nat) (v : Nat) (Q : Nat → Int32), (k ≤ n + 1) → (fr ≤ k) → (my ≤ 4) → (∀ j, fr ≤ j → j < k → T j ≠ 46) → (k = n + 1 → fr = n + 1) → (az_fp Q my v) → (az_q4 T n (4 - my) fr v = az_q4 T n 4 0 0) → (n + 1 - k) < N → ∀ (H : Heap) (locs : List Loc), va_P (dC, dI) azCl [(m0, .inr (2, [.ref mt, .int (nI n), .ref mb, .ref mf, .ref ml, .ref mp, .int (nI my), .int xg, .ref mo, .int (nI w)])), (mt, .inl (dT, 60, .inl F)), (mp, .inl (dP, 8, .inl Q))] H → va_D A [(m0, .inr (2, [.ref mt, .int (nI n), .ref mb, .ref mf, .ref ml, .ref mp, .int (nI my), .int xg, .ref mo, .int (nI w)])), (mt, .inl (dT, 60, .inl F)), (mp, .inl (dP, 8, .inl Q))] → va_S A s.heap H locs → ∀ (ls : Array Slot), lv_has ls 4 [(0, .ref m0), (1, .int (nI fr)), (2, .int (nI k))] → W p l e (headSpec wsXM_isFour ({ frames := 2, cells := 0, slots := 0, locals := 45 })).room s m ([.ref m0] : List Value).toArray below meth c H locs 0 0 (MQ below (va_Qi (fun r u => (az_q4 T n 4 0 0 = none ∧ r = nI 0) ∨ (∃ v, az_q4 T n 4 0 0 = some v ∧ r = nI 1 ∧ u.2.1 = nI 4 ∧ az_fp u.1 4 v)) (wr_B (dC, dI) azCl [(dT, .int), (dP, .int)] A (fun u : (Nat → Int32) × Int32 × Int32 => [(m0, .inr (2, [.ref mt, .int (nI n), .ref mb, .ref mf, .ref ml, .ref mp, .int u.2.1, .int u.2.2, .ref mo, .int (nI w)])), (mt, .inl (dT, 60, .inl F)), (mp, .inl (dP, 8, .inl u.1))])) A) ([.ref m0] : List Value).toArray s 0 0 A) (F0 m 9 ls []) := by
    intro N
    induction N with
    | zero => intro k fr my v Q hk hfr hmy hnd hend hQ hq hN; exact absurd hN (Nat.not_lt_zero _)
    | succ N ih =>
      intro k fr my v Q hk hfr hmy hnd hend hQ hq hN H locs hP hD hS ls hl
      refine lv_iload_n hx hb dXM_isFour_9 rfl (lv_at hl 2 rfl) ?_
      refine lv_aload_n hx hb dXM_isFour_10 rfl (lv_at hl 0 rfl) ?_
      refine va_get (D := (dC, dI)) (ci := 2) (v := .int (nI n)) (C := RXM) (T := TXM) (N := 10) hx hb hts hiXM hown hK hP 0 rfl rfl 1 (by decide) hf28 (fun _ h9 => h9) rfl dXM_isFour_11 ?_
      refine bn_gt (tgt := 97) hx hb dXM_isFour_14 (by decide) (by omega) (by omega) (fun c14 => ?_) (fun c14 => ?_)
      · have hfe : fr = n + 1 := hend (by omega)
        refine lv_aload_n hx hb dXM_isFour_97 rfl (lv_at hl 0 rfl) ?_
        refine va_get (D := (dC, dI)) (ci := 2) (v := .int (nI my)) (C := RXM) (T := TXM) (N := 10) hx hb hts hiXM hown hK hP 0 rfl rfl 6 (by decide) hf40 (fun _ h9 => h9) rfl dXM_isFour_98 ?_
        refine lv_iconst (v := nI 4) hx hb dXM_isFour_101 (by decide) ?_
        refine bn_ne (tgt := 109) hx hb dXM_isFour_102 (by decide) (by omega) (by omega) (fun c102 => ?_) (fun c102 => ?_)
        · refine lv_iconst (v := nI 0) hx hb dXM_isFour_109 (by decide) ?_
          exact wt_z hx hb hr (rfl) ((Q, nI my, xg)) (Or.inl ⟨by rw [← hq, az_q4_bad (by omega) (by rw [hfe]; exact az_dc_n (Or.inl (by have := az_pl_le (T := T) (n := n) (mk := 46) (i := n + 1); omega)))], rfl⟩) (hP.sub [0, 1, 2] rfl) hK (hD.sub [0, 1, 2] (by decide) rfl) hS dXM_isFour_110 hlocks
        · refine lv_iconst (v := nI 1) hx hb dXM_isFour_105 (by decide) ?_
          refine lv_goto (tgt := 110) hx hb dXM_isFour_106 (by decide) ?_
          exact wt_z hx hb hr (rfl) ((Q, nI my, xg)) (Or.inr ⟨v, by rw [← hq, show 4 - my = 0 by omega]; exact if_pos hfe, rfl, congrArg nI c102, by have h := hQ; rw [c102] at h; exact h⟩) (hP.sub [0, 1, 2] rfl) hK (hD.sub [0, 1, 2] (by decide) rfl) hS dXM_isFour_110 hlocks
      · refine lv_iload_n hx hb dXM_isFour_17 rfl (lv_at hl 2 rfl) ?_
        refine lv_aload_n hx hb dXM_isFour_18 rfl (lv_at hl 0 rfl) ?_
        refine va_get (D := (dC, dI)) (ci := 2) (v := .int (nI n)) (C := RXM) (T := TXM) (N := 10) hx hb hts hiXM hown hK hP 0 rfl rfl 1 (by decide) hf28 (fun _ h9 => h9) rfl dXM_isFour_19 ?_
        refine bn_ge (tgt := 39) hx hb dXM_isFour_22 (by decide) (by omega) (by omega) (fun c22 => ?_) (fun c22 => ?_)
        · have hpl : az_pl T n 46 fr = k := az_pl_eq hfr (by omega) hnd (fun _ => by first | exact c33 | omega)
          refine lv_aload_n hx hb dXM_isFour_39 rfl (lv_at hl 0 rfl) ?_
          refine va_get (D := (dC, dI)) (ci := 2) (v := .int (nI my)) (C := RXM) (T := TXM) (N := 10) hx hb hts hiXM hown hK hP 0 rfl rfl 6 (by decide) hf40 (fun _ h9 => h9) rfl dXM_isFour_40 ?_
          refine lv_iconst (v := nI 4) hx hb dXM_isFour_43 (by decide) ?_
          refine bn_ge (tgt := 59) hx hb dXM_isFour_44 (by decide) (by omega) (by omega) (fun c44 => ?_) (fun c44 => ?_)
          · refine lv_iconst (v := -1) hx hb dXM_isFour_59 (by decide) ?_
            refine lv_istore_n (lv' := [(3, .int (-1)), (0, .ref m0), (1, .int (nI fr)), (2, .int (nI k))]) hx hb dXM_isFour_60 rfl hl (by decide) rfl (fun ls hl => ?_)
            refine lv_iload_n hx hb dXM_isFour_61 rfl (lv_at hl 0 rfl) ?_
            refine lv_if_ge (tgt := 67) hx hb dXM_isFour_62 (by decide) (fun c => absurd c (by decide)) (fun _ => ?_)
            refine lv_iconst (v := nI 0) hx hb dXM_isFour_65 (by decide) ?_
            exact wt_z hx hb hr (rfl) ((Q, nI my, xg)) (Or.inl ⟨by first | (rw [← hq, az_q4_bad (by omega) (by rw [hpl]; exact hd)]) | (rw [← hq, show 4 - my = 0 by omega]; exact if_neg (by omega)), rfl⟩) (hP.sub [0, 1, 2] rfl) hK (hD.sub [0, 1, 2] (by decide) rfl) hS dXM_isFour_66 hlocks
          · refine lv_aload_n hx hb dXM_isFour_47 rfl (lv_at hl 0 rfl) ?_
            refine lv_iload_n hx hb dXM_isFour_48 rfl (lv_at hl 1 rfl) ?_
            refine lv_iload_n hx hb dXM_isFour_49 rfl (lv_at hl 2 rfl) ?_
            refine lv_sipush (v := nI 255) hx hb dXM_isFour_50 (by decide) ?_
            refine rc_Vi (As := [.int (nI fr), .int (nI k), .int (nI 255)]) (rest := []) ⟨hx, hb, hml, hown, hts⟩ (ct_m_decimal l dC dI m0 mt mb mf ml mp mo n w (nI my) xg dT F T hF hn fr k 255 hfr (by omega) (by omega)) (cwV 3 hts gXM_isFour_XM_decimal rfl rfl rfl (by decide +kernel) ⟨Nat.le_of_ble_eq_true rfl, Nat.le_of_ble_eq_true rfl⟩) (hP.sub [0, 1] rfl) (hK.sub [0] rfl) 0 rfl rfl rfl hl.1 rfl (Nat.le_of_ble_eq_true rfl) dXM_isFour_53 ⟨(Nat.zero_le _), (Nat.zero_le _)⟩ ?_
            rcases hd : az_dc T fr k 255 with _ | d
            · refine tp_i (-1) (rfl) ?_
              refine lv_goto (tgt := 60) hx hb dXM_isFour_56 (by decide) ?_
              refine lv_istore_n (lv' := [(3, .int (-1)), (0, .ref m0), (1, .int (nI fr)), (2, .int (nI k))]) hx hb dXM_isFour_60 rfl hl (by decide) rfl (fun ls hl => ?_)
              refine lv_iload_n hx hb dXM_isFour_61 rfl (lv_at hl 0 rfl) ?_
              refine lv_if_ge (tgt := 67) hx hb dXM_isFour_62 (by decide) (fun c => absurd c (by decide)) (fun _ => ?_)
              refine lv_iconst (v := nI 0) hx hb dXM_isFour_65 (by decide) ?_
              exact wt_z hx hb hr (rfl) ((Q, nI my, xg)) (Or.inl ⟨by first | (rw [← hq, az_q4_bad (by omega) (by rw [hpl]; exact hd)]) | (rw [← hq, show 4 - my = 0 by omega]; exact if_neg (by omega)), rfl⟩) (hP.sub [0, 1, 2] rfl) hK (hD.sub [0, 1, 2] (by decide) rfl) hS dXM_isFour_66 hlocks
            · have hdl := az_dc_le hd
              refine tp_i (nI d) (rfl) ?_
              refine lv_goto (tgt := 60) hx hb dXM_isFour_56 (by decide) ?_
              refine lv_istore_n (lv' := [(3, .int (nI d)), (0, .ref m0), (1, .int (nI fr)), (2, .int (nI k))]) hx hb dXM_isFour_60 rfl hl (by decide) rfl (fun ls hl => ?_)
              refine lv_iload_n hx hb dXM_isFour_61 rfl (lv_at hl 0 rfl) ?_
              refine bz_ge (tgt := 67) hx hb dXM_isFour_62 (by decide) (by omega) ?_
              refine lv_aload_n hx hb dXM_isFour_67 rfl (lv_at hl 1 rfl) ?_
              refine va_get (D := (dC, dI)) (ci := 2) (v := .ref mp) (C := RXM) (T := TXM) (N := 10) hx hb hts hiXM hown hK hP 0 rfl rfl 5 (by decide) hf22 (fun _ h9 => h9) rfl dXM_isFour_68 ?_
              refine lv_aload_n hx hb dXM_isFour_71 rfl (lv_at hl 1 rfl) ?_
              refine va_get (D := (dC, dI)) (ci := 2) (v := .int (nI my)) (C := RXM) (T := TXM) (N := 10) hx hb hts hiXM hown hK hP 0 rfl rfl 6 (by decide) hf40 (fun _ h9 => h9) rfl dXM_isFour_72 ?_
              refine lv_iload_n hx hb dXM_isFour_75 rfl (lv_at hl 0 rfl) ?_
              refine st_i hx hb hK hP hD hS 2 1 rfl rfl (by omega) (by omega) dXM_isFour_76 (fun H locs hP hD hS => ?_)
              have hP : va_P (dC, dI) azCl [(m0, .inr (2, [.ref mt, .int (nI n), .ref mb, .ref mf, .ref ml, .ref mp, .int (nI my), .int xg, .ref mo, .int (nI w)])), (mt, .inl (dT, 60, .inl F)), (mp, .inl (dP, 8, .inl (upd Q my (nI d))))] H := hP
              have hD : va_D A [(m0, .inr (2, [.ref mt, .int (nI n), .ref mb, .ref mf, .ref ml, .ref mp, .int (nI my), .int xg, .ref mo, .int (nI w)])), (mt, .inl (dT, 60, .inl F)), (mp, .inl (dP, 8, .inl (upd Q my (nI d))))] := hD
              refine lv_aload_n hx hb dXM_isFour_77 rfl (lv_at hl 1 rfl) ?_
              refine lv_dup hx hb dXM_isFour_78 rfl ?_
              refine va_get (D := (dC, dI)) (ci := 2) (v := .int (nI my)) (C := RXM) (T := TXM) (N := 10) hx hb hts hiXM hown hK hP 0 rfl rfl 6 (by decide) hf40 (fun _ h9 => h9) rfl dXM_isFour_79 ?_
              refine lv_iconst (v := nI 1) hx hb dXM_isFour_82 (by decide) ?_
              refine lv_iadd hx hb dXM_isFour_83 ?_
              refine tp_i (nI (my + 1)) (nI_add _ _) ?_
              refine va_put (D := (dC, dI)) (ci := 2) (v := .int (nI (my + 1))) (ty := .int) (C := RXM) (T := TXM) (N := 10) hx hb hts hiXM tyXM tyXM_ok nmXM hown hK hP hD hS 0 rfl rfl 6 (by decide) hf40 (fun _ h9 => h9) rfl (by decide +kernel) rfl rfl (Nat.le_of_ble_eq_true rfl) dXM_isFour_84 (fun H locs hP hD hS => ?_)
              have hP : va_P (dC, dI) azCl [(m0, .inr (2, [.ref mt, .int (nI n), .ref mb, .ref mf, .ref ml, .ref mp, .int (nI (my + 1)), .int xg, .ref mo, .int (nI w)])), (mt, .inl (dT, 60, .inl F)), (mp, .inl (dP, 8, .inl (upd Q my (nI d))))] H := hP
              have hD : va_D A [(m0, .inr (2, [.ref mt, .int (nI n), .ref mb, .ref mf, .ref ml, .ref mp, .int (nI (my + 1)), .int xg, .ref mo, .int (nI w)])), (mt, .inl (dT, 60, .inl F)), (mp, .inl (dP, 8, .inl (upd Q my (nI d))))] := hD
              refine lv_iload_n hx hb dXM_isFour_87 rfl (lv_at hl 3 rfl) ?_
              refine lv_iconst (v := nI 1) hx hb dXM_isFour_88 (by decide) ?_
              refine lv_iadd hx hb dXM_isFour_89 ?_
              refine tp_i (nI (k + 1)) (nI_add _ _) ?_
              refine lv_istore_n (lv' := [(1, .int (nI (k + 1))), (3, .int (nI d)), (0, .ref m0), (2, .int (nI k))]) hx hb dXM_isFour_90 rfl hl (by decide) rfl (fun ls hl => ?_)
              refine lv_iinc (v := nI (k + 1)) (lv' := [(2, .int (nI (k + 1))), (1, .int (nI (k + 1))), (3, .int (nI d)), (0, .ref m0)]) hx hb dXM_isFour_91 hl (k := 3) rfl (nI_add _ 1) (by decide) rfl (fun ls hl => ?_)
              refine lv_goto (tgt := 9) hx hb dXM_isFour_94 (by decide) ?_
              exact ih (k + 1) (k + 1) (my + 1) (v * 256 + d) (upd Q my (nI d)) (by omega) (Nat.le_refl _) (by omega) (fun j h1 h2 => by omega) (fun _ => by omega) (az_fp_s hQ hdl) (by have h := az_q4_step (T := T) (n := n) (k := my) (i := fr) (v := v) (by omega) (by rw [hpl]; exact hd); rw [hpl] at h; exact h.symm.trans hq) (by omega) _ _ (hP.sub [0, 1, 2] rfl) (hD.sub [0, 1, 2] (by decide) rfl) hS ls (lv_sub hl [3, 1, 0] rfl)
        · have hTk := (hF k c22).2
          refine lv_aload_n hx hb dXM_isFour_25 rfl (lv_at hl 0 rfl) ?_
          refine va_get (D := (dC, dI)) (ci := 2) (v := .ref mt) (C := RXM) (T := TXM) (N := 10) hx hb hts hiXM hown hK hP 0 rfl rfl 0 (by decide) hf7 (fun _ h9 => h9) rfl dXM_isFour_26 ?_
          refine lv_iload_n hx hb dXM_isFour_29 rfl (lv_at hl 2 rfl) ?_
          refine ld_i hx hb hK hP 1 0 rfl rfl (by omega) (by omega) dXM_isFour_30 ?_
          refine tp_i (nI (T k)) ((hF k (c22)).1) ?_
          refine lv_bipush (v := nI 46) hx hb dXM_isFour_31 (by decide) ?_
          refine bn_eq (tgt := 39) hx hb dXM_isFour_33 (by decide) (by omega) (by omega) (fun c33 => ?_) (fun c33 => ?_)
          · have hpl : az_pl T n 46 fr = k := az_pl_eq hfr (by omega) hnd (fun _ => by first | exact c33 | omega)
            refine lv_aload_n hx hb dXM_isFour_39 rfl (lv_at hl 0 rfl) ?_
            refine va_get (D := (dC, dI)) (ci := 2) (v := .int (nI my)) (C := RXM) (T := TXM) (N := 10) hx hb hts hiXM hown hK hP 0 rfl rfl 6 (by decide) hf40 (fun _ h9 => h9) rfl dXM_isFour_40 ?_
            refine lv_iconst (v := nI 4) hx hb dXM_isFour_43 (by decide) ?_
            refine bn_ge (tgt := 59) hx hb dXM_isFour_44 (by decide) (by omega) (by omega) (fun c44 => ?_) (fun c44 => ?_)
            · refine lv_iconst (v := -1) hx hb dXM_isFour_59 (by decide) ?_
              refine lv_istore_n (lv' := [(3, .int (-1)), (0, .ref m0), (1, .int (nI fr)), (2, .int (nI k))]) hx hb dXM_isFour_60 rfl hl (by decide) rfl (fun ls hl => ?_)
              refine lv_iload_n hx hb dXM_isFour_61 rfl (lv_at hl 0 rfl) ?_
              refine lv_if_ge (tgt := 67) hx hb dXM_isFour_62 (by decide) (fun c => absurd c (by decide)) (fun _ => ?_)
              refine lv_iconst (v := nI 0) hx hb dXM_isFour_65 (by decide) ?_
              exact wt_z hx hb hr (rfl) ((Q, nI my, xg)) (Or.inl ⟨by first | (rw [← hq, az_q4_bad (by omega) (by rw [hpl]; exact hd)]) | (rw [← hq, show 4 - my = 0 by omega]; exact if_neg (by omega)), rfl⟩) (hP.sub [0, 1, 2] rfl) hK (hD.sub [0, 1, 2] (by decide) rfl) hS dXM_isFour_66 hlocks
            · refine lv_aload_n hx hb dXM_isFour_47 rfl (lv_at hl 0 rfl) ?_
              refine lv_iload_n hx hb dXM_isFour_48 rfl (lv_at hl 1 rfl) ?_
              refine lv_iload_n hx hb dXM_isFour_49 rfl (lv_at hl 2 rfl) ?_
              refine lv_sipush (v := nI 255) hx hb dXM_isFour_50 (by decide) ?_
              refine rc_Vi (As := [.int (nI fr), .int (nI k), .int (nI 255)]) (rest := []) ⟨hx, hb, hml, hown, hts⟩ (ct_m_decimal l dC dI m0 mt mb mf ml mp mo n w (nI my) xg dT F T hF hn fr k 255 hfr (by omega) (by omega)) (cwV 3 hts gXM_isFour_XM_decimal rfl rfl rfl (by decide +kernel) ⟨Nat.le_of_ble_eq_true rfl, Nat.le_of_ble_eq_true rfl⟩) (hP.sub [0, 1] rfl) (hK.sub [0] rfl) 0 rfl rfl rfl hl.1 rfl (Nat.le_of_ble_eq_true rfl) dXM_isFour_53 ⟨(Nat.zero_le _), (Nat.zero_le _)⟩ ?_
              rcases hd : az_dc T fr k 255 with _ | d
              · refine tp_i (-1) (rfl) ?_
                refine lv_goto (tgt := 60) hx hb dXM_isFour_56 (by decide) ?_
                refine lv_istore_n (lv' := [(3, .int (-1)), (0, .ref m0), (1, .int (nI fr)), (2, .int (nI k))]) hx hb dXM_isFour_60 rfl hl (by decide) rfl (fun ls hl => ?_)
                refine lv_iload_n hx hb dXM_isFour_61 rfl (lv_at hl 0 rfl) ?_
                refine lv_if_ge (tgt := 67) hx hb dXM_isFour_62 (by decide) (fun c => absurd c (by decide)) (fun _ => ?_)
                refine lv_iconst (v := nI 0) hx hb dXM_isFour_65 (by decide) ?_
                exact wt_z hx hb hr (rfl) ((Q, nI my, xg)) (Or.inl ⟨by first | (rw [← hq, az_q4_bad (by omega) (by rw [hpl]; exact hd)]) | (rw [← hq, show 4 - my = 0 by omega]; exact if_neg (by omega)), rfl⟩) (hP.sub [0, 1, 2] rfl) hK (hD.sub [0, 1, 2] (by decide) rfl) hS dXM_isFour_66 hlocks
              · have hdl := az_dc_le hd
                refine tp_i (nI d) (rfl) ?_
                refine lv_goto (tgt := 60) hx hb dXM_isFour_56 (by decide) ?_
                refine lv_istore_n (lv' := [(3, .int (nI d)), (0, .ref m0), (1, .int (nI fr)), (2, .int (nI k))]) hx hb dXM_isFour_60 rfl hl (by decide) rfl (fun ls hl => ?_)
                refine lv_iload_n hx hb dXM_isFour_61 rfl (lv_at hl 0 rfl) ?_
                refine bz_ge (tgt := 67) hx hb dXM_isFour_62 (by decide) (by omega) ?_
                refine lv_aload_n hx hb dXM_isFour_67 rfl (lv_at hl 1 rfl) ?_
                refine va_get (D := (dC, dI)) (ci := 2) (v := .ref mp) (C := RXM) (T := TXM) (N := 10) hx hb hts hiXM hown hK hP 0 rfl rfl 5 (by decide) hf22 (fun _ h9 => h9) rfl dXM_isFour_68 ?_
                refine lv_aload_n hx hb dXM_isFour_71 rfl (lv_at hl 1 rfl) ?_
                refine va_get (D := (dC, dI)) (ci := 2) (v := .int (nI my)) (C := RXM) (T := TXM) (N := 10) hx hb hts hiXM hown hK hP 0 rfl rfl 6 (by decide) hf40 (fun _ h9 => h9) rfl dXM_isFour_72 ?_
                refine lv_iload_n hx hb dXM_isFour_75 rfl (lv_at hl 0 rfl) ?_
                refine st_i hx hb hK hP hD hS 2 1 rfl rfl (by omega) (by omega) dXM_isFour_76 (fun H locs hP hD hS => ?_)
                have hP : va_P (dC, dI) azCl [(m0, .inr (2, [.ref mt, .int (nI n), .ref mb, .ref mf, .ref ml, .ref mp, .int (nI my), .int xg, .ref mo, .int (nI w)])), (mt, .inl (dT, 60, .inl F)), (mp, .inl (dP, 8, .inl (upd Q my (nI d))))] H := hP
                have hD : va_D A [(m0, .inr (2, [.ref mt, .int (nI n), .ref mb, .ref mf, .ref ml, .ref mp, .int (nI my), .int xg, .ref mo, .int (nI w)])), (mt, .inl (dT, 60, .inl F)), (mp, .inl (dP, 8, .inl (upd Q my (nI d))))] := hD
                refine lv_aload_n hx hb dXM_isFour_77 rfl (lv_at hl 1 rfl) ?_
                refine lv_dup hx hb dXM_isFour_78 rfl ?_
                refine va_get (D := (dC, dI)) (ci := 2) (v := .int (nI my)) (C := RXM) (T := TXM) (N := 10) hx hb hts hiXM hown hK hP 0 rfl rfl 6 (by decide) hf40 (fun _ h9 => h9) rfl dXM_isFour_79 ?_
                refine lv_iconst (v := nI 1) hx hb dXM_isFour_82 (by decide) ?_
                refine lv_iadd hx hb dXM_isFour_83 ?_
                refine tp_i (nI (my + 1)) (nI_add _ _) ?_
                refine va_put (D := (dC, dI)) (ci := 2) (v := .int (nI (my + 1))) (ty := .int) (C := RXM) (T := TXM) (N := 10) hx hb hts hiXM tyXM tyXM_ok nmXM hown hK hP hD hS 0 rfl rfl 6 (by decide) hf40 (fun _ h9 => h9) rfl (by decide +kernel) rfl rfl (Nat.le_of_ble_eq_true rfl) dXM_isFour_84 (fun H locs hP hD hS => ?_)
                have hP : va_P (dC, dI) azCl [(m0, .inr (2, [.ref mt, .int (nI n), .ref mb, .ref mf, .ref ml, .ref mp, .int (nI (my + 1)), .int xg, .ref mo, .int (nI w)])), (mt, .inl (dT, 60, .inl F)), (mp, .inl (dP, 8, .inl (upd Q my (nI d))))] H := hP
                have hD : va_D A [(m0, .inr (2, [.ref mt, .int (nI n), .ref mb, .ref mf, .ref ml, .ref mp, .int (nI (my + 1)), .int xg, .ref mo, .int (nI w)])), (mt, .inl (dT, 60, .inl F)), (mp, .inl (dP, 8, .inl (upd Q my (nI d))))] := hD
                refine lv_iload_n hx hb dXM_isFour_87 rfl (lv_at hl 3 rfl) ?_
                refine lv_iconst (v := nI 1) hx hb dXM_isFour_88 (by decide) ?_
                refine lv_iadd hx hb dXM_isFour_89 ?_
                refine tp_i (nI (k + 1)) (nI_add _ _) ?_
                refine lv_istore_n (lv' := [(1, .int (nI (k + 1))), (3, .int (nI d)), (0, .ref m0), (2, .int (nI k))]) hx hb dXM_isFour_90 rfl hl (by decide) rfl (fun ls hl => ?_)
                refine lv_iinc (v := nI (k + 1)) (lv' := [(2, .int (nI (k + 1))), (1, .int (nI (k + 1))), (3, .int (nI d)), (0, .ref m0)]) hx hb dXM_isFour_91 hl (k := 3) rfl (nI_add _ 1) (by decide) rfl (fun ls hl => ?_)
                refine lv_goto (tgt := 9) hx hb dXM_isFour_94 (by decide) ?_
                exact ih (k + 1) (k + 1) (my + 1) (v * 256 + d) (upd Q my (nI d)) (by omega) (Nat.le_refl _) (by omega) (fun j h1 h2 => by omega) (fun _ => by omega) (az_fp_s hQ hdl) (by have h := az_q4_step (T := T) (n := n) (k := my) (i := fr) (v := v) (by omega) (by rw [hpl]; exact hd); rw [hpl] at h; exact h.symm.trans hq) (by omega) _ _ (hP.sub [0, 1, 2] rfl) (hD.sub [0, 1, 2] (by decide) rfl) hS ls (lv_sub hl [3, 1, 0] rfl)
          · refine lv_goto (tgt := 91) hx hb dXM_isFour_36 (by decide) ?_
            refine lv_iinc (v := nI (k + 1)) (lv' := [(2, .int (nI (k + 1))), (0, .ref m0), (1, .int (nI fr))]) hx hb dXM_isFour_91 hl (k := 2) rfl (nI_add _ 1) (by decide) rfl (fun ls hl => ?_)
            refine lv_goto (tgt := 9) hx hb dXM_isFour_94 (by decide) ?_
            exact ih (k + 1) fr my v Q (by omega) (by omega) (hmy) (fun j h1 h2 => by rcases Nat.lt_or_eq_of_le (Nat.le_of_lt_succ h2) with q | q; exact (hnd j h1 q); exact (by rw [q]; exact c33)) (fun h => by omega) (hQ) (hq) (by omega) _ _ (hP.sub [0, 1, 2] rfl) (hD.sub [0, 1, 2] (by decide) rfl) hS ls (lv_sub hl [1, 2, 0] rfl)
  exact lp9 _ 0 0 0 0 P (Nat.zero_le _) (Nat.le_refl _) (Nat.zero_le _) (fun j _ h => absurd h (Nat.not_lt_zero j)) (fun h => by omega) (az_fp_0 P) (rfl) (Nat.lt_succ_self _) _ _ (hP.sub [0, 1, 2] rfl) (hD.sub [0, 1, 2] (by decide) rfl) hS ls (lv_sub hl [2, 1, 0] rfl)
set_option maxRecDepth 100000 in
set_option maxHeartbeats 4000000 in
/-- isSix() -/
theorem ct_m_isSix (l : Launch) (dC : Nat → ClassId) (dI : Nat → Nat → Nat) (sz : Nat) (m0 mt mb mf ml mp mo n w : Nat) (xm xg : Int32) (dT : ClassId) (F : Nat → Int32) (T : Nat → Nat) (hF : az_mt F T n) (hn : n ≤ 60) (dP : ClassId) (P : Nat → Int32) (hn0 : 0 < n) : Met l yXM_isSix wsXM_isSix ({ frames := 2, cells := 0, slots := 0, locals := 40 }) (wr_P (dC, dI) azCl [(m0, .inr (2, [.ref mt, .int (nI n), .ref mb, .ref mf, .ref ml, .ref mp, .int xm, .int xg, .ref mo, .int (nI w)])), (mt, .inl (dT, 60, .inl F)), (mp, .inl (dP, 8, .inl P))] [(dT, .int), (dP, .int)] sz [.ref m0]) (va_Qi (fun r u => (az_c1 T n 0 [] = none ∧ r = nI 0) ∨ (∃ L g, az_c1 T n 0 [] = some (L, g) ∧ r = nI 1 ∧ u.2.1 = nI L.length ∧ u.2.2 = az_o g ∧ L.length ≤ 8 ∧ az_lp u.1 L)) (wr_B (dC, dI) azCl [(dT, .int), (dP, .int)] (va_A [(m0, .inr (2, [.ref mt, .int (nI n), .ref mb, .ref mf, .ref ml, .ref mp, .int xm, .int xg, .ref mo, .int (nI w)])), (mt, .inl (dT, 60, .inl F)), (mp, .inl (dP, 8, .inl P))] sz) (fun u : (Nat → Int32) × Int32 × Int32 => [(m0, .inr (2, [.ref mt, .int (nI n), .ref mb, .ref mf, .ref ml, .ref mp, .int u.2.1, .int u.2.2, .ref mo, .int (nI w)])), (mt, .inl (dT, 60, .inl F)), (mp, .inl (dP, 8, .inl u.1))])) (va_A [(m0, .inr (2, [.ref mt, .int (nI n), .ref mb, .ref mf, .ref ml, .ref mp, .int xm, .int xg, .ref mo, .int (nI w)])), (mt, .inl (dT, 60, .inl F)), (mp, .inl (dP, 8, .inl P))] sz)) 0 0 (va_A [(m0, .inr (2, [.ref mt, .int (nI n), .ref mb, .ref mf, .ref ml, .ref mp, .int xm, .int xg, .ref mo, .int (nI w)])), (mt, .inl (dT, 60, .inl F)), (mp, .inl (dP, 8, .inl P))] sz) := by
  refine Met.ofW (cc := cXM_isSix) (maxL := 4) (ret := (some .boolean)) (by decide) rfl ?_
  intro p e s m args below meth c s₁ Bd hml hv
  obtain ⟨rfl, hsz, hP, hK, hD0⟩ := hv
  have hx := Bd.exec
  have hb := Bd.bytes
  have hr := Bd.returns
  have hts := atoms_spec (ws := wsXM_isSix) Bd.pre
  have hown : s.vm.findClass RXM = some m.cls := findClass_of_methodNamed Bd.named
  have hlocks := Bd.notSynchronized
  subst hsz
  have hD := hD0.self (sz := s.heap.size)
  generalize hAe : va_A [(m0, .inr (2, [.ref mt, .int (nI n), .ref mb, .ref mf, .ref ml, .ref mp, .int xm, .int xg, .ref mo, .int (nI w)])), (mt, .inl (dT, 60, .inl F)), (mp, .inl (dP, 8, .inl P))] s.heap.size = A at hD ⊢
  have hA : ∀ q : Nat, s.heap.size ≤ q → A q := fun q h => by rw [← hAe]; exact Or.inr h
  have hS : va_S A s.heap s.heap [] := va_S.rf
  have hP : va_P (dC, dI) azCl [(m0, .inr (2, [.ref mt, .int (nI n), .ref mb, .ref mf, .ref ml, .ref mp, .int xm, .int xg, .ref mo, .int (nI w)])), (mt, .inl (dT, 60, .inl F)), (mp, .inl (dP, 8, .inl P))] s.heap := hP
  have hiXM : ∀ w ∈ wsXM0, w ∈ wsXM_isSix := by decide +kernel
  have hf28 := hts (.fieldLink RXM 28 "AddressTextsModel" "size" "I") (by decide +kernel)
  have hf47 := hts (.fieldLink RXM 47 "AddressTextsModel" "gap" "I") (by decide +kernel)
  have hf40 := hts (.fieldLink RXM 40 "AddressTextsModel" "many" "I") (by decide +kernel)
  have hf22 := hts (.fieldLink RXM 22 "AddressTextsModel" "parts" "[I") (by decide +kernel)
  have hf7 := hts (.fieldLink RXM 7 "AddressTextsModel" "tape" "[I") (by decide +kernel)
  have hl := lv_entry ([.ref m0]) (n := 4) (Nat.le_of_ble_eq_true rfl)
  rw [lg_entry_eq]
  generalize (lg_sl ([.ref m0]) ++ List.replicate (4 - (lg_sl ([.ref m0])).length) Slot.unset).toArray = ls at hl ⊢
  have hl : lv_has ls 4 [(0, .ref m0)] := hl
  have jp49 : ∀ (at_ : Nat) (L : List Nat) (g : Option Nat) (Q : Nat → Int32), (at_ ≤ n) → (L.length ≤ 8) → (az_lp Q L) → (az_cc T n g at_ L = az_c1 T n 0 []) → (g = none → at_ < n ∧ at_ < az_gp T n at_) → (∀ q, g = some q → q ≤ 8) → ∀ (H : Heap) (locs : List Loc), va_P (dC, dI) azCl [(m0, .inr (2, [.ref mt, .int (nI n), .ref mb, .ref mf, .ref ml, .ref mp, .int (nI L.length), .int (az_o g), .ref mo, .int (nI w)])), (mt, .inl (dT, 60, .inl F)), (mp, .inl (dP, 8, .inl Q))] H → va_D A [(m0, .inr (2, [.ref mt, .int (nI n), .ref mb, .ref mf, .ref ml, .ref mp, .int (nI L.length), .int (az_o g), .ref mo, .int (nI w)])), (mt, .inl (dT, 60, .inl F)), (mp, .inl (dP, 8, .inl Q))] → va_S A s.heap H locs → ∀ (ls : Array Slot), lv_has ls 4 [(0, .ref m0), (1, .int (nI at_))] → W p l e (headSpec wsXM_isSix ({ frames := 2, cells := 0, slots := 0, locals := 40 })).room s m ([.ref m0] : List Value).toArray below meth c H locs 0 0 (MQ below (va_Qi (fun r u => (az_c1 T n 0 [] = none ∧ r = nI 0) ∨ (∃ L g, az_c1 T n 0 [] = some (L, g) ∧ r = nI 1 ∧ u.2.1 = nI L.length ∧ u.2.2 = az_o g ∧ L.length ≤ 8 ∧ az_lp u.1 L)) (wr_B (dC, dI) azCl [(dT, .int), (dP, .int)] A (fun u : (Nat → Int32) × Int32 × Int32 => [(m0, .inr (2, [.ref mt, .int (nI n), .ref mb, .ref mf, .ref ml, .ref mp, .int u.2.1, .int u.2.2, .ref mo, .int (nI w)])), (mt, .inl (dT, 60, .inl F)), (mp, .inl (dP, 8, .inl u.1))])) A) ([.ref m0] : List Value).toArray s 0 0 A) (F0 m 49 ls []) := by
    intro at_ L g Q hat hL hQ hc hng hgq H locs hP hD hS ls hl
    have lp49 : ∀ (N : Nat) (at_ : Nat) (L : List Nat) (g : Option Nat) (Q : Nat → Int32), (at_ ≤ n) → (L.length ≤ 8) → (az_lp Q L) → (az_cc T n g at_ L = az_c1 T n 0 []) → (g = none → at_ < n ∧ at_ < az_gp T n at_) → (∀ q, g = some q → q ≤ 8) → (n - at_) < N → ∀ (H : Heap) (locs : List Loc), va_P (dC, dI) azCl [(m0, .inr (2, [.ref mt, .int (nI n), .ref mb, .ref mf, .ref ml, .ref mp, .int (nI L.length), .int (az_o g), .ref mo, .int (nI w)])), (mt, .inl (dT, 60, .inl F)), (mp, .inl (dP, 8, .inl Q))] H → va_D A [(m0, .inr (2, [.ref mt, .int (nI n), .ref mb, .ref mf, .ref ml, .ref mp, .int (nI L.length), .int (az_o g), .ref mo, .int (nI w)])), (mt, .inl (dT, 60, .inl F)), (mp, .inl (dP, 8, .inl Q))] → va_S A s.heap H locs → ∀ (ls : Array Slot), lv_has ls 4 [(0, .ref m0), (1, .int (nI at_))] → W p l e (headSpec wsXM_isSix ({ frames := 2, cells := 0, slots := 0, locals := 40 })).room s m ([.ref m0] : List Value).toArray below meth c H locs 0 0 (MQ below (va_Qi (fun r u => (az_c1 T n 0 [] = none ∧ r = nI 0) ∨ (∃ L g, az_c1 T n 0 [] = some (L, g) ∧ r = nI 1 ∧ u.2.1 = nI L.length ∧ u.2.2 = az_o g ∧ L.length ≤ 8 ∧ az_lp u.1 L)) (wr_B (dC, dI) azCl [(dT, .int), (dP, .int)] A (fun u : (Nat → Int32) × Int32 × Int32 => [(m0, .inr (2, [.ref mt, .int (nI n), .ref mb, .ref mf, .ref ml, .ref mp, .int u.2.1, .int u.2.2, .ref mo, .int (nI w)])), (mt, .inl (dT, 60, .inl F)), (mp, .inl (dP, 8, .inl u.1))])) A) ([.ref m0] : List Value).toArray s 0 0 A) (F0 m 49 ls []) := by
      intro N
      induction N with
      | zero => intro at_ L g Q hat hL hQ hc hng hgq hN; exact absurd hN (Nat.not_lt_zero _)
      | succ N ih =>
        intro at_ L g Q hat hL hQ hc hng hgq hN H locs hP hD hS ls hl
        refine lv_iload_n hx hb dXM_isSix_49 rfl (lv_at hl 1 rfl) ?_
        refine lv_aload_n hx hb dXM_isSix_50 rfl (lv_at hl 0 rfl) ?_
        refine va_get (D := (dC, dI)) (ci := 2) (v := .int (nI n)) (C := RXM) (T := TXM) (N := 10) hx hb hts hiXM hown hK hP 0 rfl rfl 1 (by decide) hf28 (fun _ h9 => h9) rfl dXM_isSix_51 ?_
        refine bn_ge (tgt := 219) hx hb dXM_isSix_54 (by decide) (by omega) (by omega) (fun c54 => ?_) (fun c54 => ?_)
        · rcases g with _ | q
          · have hP : va_P (dC, dI) azCl [(m0, .inr (2, [.ref mt, .int (nI n), .ref mb, .ref mf, .ref ml, .ref mp, .int (nI L.length), .int (-1), .ref mo, .int (nI w)])), (mt, .inl (dT, 60, .inl F)), (mp, .inl (dP, 8, .inl Q))] H := hP
            have hD : va_D A [(m0, .inr (2, [.ref mt, .int (nI n), .ref mb, .ref mf, .ref ml, .ref mp, .int (nI L.length), .int (-1), .ref mo, .int (nI w)])), (mt, .inl (dT, 60, .inl F)), (mp, .inl (dP, 8, .inl Q))] := hD
            refine lv_aload_n hx hb dXM_isSix_219 rfl (lv_at hl 0 rfl) ?_
            refine va_get (D := (dC, dI)) (ci := 2) (v := .int (-1)) (C := RXM) (T := TXM) (N := 10) hx hb hts hiXM hown hK hP 0 rfl rfl 7 (by decide) hf47 (fun _ h9 => h9) rfl dXM_isSix_220 ?_
            refine lv_if_ge (tgt := 243) hx hb dXM_isSix_223 (by decide) (fun c => absurd c (by decide)) (fun _ => ?_)
            refine lv_aload_n hx hb dXM_isSix_226 rfl (lv_at hl 0 rfl) ?_
            refine va_get (D := (dC, dI)) (ci := 2) (v := .int (nI L.length)) (C := RXM) (T := TXM) (N := 10) hx hb hts hiXM hown hK hP 0 rfl rfl 6 (by decide) hf40 (fun _ h9 => h9) rfl dXM_isSix_227 ?_
            refine lv_bipush (v := nI 8) hx hb dXM_isSix_230 (by decide) ?_
            refine bn_ne (tgt := 239) hx hb dXM_isSix_232 (by decide) (by omega) (by omega) (fun c232 => ?_) (fun c232 => ?_)
            · refine lv_iconst (v := nI 0) hx hb dXM_isSix_239 (by decide) ?_
              refine lv_goto (tgt := 257) hx hb dXM_isSix_240 (by decide) ?_
              exact wt_z hx hb hr (rfl) ((Q, nI L.length, -1)) (absurd (hng rfl).1 (by omega)) (hP.sub [0, 1, 2] rfl) hK (hD.sub [0, 1, 2] (by decide) rfl) hS dXM_isSix_257 hlocks
            · refine lv_iconst (v := nI 1) hx hb dXM_isSix_235 (by decide) ?_
              refine lv_goto (tgt := 257) hx hb dXM_isSix_236 (by decide) ?_
              exact wt_z hx hb hr (rfl) ((Q, nI L.length, -1)) (absurd (hng rfl).1 (by omega)) (hP.sub [0, 1, 2] rfl) hK (hD.sub [0, 1, 2] (by decide) rfl) hS dXM_isSix_257 hlocks
          · have hP : va_P (dC, dI) azCl [(m0, .inr (2, [.ref mt, .int (nI n), .ref mb, .ref mf, .ref ml, .ref mp, .int (nI L.length), .int (nI q), .ref mo, .int (nI w)])), (mt, .inl (dT, 60, .inl F)), (mp, .inl (dP, 8, .inl Q))] H := hP
            have hD : va_D A [(m0, .inr (2, [.ref mt, .int (nI n), .ref mb, .ref mf, .ref ml, .ref mp, .int (nI L.length), .int (nI q), .ref mo, .int (nI w)])), (mt, .inl (dT, 60, .inl F)), (mp, .inl (dP, 8, .inl Q))] := hD
            have hq8 := hgq q rfl
            refine lv_aload_n hx hb dXM_isSix_219 rfl (lv_at hl 0 rfl) ?_
            refine va_get (D := (dC, dI)) (ci := 2) (v := .int (nI q)) (C := RXM) (T := TXM) (N := 10) hx hb hts hiXM hown hK hP 0 rfl rfl 7 (by decide) hf47 (fun _ h9 => h9) rfl dXM_isSix_220 ?_
            refine bz_ge (tgt := 243) hx hb dXM_isSix_223 (by decide) (by omega) ?_
            refine lv_aload_n hx hb dXM_isSix_243 rfl (lv_at hl 0 rfl) ?_
            refine va_get (D := (dC, dI)) (ci := 2) (v := .int (nI L.length)) (C := RXM) (T := TXM) (N := 10) hx hb hts hiXM hown hK hP 0 rfl rfl 6 (by decide) hf40 (fun _ h9 => h9) rfl dXM_isSix_244 ?_
            refine lv_bipush (v := nI 8) hx hb dXM_isSix_247 (by decide) ?_
            refine bn_ge (tgt := 256) hx hb dXM_isSix_249 (by decide) (by omega) (by omega) (fun c249 => ?_) (fun c249 => ?_)
            · refine lv_iconst (v := nI 0) hx hb dXM_isSix_256 (by decide) ?_
              exact wt_z hx hb hr (rfl) ((Q, nI L.length, nI q)) (Or.inl ⟨by rw [← hc]; exact (ay_2done (by omega)).trans (if_neg (by omega)), rfl⟩) (hP.sub [0, 1, 2] rfl) hK (hD.sub [0, 1, 2] (by decide) rfl) hS dXM_isSix_257 hlocks
            · refine lv_iconst (v := nI 1) hx hb dXM_isSix_252 (by decide) ?_
              refine lv_goto (tgt := 257) hx hb dXM_isSix_253 (by decide) ?_
              exact wt_z hx hb hr (rfl) ((Q, nI L.length, nI q)) (Or.inr ⟨L, some q, by rw [← hc]; exact (ay_2done (by omega)).trans (if_pos c249), rfl, rfl, rfl, hL, hQ⟩) (hP.sub [0, 1, 2] rfl) hK (hD.sub [0, 1, 2] (by decide) rfl) hS dXM_isSix_257 hlocks
        · have jp110 : ∀ (j : Nat) (v : Nat), (j ≤ 4) → (at_ + j ≤ n) → (az_hp T at_ j v) → (at_ + j = n ∨ j = 4 ∨ az_hd (T (at_ + j)) = none) → ∀ (H : Heap) (locs : List Loc), va_P (dC, dI) azCl [(m0, .inr (2, [.ref mt, .int (nI n), .ref mb, .ref mf, .ref ml, .ref mp, .int (nI L.length), .int (az_o g), .ref mo, .int (nI w)])), (mt, .inl (dT, 60, .inl F)), (mp, .inl (dP, 8, .inl Q))] H → va_D A [(m0, .inr (2, [.ref mt, .int (nI n), .ref mb, .ref mf, .ref ml, .ref mp, .int (nI L.length), .int (az_o g), .ref mo, .int (nI w)])), (mt, .inl (dT, 60, .inl F)), (mp, .inl (dP, 8, .inl Q))] → va_S A s.heap H locs → ∀ (ls : Array Slot), lv_has ls 4 [(0, .ref m0), (1, .int (nI (at_ + j))), (2, .int (nI v)), (3, .int (nI j))] → W p l e (headSpec wsXM_isSix ({ frames := 2, cells := 0, slots := 0, locals := 40 })).room s m ([.ref m0] : List Value).toArray below meth c H locs 0 0 (MQ below (va_Qi (fun r u => (az_c1 T n 0 [] = none ∧ r = nI 0) ∨ (∃ L g, az_c1 T n 0 [] = some (L, g) ∧ r = nI 1 ∧ u.2.1 = nI L.length ∧ u.2.2 = az_o g ∧ L.length ≤ 8 ∧ az_lp u.1 L)) (wr_B (dC, dI) azCl [(dT, .int), (dP, .int)] A (fun u : (Nat → Int32) × Int32 × Int32 => [(m0, .inr (2, [.ref mt, .int (nI n), .ref mb, .ref mf, .ref ml, .ref mp, .int u.2.1, .int u.2.2, .ref mo, .int (nI w)])), (mt, .inl (dT, 60, .inl F)), (mp, .inl (dP, 8, .inl u.1))])) A) ([.ref m0] : List Value).toArray s 0 0 A) (F0 m 110 ls []) := by
            intro j v hj hjn hp hE H locs hP hD hS ls hl
            have hv16 : v < 65536 := Nat.lt_of_lt_of_le hp.2.2 (Nat.pow_le_pow_right (n := 16) (j := 4) (by decide) hj)
            refine lv_iload_n hx hb dXM_isSix_110 rfl (lv_at hl 3 rfl) ?_
            refine bz_eq (tgt := 123) hx hb dXM_isSix_111 (by decide) (by omega) (fun c111 => ?_) (fun c111 => ?_)
            · refine lv_iconst (v := nI 0) hx hb dXM_isSix_123 (by decide) ?_
              exact wt_z hx hb hr (rfl) ((Q, nI L.length, az_o g)) (Or.inl ⟨by rw [← hc]; first | exact az_cc_full hng (by assumption) | exact az_cc_bad (by omega) hng (az_hp_none (by omega) (by subst c111; rcases hE with q | q | q; exact (by omega); exact (by omega); exact (q))), rfl⟩) (hP.sub [0, 1, 2] rfl) hK (hD.sub [0, 1, 2] (by decide) rfl) hS dXM_isSix_124 hlocks
            · refine lv_aload_n hx hb dXM_isSix_114 rfl (lv_at hl 0 rfl) ?_
              refine va_get (D := (dC, dI)) (ci := 2) (v := .int (nI L.length)) (C := RXM) (T := TXM) (N := 10) hx hb hts hiXM hown hK hP 0 rfl rfl 6 (by decide) hf40 (fun _ h9 => h9) rfl dXM_isSix_115 ?_
              refine lv_bipush (v := nI 8) hx hb dXM_isSix_118 (by decide) ?_
              refine bn_ne (tgt := 125) hx hb dXM_isSix_120 (by decide) (by omega) (by omega) (fun c120 => ?_) (fun c120 => ?_)
              · refine lv_aload_n hx hb dXM_isSix_125 rfl (lv_at hl 0 rfl) ?_
                refine va_get (D := (dC, dI)) (ci := 2) (v := .ref mp) (C := RXM) (T := TXM) (N := 10) hx hb hts hiXM hown hK hP 0 rfl rfl 5 (by decide) hf22 (fun _ h9 => h9) rfl dXM_isSix_126 ?_
                refine lv_aload_n hx hb dXM_isSix_129 rfl (lv_at hl 0 rfl) ?_
                refine va_get (D := (dC, dI)) (ci := 2) (v := .int (nI L.length)) (C := RXM) (T := TXM) (N := 10) hx hb hts hiXM hown hK hP 0 rfl rfl 6 (by decide) hf40 (fun _ h9 => h9) rfl dXM_isSix_130 ?_
                refine lv_iload_n hx hb dXM_isSix_133 rfl (lv_at hl 2 rfl) ?_
                refine st_i hx hb hK hP hD hS 2 1 rfl rfl (by omega) (by omega) dXM_isSix_134 (fun H locs hP hD hS => ?_)
                have hP : va_P (dC, dI) azCl [(m0, .inr (2, [.ref mt, .int (nI n), .ref mb, .ref mf, .ref ml, .ref mp, .int (nI L.length), .int (az_o g), .ref mo, .int (nI w)])), (mt, .inl (dT, 60, .inl F)), (mp, .inl (dP, 8, .inl (upd Q L.length (nI v))))] H := hP
                have hD : va_D A [(m0, .inr (2, [.ref mt, .int (nI n), .ref mb, .ref mf, .ref ml, .ref mp, .int (nI L.length), .int (az_o g), .ref mo, .int (nI w)])), (mt, .inl (dT, 60, .inl F)), (mp, .inl (dP, 8, .inl (upd Q L.length (nI v))))] := hD
                refine lv_aload_n hx hb dXM_isSix_135 rfl (lv_at hl 0 rfl) ?_
                refine lv_dup hx hb dXM_isSix_136 rfl ?_
                refine va_get (D := (dC, dI)) (ci := 2) (v := .int (nI L.length)) (C := RXM) (T := TXM) (N := 10) hx hb hts hiXM hown hK hP 0 rfl rfl 6 (by decide) hf40 (fun _ h9 => h9) rfl dXM_isSix_137 ?_
                refine lv_iconst (v := nI 1) hx hb dXM_isSix_140 (by decide) ?_
                refine lv_iadd hx hb dXM_isSix_141 ?_
                refine tp_i (nI (L.length + 1)) (nI_add _ _) ?_
                refine va_put (D := (dC, dI)) (ci := 2) (v := .int (nI (L.length + 1))) (ty := .int) (C := RXM) (T := TXM) (N := 10) hx hb hts hiXM tyXM tyXM_ok nmXM hown hK hP hD hS 0 rfl rfl 6 (by decide) hf40 (fun _ h9 => h9) rfl (by decide +kernel) rfl rfl (Nat.le_of_ble_eq_true rfl) dXM_isSix_142 (fun H locs hP hD hS => ?_)
                have hP : va_P (dC, dI) azCl [(m0, .inr (2, [.ref mt, .int (nI n), .ref mb, .ref mf, .ref ml, .ref mp, .int (nI (L.length + 1)), .int (az_o g), .ref mo, .int (nI w)])), (mt, .inl (dT, 60, .inl F)), (mp, .inl (dP, 8, .inl (upd Q L.length (nI v))))] H := hP
                have hD : va_D A [(m0, .inr (2, [.ref mt, .int (nI n), .ref mb, .ref mf, .ref ml, .ref mp, .int (nI (L.length + 1)), .int (az_o g), .ref mo, .int (nI w)])), (mt, .inl (dT, 60, .inl F)), (mp, .inl (dP, 8, .inl (upd Q L.length (nI v))))] := hD
                have hP : va_P (dC, dI) azCl [(m0, .inr (2, [.ref mt, .int (nI n), .ref mb, .ref mf, .ref ml, .ref mp, .int (nI ((L ++ [v]).length)), .int (az_o g), .ref mo, .int (nI w)])), (mt, .inl (dT, 60, .inl F)), (mp, .inl (dP, 8, .inl (upd Q L.length (nI v))))] H := by rw [List.length_append]; exact hP
                have hD : va_D A [(m0, .inr (2, [.ref mt, .int (nI n), .ref mb, .ref mf, .ref ml, .ref mp, .int (nI ((L ++ [v]).length)), .int (az_o g), .ref mo, .int (nI w)])), (mt, .inl (dT, 60, .inl F)), (mp, .inl (dP, 8, .inl (upd Q L.length (nI v))))] := by rw [List.length_append]; exact hD
                have hll : (L ++ [v]).length = L.length + 1 := List.length_append
                refine lv_iload_n hx hb dXM_isSix_145 rfl (lv_at hl 1 rfl) ?_
                refine lv_aload_n hx hb dXM_isSix_146 rfl (lv_at hl 0 rfl) ?_
                refine va_get (D := (dC, dI)) (ci := 2) (v := .int (nI n)) (C := RXM) (T := TXM) (N := 10) hx hb hts hiXM hown hK hP 0 rfl rfl 1 (by decide) hf28 (fun _ h9 => h9) rfl dXM_isSix_147 ?_
                refine bn_ne (tgt := 156) hx hb dXM_isSix_150 (by decide) (by omega) (by omega) (fun c150 => ?_) (fun c150 => ?_)
                · have hlt : at_ + j < n := by omega
                  have hTj := (hF (at_ + j) hlt).2
                  refine lv_aload_n hx hb dXM_isSix_156 rfl (lv_at hl 0 rfl) ?_
                  refine va_get (D := (dC, dI)) (ci := 2) (v := .ref mt) (C := RXM) (T := TXM) (N := 10) hx hb hts hiXM hown hK hP 0 rfl rfl 0 (by decide) hf7 (fun _ h9 => h9) rfl dXM_isSix_157 ?_
                  refine lv_iload_n hx hb dXM_isSix_160 rfl (lv_at hl 1 rfl) ?_
                  refine ld_i hx hb hK hP 1 0 rfl rfl (by omega) (by omega) dXM_isSix_161 ?_
                  refine tp_i (nI (T (at_ + j))) ((hF (at_ + j) (hlt)).1) ?_
                  refine lv_bipush (v := nI 58) hx hb dXM_isSix_162 (by decide) ?_
                  refine bn_ne (tgt := 177) hx hb dXM_isSix_164 (by decide) (by omega) (by omega) (fun c164 => ?_) (fun c164 => ?_)
                  · refine lv_iconst (v := nI 0) hx hb dXM_isSix_177 (by decide) ?_
                    exact wt_z hx hb hr (rfl) ((upd Q L.length (nI v), nI ((L ++ [v]).length), az_o g)) (Or.inl ⟨by rw [← hc]; first | exact az_cc_bad (by omega) hng (az_hp_no hp hj hlt c164 (by rcases hE with q | q; exact (by omega); exact (q))) | exact az_cc_last (by omega) (by rw [hplx]; exact c174) hok, rfl⟩) (hP.sub [0, 1, 2] rfl) hK (hD.sub [0, 1, 2] (by decide) rfl) hS dXM_isSix_178 hlocks
                  · have hplx : az_pl T n 58 at_ = at_ + j := az_hp_pl hp hjn (fun _ => c164)
                    have hok : az_hx T at_ (az_pl T n 58 at_) = some v := az_hp_ok hp (by omega) hj hjn (fun _ => c164)
                    refine lv_iload_n hx hb dXM_isSix_167 rfl (lv_at hl 1 rfl) ?_
                    refine lv_iconst (v := nI 1) hx hb dXM_isSix_168 (by decide) ?_
                    refine lv_iadd hx hb dXM_isSix_169 ?_
                    refine tp_i (nI ((at_ + j) + 1)) (nI_add _ _) ?_
                    refine lv_aload_n hx hb dXM_isSix_170 rfl (lv_at hl 0 rfl) ?_
                    refine va_get (D := (dC, dI)) (ci := 2) (v := .int (nI n)) (C := RXM) (T := TXM) (N := 10) hx hb hts hiXM hown hK hP 0 rfl rfl 1 (by decide) hf28 (fun _ h9 => h9) rfl dXM_isSix_171 ?_
                    refine bn_ne (tgt := 179) hx hb dXM_isSix_174 (by decide) (by omega) (by omega) (fun c174 => ?_) (fun c174 => ?_)
                    · refine lv_iinc (v := nI (at_ + j + 1)) (lv' := [(1, .int (nI (at_ + j + 1))), (0, .ref m0), (2, .int (nI v)), (3, .int (nI j))]) hx hb dXM_isSix_179 hl (k := 1) rfl (nI_add _ 1) (by decide) rfl (fun ls hl => ?_)
                      have hTk := (hF (at_ + j + 1) (by omega)).2
                      refine lv_aload_n hx hb dXM_isSix_182 rfl (lv_at hl 1 rfl) ?_
                      refine va_get (D := (dC, dI)) (ci := 2) (v := .ref mt) (C := RXM) (T := TXM) (N := 10) hx hb hts hiXM hown hK hP 0 rfl rfl 0 (by decide) hf7 (fun _ h9 => h9) rfl dXM_isSix_183 ?_
                      refine lv_iload_n hx hb dXM_isSix_186 rfl (lv_at hl 0 rfl) ?_
                      refine ld_i hx hb hK hP 1 0 rfl rfl (by omega) (by omega) dXM_isSix_187 ?_
                      refine tp_i (nI (T (at_ + j + 1))) ((hF (at_ + j + 1) (by omega)).1) ?_
                      refine lv_bipush (v := nI 58) hx hb dXM_isSix_188 (by decide) ?_
                      refine bn_eq (tgt := 196) hx hb dXM_isSix_190 (by decide) (by omega) (by omega) (fun c190 => ?_) (fun c190 => ?_)
                      · rcases g with _ | q
                        · have hP : va_P (dC, dI) azCl [(m0, .inr (2, [.ref mt, .int (nI n), .ref mb, .ref mf, .ref ml, .ref mp, .int (nI ((L ++ [v]).length)), .int (-1), .ref mo, .int (nI w)])), (mt, .inl (dT, 60, .inl F)), (mp, .inl (dP, 8, .inl (upd Q L.length (nI v))))] H := hP
                          have hD : va_D A [(m0, .inr (2, [.ref mt, .int (nI n), .ref mb, .ref mf, .ref ml, .ref mp, .int (nI ((L ++ [v]).length)), .int (-1), .ref mo, .int (nI w)])), (mt, .inl (dT, 60, .inl F)), (mp, .inl (dP, 8, .inl (upd Q L.length (nI v))))] := hD
                          refine lv_aload_n hx hb dXM_isSix_196 rfl (lv_at hl 1 rfl) ?_
                          refine va_get (D := (dC, dI)) (ci := 2) (v := .int (-1)) (C := RXM) (T := TXM) (N := 10) hx hb hts hiXM hown hK hP 0 rfl rfl 7 (by decide) hf47 (fun _ h9 => h9) rfl dXM_isSix_197 ?_
                          refine lv_if_lt (tgt := 205) hx hb dXM_isSix_200 (by decide) (fun _ => ?_) (fun c => absurd c (by decide))
                          refine lv_aload_n hx hb dXM_isSix_205 rfl (lv_at hl 1 rfl) ?_
                          refine lv_aload_n hx hb dXM_isSix_206 rfl (lv_at hl 1 rfl) ?_
                          refine va_get (D := (dC, dI)) (ci := 2) (v := .int (nI ((L ++ [v]).length))) (C := RXM) (T := TXM) (N := 10) hx hb hts hiXM hown hK hP 0 rfl rfl 6 (by decide) hf40 (fun _ h9 => h9) rfl dXM_isSix_207 ?_
                          refine va_put (D := (dC, dI)) (ci := 2) (v := .int (nI ((L ++ [v]).length))) (ty := .int) (C := RXM) (T := TXM) (N := 10) hx hb hts hiXM tyXM tyXM_ok nmXM hown hK hP hD hS 0 rfl rfl 7 (by decide) hf47 (fun _ h9 => h9) rfl (by decide +kernel) rfl rfl (Nat.le_of_ble_eq_true rfl) dXM_isSix_210 (fun H locs hP hD hS => ?_)
                          have hP : va_P (dC, dI) azCl [(m0, .inr (2, [.ref mt, .int (nI n), .ref mb, .ref mf, .ref ml, .ref mp, .int (nI ((L ++ [v]).length)), .int (nI ((L ++ [v]).length)), .ref mo, .int (nI w)])), (mt, .inl (dT, 60, .inl F)), (mp, .inl (dP, 8, .inl (upd Q L.length (nI v))))] H := hP
                          have hD : va_D A [(m0, .inr (2, [.ref mt, .int (nI n), .ref mb, .ref mf, .ref ml, .ref mp, .int (nI ((L ++ [v]).length)), .int (nI ((L ++ [v]).length)), .ref mo, .int (nI w)])), (mt, .inl (dT, 60, .inl F)), (mp, .inl (dP, 8, .inl (upd Q L.length (nI v))))] := hD
                          refine lv_iinc (v := nI (at_ + j + 1 + 1)) (lv' := [(1, .int (nI (at_ + j + 1 + 1))), (0, .ref m0), (2, .int (nI v)), (3, .int (nI j))]) hx hb dXM_isSix_213 hl (k := 0) rfl (nI_add _ 1) (by decide) rfl (fun ls hl => ?_)
                          refine lv_goto (tgt := 49) hx hb dXM_isSix_216 (by decide) ?_
                          exact ih (at_ + j + 1 + 1) (L ++ [v]) (some (L ++ [v]).length) (upd Q L.length (nI v)) (by omega) (by rw [List.length_append]; show L.length + 1 ≤ 8; omega) (az_lp_s hQ hv16) (by rw [← hc]; exact (az_cc_gapn (by omega) (by omega) hplx c190 hok).symm) (fun h => by cases h) (fun q h => by cases h; omega) (by omega) _ _ (hP.sub [0, 1, 2] rfl) (hD.sub [0, 1, 2] (by decide) rfl) hS ls (lv_sub hl [1, 0] rfl)
                        · have hP : va_P (dC, dI) azCl [(m0, .inr (2, [.ref mt, .int (nI n), .ref mb, .ref mf, .ref ml, .ref mp, .int (nI ((L ++ [v]).length)), .int (nI q), .ref mo, .int (nI w)])), (mt, .inl (dT, 60, .inl F)), (mp, .inl (dP, 8, .inl (upd Q L.length (nI v))))] H := hP
                          have hD : va_D A [(m0, .inr (2, [.ref mt, .int (nI n), .ref mb, .ref mf, .ref ml, .ref mp, .int (nI ((L ++ [v]).length)), .int (nI q), .ref mo, .int (nI w)])), (mt, .inl (dT, 60, .inl F)), (mp, .inl (dP, 8, .inl (upd Q L.length (nI v))))] := hD
                          have hq8 := hgq q rfl
                          refine lv_aload_n hx hb dXM_isSix_196 rfl (lv_at hl 1 rfl) ?_
                          refine va_get (D := (dC, dI)) (ci := 2) (v := .int (nI q)) (C := RXM) (T := TXM) (N := 10) hx hb hts hiXM hown hK hP 0 rfl rfl 7 (by decide) hf47 (fun _ h9 => h9) rfl dXM_isSix_197 ?_
                          refine bz_lt (tgt := 205) hx hb dXM_isSix_200 (by decide) (by omega) ?_
                          refine lv_iconst (v := nI 0) hx hb dXM_isSix_203 (by decide) ?_
                          exact wt_z hx hb hr (rfl) ((upd Q L.length (nI v), nI ((L ++ [v]).length), nI q)) (Or.inl ⟨by rw [← hc]; exact az_cc_gaps (by omega) (by omega) hplx c190 hok, rfl⟩) (hP.sub [0, 1, 2] rfl) hK (hD.sub [0, 1, 2] (by decide) rfl) hS dXM_isSix_204 hlocks
                      · refine lv_goto (tgt := 49) hx hb dXM_isSix_193 (by decide) ?_
                        exact ih (at_ + j + 1) (L ++ [v]) g (upd Q L.length (nI v)) (by omega) (by rw [List.length_append]; show L.length + 1 ≤ 8; omega) (az_lp_s hQ hv16) (by rw [← hc]; exact (az_cc_next (by omega) (by omega) hplx c190 hok).symm) (fun _ => ⟨by omega, az_gp_ge (by omega) c190⟩) (hgq) (by omega) _ _ (hP.sub [0, 1, 2] rfl) (hD.sub [0, 1, 2] (by decide) rfl) hS ls (lv_sub hl [1, 0] rfl)
                    · refine lv_iconst (v := nI 0) hx hb dXM_isSix_177 (by decide) ?_
                      exact wt_z hx hb hr (rfl) ((upd Q L.length (nI v), nI ((L ++ [v]).length), az_o g)) (Or.inl ⟨by rw [← hc]; first | exact az_cc_bad (by omega) hng (az_hp_no hp hj hlt c164 (by rcases hE with q | q; exact (by omega); exact (q))) | exact az_cc_last (by omega) (by rw [hplx]; exact c174) hok, rfl⟩) (hP.sub [0, 1, 2] rfl) hK (hD.sub [0, 1, 2] (by decide) rfl) hS dXM_isSix_178 hlocks
                · refine lv_goto (tgt := 219) hx hb dXM_isSix_153 (by decide) ?_
                  rcases g with _ | q
                  · have hP : va_P (dC, dI) azCl [(m0, .inr (2, [.ref mt, .int (nI n), .ref mb, .ref mf, .ref ml, .ref mp, .int (nI ((L ++ [v]).length)), .int (-1), .ref mo, .int (nI w)])), (mt, .inl (dT, 60, .inl F)), (mp, .inl (dP, 8, .inl (upd Q L.length (nI v))))] H := hP
                    have hD : va_D A [(m0, .inr (2, [.ref mt, .int (nI n), .ref mb, .ref mf, .ref ml, .ref mp, .int (nI ((L ++ [v]).length)), .int (-1), .ref mo, .int (nI w)])), (mt, .inl (dT, 60, .inl F)), (mp, .inl (dP, 8, .inl (upd Q L.length (nI v))))] := hD
                    refine lv_aload_n hx hb dXM_isSix_219 rfl (lv_at hl 0 rfl) ?_
                    refine va_get (D := (dC, dI)) (ci := 2) (v := .int (-1)) (C := RXM) (T := TXM) (N := 10) hx hb hts hiXM hown hK hP 0 rfl rfl 7 (by decide) hf47 (fun _ h9 => h9) rfl dXM_isSix_220 ?_
                    refine lv_if_ge (tgt := 243) hx hb dXM_isSix_223 (by decide) (fun c => absurd c (by decide)) (fun _ => ?_)
                    refine lv_aload_n hx hb dXM_isSix_226 rfl (lv_at hl 0 rfl) ?_
                    refine va_get (D := (dC, dI)) (ci := 2) (v := .int (nI ((L ++ [v]).length))) (C := RXM) (T := TXM) (N := 10) hx hb hts hiXM hown hK hP 0 rfl rfl 6 (by decide) hf40 (fun _ h9 => h9) rfl dXM_isSix_227 ?_
                    refine lv_bipush (v := nI 8) hx hb dXM_isSix_230 (by decide) ?_
                    refine bn_ne (tgt := 239) hx hb dXM_isSix_232 (by decide) (by omega) (by omega) (fun c232 => ?_) (fun c232 => ?_)
                    · refine lv_iconst (v := nI 0) hx hb dXM_isSix_239 (by decide) ?_
                      refine lv_goto (tgt := 257) hx hb dXM_isSix_240 (by decide) ?_
                      exact wt_z hx hb hr (rfl) ((upd Q L.length (nI v), nI ((L ++ [v]).length), -1)) (by have hll : (L ++ [v]).length = L.length + 1 := List.length_append; exact Or.inl ⟨by rw [← hc]; exact (az_cc_end (by omega) (by rw [az_hp_pl hp hjn (fun _ => by omega)]; exact c150) (az_hp_ok hp (by omega) hj hjn (fun _ => by omega))).trans (if_neg (fun z => by rcases z with ⟨_, z⟩ | ⟨z, _⟩; exact (by omega); exact (z rfl))), rfl⟩) (hP.sub [0, 1, 2] rfl) hK (hD.sub [0, 1, 2] (by decide) rfl) hS dXM_isSix_257 hlocks
                    · refine lv_iconst (v := nI 1) hx hb dXM_isSix_235 (by decide) ?_
                      refine lv_goto (tgt := 257) hx hb dXM_isSix_236 (by decide) ?_
                      exact wt_z hx hb hr (rfl) ((upd Q L.length (nI v), nI ((L ++ [v]).length), -1)) (by have hll : (L ++ [v]).length = L.length + 1 := List.length_append; exact Or.inr ⟨L ++ [v], none, by rw [← hc]; exact (az_cc_end (by omega) (by rw [az_hp_pl hp hjn (fun _ => by omega)]; exact c150) (az_hp_ok hp (by omega) hj hjn (fun _ => by omega))).trans (if_pos (Or.inl ⟨rfl, by omega⟩)), rfl, rfl, rfl, by omega, az_lp_s hQ hv16⟩) (hP.sub [0, 1, 2] rfl) hK (hD.sub [0, 1, 2] (by decide) rfl) hS dXM_isSix_257 hlocks
                  · have hP : va_P (dC, dI) azCl [(m0, .inr (2, [.ref mt, .int (nI n), .ref mb, .ref mf, .ref ml, .ref mp, .int (nI ((L ++ [v]).length)), .int (nI q), .ref mo, .int (nI w)])), (mt, .inl (dT, 60, .inl F)), (mp, .inl (dP, 8, .inl (upd Q L.length (nI v))))] H := hP
                    have hD : va_D A [(m0, .inr (2, [.ref mt, .int (nI n), .ref mb, .ref mf, .ref ml, .ref mp, .int (nI ((L ++ [v]).length)), .int (nI q), .ref mo, .int (nI w)])), (mt, .inl (dT, 60, .inl F)), (mp, .inl (dP, 8, .inl (upd Q L.length (nI v))))] := hD
                    have hq8 := hgq q rfl
                    refine lv_aload_n hx hb dXM_isSix_219 rfl (lv_at hl 0 rfl) ?_
                    refine va_get (D := (dC, dI)) (ci := 2) (v := .int (nI q)) (C := RXM) (T := TXM) (N := 10) hx hb hts hiXM hown hK hP 0 rfl rfl 7 (by decide) hf47 (fun _ h9 => h9) rfl dXM_isSix_220 ?_
                    refine bz_ge (tgt := 243) hx hb dXM_isSix_223 (by decide) (by omega) ?_
                    refine lv_aload_n hx hb dXM_isSix_243 rfl (lv_at hl 0 rfl) ?_
                    refine va_get (D := (dC, dI)) (ci := 2) (v := .int (nI ((L ++ [v]).length))) (C := RXM) (T := TXM) (N := 10) hx hb hts hiXM hown hK hP 0 rfl rfl 6 (by decide) hf40 (fun _ h9 => h9) rfl dXM_isSix_244 ?_
                    refine lv_bipush (v := nI 8) hx hb dXM_isSix_247 (by decide) ?_
                    refine bn_ge (tgt := 256) hx hb dXM_isSix_249 (by decide) (by omega) (by omega) (fun c249 => ?_) (fun c249 => ?_)
                    · refine lv_iconst (v := nI 0) hx hb dXM_isSix_256 (by decide) ?_
                      exact wt_z hx hb hr (rfl) ((upd Q L.length (nI v), nI ((L ++ [v]).length), nI q)) (by have hll : (L ++ [v]).length = L.length + 1 := List.length_append; exact Or.inl ⟨by rw [← hc]; exact (az_cc_end (by omega) (by rw [az_hp_pl hp hjn (fun _ => by omega)]; exact c150) (az_hp_ok hp (by omega) hj hjn (fun _ => by omega))).trans (if_neg (fun z => by rcases z with ⟨z, _⟩ | ⟨_, z⟩; exact (by cases z); exact (by omega))), rfl⟩) (hP.sub [0, 1, 2] rfl) hK (hD.sub [0, 1, 2] (by decide) rfl) hS dXM_isSix_257 hlocks
                    · refine lv_iconst (v := nI 1) hx hb dXM_isSix_252 (by decide) ?_
                      refine lv_goto (tgt := 257) hx hb dXM_isSix_253 (by decide) ?_
                      exact wt_z hx hb hr (rfl) ((upd Q L.length (nI v), nI ((L ++ [v]).length), nI q)) (by have hll : (L ++ [v]).length = L.length + 1 := List.length_append; exact Or.inr ⟨L ++ [v], some q, by rw [← hc]; exact (az_cc_end (by omega) (by rw [az_hp_pl hp hjn (fun _ => by omega)]; exact c150) (az_hp_ok hp (by omega) hj hjn (fun _ => by omega))).trans (if_pos (Or.inr ⟨(fun z => by cases z), by omega⟩)), rfl, rfl, rfl, by omega, az_lp_s hQ hv16⟩) (hP.sub [0, 1, 2] rfl) hK (hD.sub [0, 1, 2] (by decide) rfl) hS dXM_isSix_257 hlocks
              · refine lv_iconst (v := nI 0) hx hb dXM_isSix_123 (by decide) ?_
                exact wt_z hx hb hr (rfl) ((Q, nI L.length, az_o g)) (Or.inl ⟨by rw [← hc]; first | exact az_cc_full hng (by assumption) | exact az_cc_bad (by omega) hng (az_hp_none (by omega) (by subst c111; rcases hE with q | q | q; exact (by omega); exact (by omega); exact (q))), rfl⟩) (hP.sub [0, 1, 2] rfl) hK (hD.sub [0, 1, 2] (by decide) rfl) hS dXM_isSix_124 hlocks
          refine lv_iconst (v := nI 0) hx hb dXM_isSix_57 (by decide) ?_
          refine lv_istore_n (lv' := [(2, .int (nI 0)), (0, .ref m0), (1, .int (nI at_))]) hx hb dXM_isSix_58 rfl hl (by decide) rfl (fun ls hl => ?_)
          refine lv_iconst (v := nI 0) hx hb dXM_isSix_59 (by decide) ?_
          refine lv_istore_n (lv' := [(3, .int (nI 0)), (2, .int (nI 0)), (0, .ref m0), (1, .int (nI at_))]) hx hb dXM_isSix_60 rfl hl (by decide) rfl (fun ls hl => ?_)
          have lp61 : ∀ (N : Nat) (j : Nat) (v : Nat), (j ≤ 4) → (at_ + j ≤ n) → (az_hp T at_ j v) → (4 - j) < N → ∀ (H : Heap) (locs : List Loc), va_P (dC, dI) azCl [(m0, .inr (2, [.ref mt, .int (nI n), .ref mb, .ref mf, .ref ml, .ref mp, .int (nI L.length), .int (az_o g), .ref mo, .int (nI w)])), (mt, .inl (dT, 60, .inl F)), (mp, .inl (dP, 8, .inl Q))] H → va_D A [(m0, .inr (2, [.ref mt, .int (nI n), .ref mb, .ref mf, .ref ml, .ref mp, .int (nI L.length), .int (az_o g), .ref mo, .int (nI w)])), (mt, .inl (dT, 60, .inl F)), (mp, .inl (dP, 8, .inl Q))] → va_S A s.heap H locs → ∀ (ls : Array Slot), lv_has ls 4 [(0, .ref m0), (1, .int (nI (at_ + j))), (2, .int (nI v)), (3, .int (nI j))] → W p l e (headSpec wsXM_isSix ({ frames := 2, cells := 0, slots := 0, locals := 40 })).room s m ([.ref m0] : List Value).toArray below meth c H locs 0 0 (MQ below (va_Qi (fun r u => (az_c1 T n 0 [] = none ∧ r = nI 0) ∨ (∃ L g, az_c1 T n 0 [] = some (L, g) ∧ r = nI 1 ∧ u.2.1 = nI L.length ∧ u.2.2 = az_o g ∧ L.length ≤ 8 ∧ az_lp u.1 L)) (wr_B (dC, dI) azCl [(dT, .int), (dP, .int)] A (fun u : (Nat → Int32) × Int32 × Int32 => [(m0, .inr (2, [.ref mt, .int (nI n), .ref mb, .ref mf, .ref ml, .ref mp, .int u.2.1, .int u.2.2, .ref mo, .int (nI w)])), (mt, .inl (dT, 60, .inl F)), (mp, .inl (dP, 8, .inl u.1))])) A) ([.ref m0] : List Value).toArray s 0 0 A) (F0 m 61 ls []) := by
            intro N
            induction N with
            | zero => intro j v hj hjn hp hN; exact absurd hN (Nat.not_lt_zero _)
            | succ N ih =>
              intro j v hj hjn hp hN H locs hP hD hS ls hl
              refine lv_iload_n hx hb dXM_isSix_61 rfl (lv_at hl 1 rfl) ?_
              refine lv_aload_n hx hb dXM_isSix_62 rfl (lv_at hl 0 rfl) ?_
              refine va_get (D := (dC, dI)) (ci := 2) (v := .int (nI n)) (C := RXM) (T := TXM) (N := 10) hx hb hts hiXM hown hK hP 0 rfl rfl 1 (by decide) hf28 (fun _ h9 => h9) rfl dXM_isSix_63 ?_
              refine bn_ge (tgt := 110) hx hb dXM_isSix_66 (by decide) (by omega) (by omega) (fun c66 => ?_) (fun c66 => ?_)
              · exact jp110 j v (hj) (hjn) (hp) (by omega) _ _ (hP.sub [0, 1, 2] rfl) (hD.sub [0, 1, 2] (by decide) rfl) hS ls (lv_sub hl [0, 1, 2, 3] rfl)
              · refine lv_iload_n hx hb dXM_isSix_69 rfl (lv_at hl 3 rfl) ?_
                refine lv_iconst (v := nI 4) hx hb dXM_isSix_70 (by decide) ?_
                refine bn_ge (tgt := 110) hx hb dXM_isSix_71 (by decide) (by omega) (by omega) (fun c71 => ?_) (fun c71 => ?_)
                · exact jp110 j v (hj) (hjn) (hp) (by omega) _ _ (hP.sub [0, 1, 2] rfl) (hD.sub [0, 1, 2] (by decide) rfl) hS ls (lv_sub hl [0, 1, 2, 3] rfl)
                · have hTj := (hF (at_ + j) c66).2
                  have hv16 : v < 65536 := Nat.lt_of_lt_of_le hp.2.2 (Nat.pow_le_pow_right (n := 16) (j := 4) (by decide) hj)
                  refine lv_aload_n hx hb dXM_isSix_74 rfl (lv_at hl 0 rfl) ?_
                  refine va_get (D := (dC, dI)) (ci := 2) (v := .ref mt) (C := RXM) (T := TXM) (N := 10) hx hb hts hiXM hown hK hP 0 rfl rfl 0 (by decide) hf7 (fun _ h9 => h9) rfl dXM_isSix_75 ?_
                  refine lv_iload_n hx hb dXM_isSix_78 rfl (lv_at hl 1 rfl) ?_
                  refine ld_i hx hb hK hP 1 0 rfl rfl (by omega) (by omega) dXM_isSix_79 ?_
                  refine tp_i (nI (T (at_ + j))) ((hF (at_ + j) (c66)).1) ?_
                  refine rc_Si (As := [.int (nI (T (at_ + j)))]) (rest := []) ⟨hx, hb, hml, hown, hts⟩ (ct_m_hexadecimal l (T (at_ + j)) hTj) (cwS 1 hts gXM_isSix_XM_hexadecimal rfl rfl rfl (by decide +kernel) ⟨Nat.le_of_ble_eq_true rfl, Nat.le_of_ble_eq_true rfl⟩) rfl hl.1 rfl (Nat.le_of_ble_eq_true rfl) dXM_isSix_80 ⟨(Nat.zero_le _), (Nat.zero_le _)⟩ ?_
                  rcases hd : az_hd (T (at_ + j)) with _ | d
                  · refine tp_i (-1) (rfl) ?_
                    refine lv_if_lt (tgt := 110) hx hb dXM_isSix_83 (by decide) (fun _ => ?_) (fun c => absurd c (by decide))
                    exact jp110 j v (hj) (hjn) (hp) (Or.inr (Or.inr hd)) _ _ (hP.sub [0, 1, 2] rfl) (hD.sub [0, 1, 2] (by decide) rfl) hS ls (lv_sub hl [0, 1, 2, 3] rfl)
                  · have hdl := az_hd_lt hd
                    refine tp_i (nI d) (rfl) ?_
                    refine bz_lt (tgt := 110) hx hb dXM_isSix_83 (by decide) (by omega) ?_
                    refine lv_bipush (v := nI 16) hx hb dXM_isSix_86 (by decide) ?_
                    refine lv_iload_n hx hb dXM_isSix_88 rfl (lv_at hl 2 rfl) ?_
                    refine lv_imul hx hb dXM_isSix_89 ?_
                    refine tp_i (nI (16 * v)) (pk_mul _ _) ?_
                    refine lv_aload_n hx hb dXM_isSix_90 rfl (lv_at hl 0 rfl) ?_
                    refine va_get (D := (dC, dI)) (ci := 2) (v := .ref mt) (C := RXM) (T := TXM) (N := 10) hx hb hts hiXM hown hK hP 0 rfl rfl 0 (by decide) hf7 (fun _ h9 => h9) rfl dXM_isSix_91 ?_
                    refine lv_iload_n hx hb dXM_isSix_94 rfl (lv_at hl 1 rfl) ?_
                    refine ld_i hx hb hK hP 1 0 rfl rfl (by omega) (by omega) dXM_isSix_95 ?_
                    refine tp_i (nI (T (at_ + j))) ((hF (at_ + j) (c66)).1) ?_
                    refine rc_Si (As := [.int (nI (T (at_ + j)))]) (rest := [.int (nI (16 * v))]) ⟨hx, hb, hml, hown, hts⟩ (ct_m_hexadecimal l (T (at_ + j)) hTj) (cwS 1 hts gXM_isSix_XM_hexadecimal rfl rfl rfl (by decide +kernel) ⟨Nat.le_of_ble_eq_true rfl, Nat.le_of_ble_eq_true rfl⟩) rfl hl.1 rfl (Nat.le_of_ble_eq_true rfl) dXM_isSix_96 ⟨(Nat.zero_le _), (Nat.zero_le _)⟩ ?_
                    refine tp_i (nI d) (by rw [hd]; rfl) ?_
                    refine lv_iadd hx hb dXM_isSix_99 ?_
                    refine tp_i (nI ((16 * v) + d)) (nI_add _ _) ?_
                    refine lv_istore_n (lv' := [(2, .int (nI ((16 * v) + d))), (0, .ref m0), (1, .int (nI (at_ + j))), (3, .int (nI j))]) hx hb dXM_isSix_100 rfl hl (by decide) rfl (fun ls hl => ?_)
                    refine lv_iinc (v := nI (j + 1)) (lv' := [(3, .int (nI (j + 1))), (2, .int (nI ((16 * v) + d))), (0, .ref m0), (1, .int (nI (at_ + j)))]) hx hb dXM_isSix_101 hl (k := 3) rfl (nI_add _ 1) (by decide) rfl (fun ls hl => ?_)
                    refine lv_iinc (v := nI (at_ + j + 1)) (lv' := [(1, .int (nI (at_ + j + 1))), (3, .int (nI (j + 1))), (2, .int (nI ((16 * v) + d))), (0, .ref m0)]) hx hb dXM_isSix_104 hl (k := 3) rfl (nI_add _ 1) (by decide) rfl (fun ls hl => ?_)
                    refine lv_goto (tgt := 61) hx hb dXM_isSix_107 (by decide) ?_
                    exact ih (j + 1) (16 * v + d) (by omega) (by omega) (az_hp_s hp hd) (by omega) _ _ (hP.sub [0, 1, 2] rfl) (hD.sub [0, 1, 2] (by decide) rfl) hS ls (lv_sub hl [3, 0, 2, 1] rfl)
          exact lp61 _ 0 0 (Nat.zero_le _) (by omega) (az_hp_0 T at_) (Nat.lt_succ_self _) _ _ (hP.sub [0, 1, 2] rfl) (hD.sub [0, 1, 2] (by decide) rfl) hS ls (lv_sub hl [2, 3, 1, 0] rfl)
    exact lp49 _ at_ L g Q (hat) (hL) (hQ) (hc) (hng) (hgq) (Nat.lt_succ_self _) _ _ (hP.sub [0, 1, 2] rfl) (hD.sub [0, 1, 2] (by decide) rfl) hS ls (lv_sub hl [0, 1] rfl)
  have hT0 := (hF 0 hn0).2
  refine lv_aload_n hx hb dXM_isSix_0 rfl (lv_at hl 0 rfl) ?_
  refine lv_iconst (v := nI 0) hx hb dXM_isSix_1 (by decide) ?_
  refine va_put (D := (dC, dI)) (ci := 2) (v := .int (nI 0)) (ty := .int) (C := RXM) (T := TXM) (N := 10) hx hb hts hiXM tyXM tyXM_ok nmXM hown hK hP hD hS 0 rfl rfl 6 (by decide) hf40 (fun _ h9 => h9) rfl (by decide +kernel) rfl rfl (Nat.le_of_ble_eq_true rfl) dXM_isSix_2 (fun H locs hP hD hS => ?_)
  have hP : va_P (dC, dI) azCl [(m0, .inr (2, [.ref mt, .int (nI n), .ref mb, .ref mf, .ref ml, .ref mp, .int (nI 0), .int xg, .ref mo, .int (nI w)])), (mt, .inl (dT, 60, .inl F)), (mp, .inl (dP, 8, .inl P))] H := hP
  have hD : va_D A [(m0, .inr (2, [.ref mt, .int (nI n), .ref mb, .ref mf, .ref ml, .ref mp, .int (nI 0), .int xg, .ref mo, .int (nI w)])), (mt, .inl (dT, 60, .inl F)), (mp, .inl (dP, 8, .inl P))] := hD
  refine lv_aload_n hx hb dXM_isSix_5 rfl (lv_at hl 0 rfl) ?_
  refine lv_iconst (v := -1) hx hb dXM_isSix_6 (by decide) ?_
  refine va_put (D := (dC, dI)) (ci := 2) (v := .int (-1)) (ty := .int) (C := RXM) (T := TXM) (N := 10) hx hb hts hiXM tyXM tyXM_ok nmXM hown hK hP hD hS 0 rfl rfl 7 (by decide) hf47 (fun _ h9 => h9) rfl (by decide +kernel) rfl rfl (Nat.le_of_ble_eq_true rfl) dXM_isSix_7 (fun H locs hP hD hS => ?_)
  have hP : va_P (dC, dI) azCl [(m0, .inr (2, [.ref mt, .int (nI n), .ref mb, .ref mf, .ref ml, .ref mp, .int (nI 0), .int (-1), .ref mo, .int (nI w)])), (mt, .inl (dT, 60, .inl F)), (mp, .inl (dP, 8, .inl P))] H := hP
  have hD : va_D A [(m0, .inr (2, [.ref mt, .int (nI n), .ref mb, .ref mf, .ref ml, .ref mp, .int (nI 0), .int (-1), .ref mo, .int (nI w)])), (mt, .inl (dT, 60, .inl F)), (mp, .inl (dP, 8, .inl P))] := hD
  refine lv_iconst (v := nI 0) hx hb dXM_isSix_10 (by decide) ?_
  refine lv_istore_n (lv' := [(1, .int (nI 0)), (0, .ref m0)]) hx hb dXM_isSix_11 rfl hl (by decide) rfl (fun ls hl => ?_)
  refine lv_aload_n hx hb dXM_isSix_12 rfl (lv_at hl 1 rfl) ?_
  refine va_get (D := (dC, dI)) (ci := 2) (v := .int (nI n)) (C := RXM) (T := TXM) (N := 10) hx hb hts hiXM hown hK hP 0 rfl rfl 1 (by decide) hf28 (fun _ h9 => h9) rfl dXM_isSix_13 ?_
  refine lv_iconst (v := nI 1) hx hb dXM_isSix_16 (by decide) ?_
  refine bn_le (tgt := 49) hx hb dXM_isSix_17 (by decide) (by omega) (by omega) (fun c17 => ?_) (fun c17 => ?_)
  · exact jp49 0 ([]) none P (Nat.zero_le _) (by decide) (az_lp_0 P) (rfl) (fun _ => ⟨hn0, az_gp_pos hn0 (by omega)⟩) (fun q h => by cases h) _ _ (hP.sub [0, 1, 2] rfl) (hD.sub [0, 1, 2] (by decide) rfl) hS ls (lv_sub hl [1, 0] rfl)
  · refine lv_aload_n hx hb dXM_isSix_20 rfl (lv_at hl 1 rfl) ?_
    refine va_get (D := (dC, dI)) (ci := 2) (v := .ref mt) (C := RXM) (T := TXM) (N := 10) hx hb hts hiXM hown hK hP 0 rfl rfl 0 (by decide) hf7 (fun _ h9 => h9) rfl dXM_isSix_21 ?_
    refine lv_iconst (v := nI 0) hx hb dXM_isSix_24 (by decide) ?_
    refine ld_i hx hb hK hP 1 0 rfl rfl (by omega) (by omega) dXM_isSix_25 ?_
    refine tp_i (nI (T 0)) ((hF 0 (hn0)).1) ?_
    refine lv_bipush (v := nI 58) hx hb dXM_isSix_26 (by decide) ?_
    refine bn_ne (tgt := 49) hx hb dXM_isSix_28 (by decide) (by omega) (by omega) (fun c28 => ?_) (fun c28 => ?_)
    · exact jp49 0 ([]) none P (Nat.zero_le _) (by decide) (az_lp_0 P) (rfl) (fun _ => ⟨hn0, az_gp_pos hn0 (by omega)⟩) (fun q h => by cases h) _ _ (hP.sub [0, 1, 2] rfl) (hD.sub [0, 1, 2] (by decide) rfl) hS ls (lv_sub hl [1, 0] rfl)
    · have hT1 := (hF 1 (by omega)).2
      refine lv_aload_n hx hb dXM_isSix_31 rfl (lv_at hl 1 rfl) ?_
      refine va_get (D := (dC, dI)) (ci := 2) (v := .ref mt) (C := RXM) (T := TXM) (N := 10) hx hb hts hiXM hown hK hP 0 rfl rfl 0 (by decide) hf7 (fun _ h9 => h9) rfl dXM_isSix_32 ?_
      refine lv_iconst (v := nI 1) hx hb dXM_isSix_35 (by decide) ?_
      refine ld_i hx hb hK hP 1 0 rfl rfl (by omega) (by omega) dXM_isSix_36 ?_
      refine tp_i (nI (T 1)) ((hF 1 (by omega)).1) ?_
      refine lv_bipush (v := nI 58) hx hb dXM_isSix_37 (by decide) ?_
      refine bn_ne (tgt := 49) hx hb dXM_isSix_39 (by decide) (by omega) (by omega) (fun c39 => ?_) (fun c39 => ?_)
      · exact jp49 0 ([]) none P (Nat.zero_le _) (by decide) (az_lp_0 P) (rfl) (fun _ => ⟨hn0, az_gp_pos hn0 (by omega)⟩) (fun q h => by cases h) _ _ (hP.sub [0, 1, 2] rfl) (hD.sub [0, 1, 2] (by decide) rfl) hS ls (lv_sub hl [1, 0] rfl)
      · refine lv_aload_n hx hb dXM_isSix_42 rfl (lv_at hl 1 rfl) ?_
        refine lv_iconst (v := nI 0) hx hb dXM_isSix_43 (by decide) ?_
        refine va_put (D := (dC, dI)) (ci := 2) (v := .int (nI 0)) (ty := .int) (C := RXM) (T := TXM) (N := 10) hx hb hts hiXM tyXM tyXM_ok nmXM hown hK hP hD hS 0 rfl rfl 7 (by decide) hf47 (fun _ h9 => h9) rfl (by decide +kernel) rfl rfl (Nat.le_of_ble_eq_true rfl) dXM_isSix_44 (fun H locs hP hD hS => ?_)
        have hP : va_P (dC, dI) azCl [(m0, .inr (2, [.ref mt, .int (nI n), .ref mb, .ref mf, .ref ml, .ref mp, .int (nI 0), .int (nI 0), .ref mo, .int (nI w)])), (mt, .inl (dT, 60, .inl F)), (mp, .inl (dP, 8, .inl P))] H := hP
        have hD : va_D A [(m0, .inr (2, [.ref mt, .int (nI n), .ref mb, .ref mf, .ref ml, .ref mp, .int (nI 0), .int (nI 0), .ref mo, .int (nI w)])), (mt, .inl (dT, 60, .inl F)), (mp, .inl (dP, 8, .inl P))] := hD
        refine lv_iconst (v := nI 2) hx hb dXM_isSix_47 (by decide) ?_
        refine lv_istore_n (lv' := [(1, .int (nI 2)), (0, .ref m0)]) hx hb dXM_isSix_48 rfl hl (by decide) rfl (fun ls hl => ?_)
        exact jp49 2 ([]) (some 0) P (by omega) (by decide) (az_lp_0 P) (az_c1_0 (by omega) c28 c39) (fun h => by cases h) (fun q h => by cases h; omega) _ _ (hP.sub [0, 1, 2] rfl) (hD.sub [0, 1, 2] (by decide) rfl) hS ls (lv_sub hl [1, 0] rfl)
