set_option maxRecDepth 100000 in
set_option maxHeartbeats 4000000 in
/-- write() -/
theorem ct_m_write (l : Launch) (dC : Nat → ClassId) (dI : Nat → Nat → Nat) (sz : Nat) (m0 mt mb mf ml mp mo n w : Nat) (xm xg : Int32) (dB : ClassId) (B : Nat → Int32) (dF : ClassId) (Fm : Nat → Int32) (dO : ClassId) (G : Nat → Int32) (f1 l1 V1 : Nat) (h1 : az_ad f1 l1 V1) (hF0 : Fm 0 = nI f1) (hB0 : az_by B 0 V1) : Met l yXM_write wsXM_write ({ frames := 2, cells := 0, slots := 0, locals := 43 }) (wr_P (dC, dI) azCl [(m0, .inr (2, [.ref mt, .int (nI n), .ref mb, .ref mf, .ref ml, .ref mp, .int xm, .int xg, .ref mo, .int (nI w)])), (mb, .inl (dB, 32, .inl B)), (mf, .inl (dF, 2, .inl Fm)), (mo, .inl (dO, 64, .inl G))] [(dB, .int), (dF, .int), (dO, .int)] sz [.ref m0]) (va_Qi (fun r u => r = nI u.2 ∧ az_mo u.1 (az_out f1 V1) u.2) (wr_B (dC, dI) azCl [(dB, .int), (dF, .int), (dO, .int)] (va_A [(m0, .inr (2, [.ref mt, .int (nI n), .ref mb, .ref mf, .ref ml, .ref mp, .int xm, .int xg, .ref mo, .int (nI w)])), (mb, .inl (dB, 32, .inl B)), (mf, .inl (dF, 2, .inl Fm)), (mo, .inl (dO, 64, .inl G))] sz) (fun u : (Nat → Int32) × Nat => [(m0, .inr (2, [.ref mt, .int (nI n), .ref mb, .ref mf, .ref ml, .ref mp, .int xm, .int xg, .ref mo, .int (nI u.2)])), (mb, .inl (dB, 32, .inl B)), (mf, .inl (dF, 2, .inl Fm)), (mo, .inl (dO, 64, .inl u.1))])) (va_A [(m0, .inr (2, [.ref mt, .int (nI n), .ref mb, .ref mf, .ref ml, .ref mp, .int xm, .int xg, .ref mo, .int (nI w)])), (mb, .inl (dB, 32, .inl B)), (mf, .inl (dF, 2, .inl Fm)), (mo, .inl (dO, 64, .inl G))] sz)) 0 0 (va_A [(m0, .inr (2, [.ref mt, .int (nI n), .ref mb, .ref mf, .ref ml, .ref mp, .int xm, .int xg, .ref mo, .int (nI w)])), (mb, .inl (dB, 32, .inl B)), (mf, .inl (dF, 2, .inl Fm)), (mo, .inl (dO, 64, .inl G))] sz) := by
  refine Met.ofW (cc := cXM_write) (maxL := 4) (ret := (some .int)) (by decide) rfl ?_
  intro p e s m args below meth c s₁ Bd hml hv
  obtain ⟨rfl, hsz, hP, hK, hD0⟩ := hv
  have hx := Bd.exec
  have hb := Bd.bytes
  have hr := Bd.returns
  have hts := atoms_spec (ws := wsXM_write) Bd.pre
  have hown : s.vm.findClass RXM = some m.cls := findClass_of_methodNamed Bd.named
  have hlocks := Bd.notSynchronized
  subst hsz
  have hD := hD0.self (sz := s.heap.size)
  generalize hAe : va_A [(m0, .inr (2, [.ref mt, .int (nI n), .ref mb, .ref mf, .ref ml, .ref mp, .int xm, .int xg, .ref mo, .int (nI w)])), (mb, .inl (dB, 32, .inl B)), (mf, .inl (dF, 2, .inl Fm)), (mo, .inl (dO, 64, .inl G))] s.heap.size = A at hD ⊢
  have hA : ∀ q : Nat, s.heap.size ≤ q → A q := fun q h => by rw [← hAe]; exact Or.inr h
  have hS : va_S A s.heap s.heap [] := va_S.rf
  have hP : va_P (dC, dI) azCl [(m0, .inr (2, [.ref mt, .int (nI n), .ref mb, .ref mf, .ref ml, .ref mp, .int xm, .int xg, .ref mo, .int (nI w)])), (mb, .inl (dB, 32, .inl B)), (mf, .inl (dF, 2, .inl Fm)), (mo, .inl (dO, 64, .inl G))] s.heap := hP
  have hiXM : ∀ w ∈ wsXM0, w ∈ wsXM_write := by decide +kernel
  have hf65 := hts (.fieldLink RXM 65 "AddressTextsModel" "written" "I") (by decide +kernel)
  have hf16 := hts (.fieldLink RXM 16 "AddressTextsModel" "family" "[I") (by decide +kernel)
  have hf13 := hts (.fieldLink RXM 13 "AddressTextsModel" "bytes" "[I") (by decide +kernel)
  have hl := lv_entry ([.ref m0]) (n := 4) (Nat.le_of_ble_eq_true rfl)
  rw [lg_entry_eq]
  generalize (lg_sl ([.ref m0]) ++ List.replicate (4 - (lg_sl ([.ref m0])).length) Slot.unset).toArray = ls at hl ⊢
  have hl : lv_has ls 4 [(0, .ref m0)] := hl
  have hV := az_ad_V h1
  have hf1 := az_ad_6 h1
  refine lv_aload_n hx hb dXM_write_0 rfl (lv_at hl 0 rfl) ?_
  refine lv_iconst (v := nI 0) hx hb dXM_write_1 (by decide) ?_
  refine va_put (D := (dC, dI)) (ci := 2) (v := .int (nI 0)) (ty := .int) (C := RXM) (T := TXM) (N := 10) hx hb hts hiXM tyXM tyXM_ok nmXM hown hK hP hD hS 0 rfl rfl 9 (by decide) hf65 (fun _ h9 => h9) rfl (by decide +kernel) rfl rfl (Nat.le_of_ble_eq_true rfl) dXM_write_2 (fun H locs hP hD hS => ?_)
  have hP : va_P (dC, dI) azCl [(m0, .inr (2, [.ref mt, .int (nI n), .ref mb, .ref mf, .ref ml, .ref mp, .int xm, .int xg, .ref mo, .int (nI 0)])), (mb, .inl (dB, 32, .inl B)), (mf, .inl (dF, 2, .inl Fm)), (mo, .inl (dO, 64, .inl G))] H := hP
  have hD : va_D A [(m0, .inr (2, [.ref mt, .int (nI n), .ref mb, .ref mf, .ref ml, .ref mp, .int xm, .int xg, .ref mo, .int (nI 0)])), (mb, .inl (dB, 32, .inl B)), (mf, .inl (dF, 2, .inl Fm)), (mo, .inl (dO, 64, .inl G))] := hD
  refine lv_aload_n hx hb dXM_write_5 rfl (lv_at hl 0 rfl) ?_
  refine va_get (D := (dC, dI)) (ci := 2) (v := .ref mf) (C := RXM) (T := TXM) (N := 10) hx hb hts hiXM hown hK hP 0 rfl rfl 3 (by decide) hf16 (fun _ h9 => h9) rfl dXM_write_6 ?_
  refine lv_iconst (v := nI 0) hx hb dXM_write_9 (by decide) ?_
  refine ld_i hx hb hK hP 2 1 rfl rfl (by omega) (by omega) dXM_write_10 ?_
  refine tp_i (nI f1) (hF0) ?_
  refine lv_iconst (v := nI 4) hx hb dXM_write_11 (by decide) ?_
  refine bn_ne (tgt := 56) hx hb dXM_write_12 (by decide) (by omega) (by omega) (fun c12 => ?_) (fun c12 => ?_)
  · refine lv_iconst (v := nI 0) hx hb dXM_write_56 (by decide) ?_
    refine lv_istore_n (lv' := [(1, .int (nI 0)), (0, .ref m0)]) hx hb dXM_write_57 rfl hl (by decide) rfl (fun ls hl => ?_)
    refine lv_iconst (v := nI 1) hx hb dXM_write_58 (by decide) ?_
    refine lv_istore_n (lv' := [(2, .int (nI 1)), (1, .int (nI 0)), (0, .ref m0)]) hx hb dXM_write_59 rfl hl (by decide) rfl (fun ls hl => ?_)
    have lp60 : ∀ (N : Nat) (k : Nat) (fr : Nat), (1 ≤ k) → (k ≤ 8) → (fr < k) → ((az_lr V1 k = (8, 1) ∧ az_zr V1 fr ≤ 1) ∨ (az_lr V1 k = (fr, az_zr V1 fr) ∧ 2 ≤ az_zr V1 fr)) → (8 - k) < N → ∀ (H : Heap) (locs : List Loc), va_P (dC, dI) azCl [(m0, .inr (2, [.ref mt, .int (nI n), .ref mb, .ref mf, .ref ml, .ref mp, .int xm, .int xg, .ref mo, .int (nI 0)])), (mb, .inl (dB, 32, .inl B)), (mf, .inl (dF, 2, .inl Fm)), (mo, .inl (dO, 64, .inl G))] H → va_D A [(m0, .inr (2, [.ref mt, .int (nI n), .ref mb, .ref mf, .ref ml, .ref mp, .int xm, .int xg, .ref mo, .int (nI 0)])), (mb, .inl (dB, 32, .inl B)), (mf, .inl (dF, 2, .inl Fm)), (mo, .inl (dO, 64, .inl G))] → va_S A s.heap H locs → ∀ (ls : Array Slot), lv_has ls 4 [(0, .ref m0), (1, .int (nI fr)), (2, .int (nI k))] → W p l e (headSpec wsXM_write ({ frames := 2, cells := 0, slots := 0, locals := 43 })).room s m ([.ref m0] : List Value).toArray below meth c H locs 0 0 (MQ below (va_Qi (fun r u => r = nI u.2 ∧ az_mo u.1 (az_out f1 V1) u.2) (wr_B (dC, dI) azCl [(dB, .int), (dF, .int), (dO, .int)] A (fun u : (Nat → Int32) × Nat => [(m0, .inr (2, [.ref mt, .int (nI n), .ref mb, .ref mf, .ref ml, .ref mp, .int xm, .int xg, .ref mo, .int (nI u.2)])), (mb, .inl (dB, 32, .inl B)), (mf, .inl (dF, 2, .inl Fm)), (mo, .inl (dO, 64, .inl u.1))])) A) ([.ref m0] : List Value).toArray s 0 0 A) (F0 m 60 ls []) := by
      intro N
      induction N with
      | zero => intro k fr hk1 hk hfr hR hN; exact absurd hN (Nat.not_lt_zero _)
      | succ N ih =>
        intro k fr hk1 hk hfr hR hN H locs hP hD hS ls hl
        refine lv_iload_n hx hb dXM_write_60 rfl (lv_at hl 2 rfl) ?_
        refine lv_bipush (v := nI 8) hx hb dXM_write_61 (by decide) ?_
        refine bn_ge (tgt := 91) hx hb dXM_write_63 (by decide) (by omega) (by omega) (fun c63 => ?_) (fun c63 => ?_)
        · have hz2 := az_zr_le V1 fr
          have hR8 : (az_lr V1 8 = (8, 1) ∧ az_zr V1 fr ≤ 1) ∨ (az_lr V1 8 = (fr, az_zr V1 fr) ∧ 2 ≤ az_zr V1 fr) := by have h := hR; rw [show k = 8 by omega] at h; exact h
          refine lv_aload_n hx hb dXM_write_91 rfl (lv_at hl 0 rfl) ?_
          refine lv_iload_n hx hb dXM_write_92 rfl (lv_at hl 1 rfl) ?_
          refine rc_Vi (As := [.int (nI fr)]) (rest := []) ⟨hx, hb, hml, hown, hts⟩ (ct_m_noughts l dC dI m0 mt mb mf ml mp mo n 0 xm xg dB B V1 fr (by omega) hB0) (cwV 1 hts gXM_write_XM_noughts rfl rfl rfl (by decide +kernel) ⟨Nat.le_of_ble_eq_true rfl, Nat.le_of_ble_eq_true rfl⟩) (hP.sub [0, 1] rfl) (hK.sub [0] rfl) 0 rfl rfl rfl hl.1 rfl (Nat.le_of_ble_eq_true rfl) dXM_write_93 ⟨(Nat.zero_le _), (Nat.zero_le _)⟩ ?_
          refine lv_iconst (v := nI 1) hx hb dXM_write_96 (by decide) ?_
          refine bn_le (tgt := 108) hx hb dXM_write_97 (by decide) (by omega) (by omega) (fun c97 => ?_) (fun c97 => ?_)
          · refine lv_iconst (v := nI 0) hx hb dXM_write_108 (by decide) ?_
            refine lv_istore_n (lv' := [(2, .int (nI 0)), (0, .ref m0), (1, .int (nI fr))]) hx hb dXM_write_109 rfl hl (by decide) rfl (fun ls hl => ?_)
            obtain ⟨row, hrow⟩ : ∃ z, z = 0 := ⟨_, rfl⟩
            have hrw : az_rw (az_lr V1 8).1 ((az_lr V1 8).1 + az_zr V1 (az_lr V1 8).1) fr row := by rw [hrow]; first | exact az_rw_0 hR8 c97 | exact az_rw_1 hR8 c97 (by omega)
            have hl : lv_has ls 4 [(2, .int (nI row)), (0, .ref m0), (1, .int (nI fr))] := by rw [hrow]; exact hl
            have hrw2 : (row = 0 ∧ ((az_lr V1 8).1 + az_zr V1 (az_lr V1 8).1) = 8) ∨ (2 ≤ row ∧ ((az_lr V1 8).1 + az_zr V1 (az_lr V1 8).1) = fr + row ∧ fr + row ≤ 8) := by (rcases hrw with ⟨a, _, b⟩ | ⟨a, _, b, d⟩); exact (Or.inl ⟨a, b⟩); exact (Or.inr ⟨a, b, d⟩)
            generalize hrs : (az_lr V1 8).1 = rs at hrw
            rw [hrs] at hrw2
            generalize hre : rs + az_zr V1 rs = re at hrw hrw2
            refine lv_iconst (v := nI 0) hx hb dXM_write_110 (by decide) ?_
            refine lv_istore_n (lv' := [(3, .int (nI 0)), (2, .int (nI row)), (0, .ref m0), (1, .int (nI fr))]) hx hb dXM_write_111 rfl hl (by decide) rfl (fun ls hl => ?_)
            have lp112 : ∀ (N : Nat) (k2 : Nat) (wk : Nat) (Gk : Nat → Int32) (Ok : List Nat), (k2 ≤ 8) → (az_mo Gk Ok wk) → (az_st V1 rs re fr row k2 Ok) → (wk ≤ 5 * k2) → (8 - k2) < N → ∀ (H : Heap) (locs : List Loc), va_P (dC, dI) azCl [(m0, .inr (2, [.ref mt, .int (nI n), .ref mb, .ref mf, .ref ml, .ref mp, .int xm, .int xg, .ref mo, .int (nI wk)])), (mb, .inl (dB, 32, .inl B)), (mf, .inl (dF, 2, .inl Fm)), (mo, .inl (dO, 64, .inl Gk))] H → va_D A [(m0, .inr (2, [.ref mt, .int (nI n), .ref mb, .ref mf, .ref ml, .ref mp, .int xm, .int xg, .ref mo, .int (nI wk)])), (mb, .inl (dB, 32, .inl B)), (mf, .inl (dF, 2, .inl Fm)), (mo, .inl (dO, 64, .inl Gk))] → va_S A s.heap H locs → ∀ (ls : Array Slot), lv_has ls 4 [(0, .ref m0), (1, .int (nI fr)), (2, .int (nI row)), (3, .int (nI k2))] → W p l e (headSpec wsXM_write ({ frames := 2, cells := 0, slots := 0, locals := 43 })).room s m ([.ref m0] : List Value).toArray below meth c H locs 0 0 (MQ below (va_Qi (fun r u => r = nI u.2 ∧ az_mo u.1 (az_out f1 V1) u.2) (wr_B (dC, dI) azCl [(dB, .int), (dF, .int), (dO, .int)] A (fun u : (Nat → Int32) × Nat => [(m0, .inr (2, [.ref mt, .int (nI n), .ref mb, .ref mf, .ref ml, .ref mp, .int xm, .int xg, .ref mo, .int (nI u.2)])), (mb, .inl (dB, 32, .inl B)), (mf, .inl (dF, 2, .inl Fm)), (mo, .inl (dO, 64, .inl u.1))])) A) ([.ref m0] : List Value).toArray s 0 0 A) (F0 m 112 ls []) := by
              intro N
              induction N with
              | zero => intro k2 wk Gk Ok hk2 hgk hst hwk hN; exact absurd hN (Nat.not_lt_zero _)
              | succ N ih =>
                intro k2 wk Gk Ok hk2 hgk hst hwk hN H locs hP hD hS ls hl
                refine lv_iload_n hx hb dXM_write_112 rfl (lv_at hl 3 rfl) ?_
                refine lv_bipush (v := nI 8) hx hb dXM_write_113 (by decide) ?_
                refine bn_ge (tgt := 199) hx hb dXM_write_115 (by decide) (by omega) (by omega) (fun c115 => ?_) (fun c115 => ?_)
                · refine lv_aload_n hx hb dXM_write_199 rfl (lv_at hl 0 rfl) ?_
                  refine va_get (D := (dC, dI)) (ci := 2) (v := .int (nI wk)) (C := RXM) (T := TXM) (N := 10) hx hb hts hiXM hown hK hP 0 rfl rfl 9 (by decide) hf65 (fun _ h9 => h9) rfl dXM_write_200 ?_
                  exact wt_i hx hb hr ((Gk, wk)) (⟨rfl, by have h : Ok = az_wp V1 rs re 8 := (by (rcases hst with ⟨a, b, d, _⟩ | ⟨_, h⟩); exact (by omega); exact (by rw [h, show k2 = 8 by omega])); unfold az_out; rw [if_neg c12, hrs, hre, ← h]; exact hgk⟩) (hP.sub [0, 1, 2, 3] rfl) hK (hD.sub [0, 1, 2, 3] (by decide) rfl) hS dXM_write_203 hlocks
                · have hq0 := hgk.1
                  refine lv_iload_n hx hb dXM_write_118 rfl (lv_at hl 2 rfl) ?_
                  refine bz_le (tgt := 163) hx hb dXM_write_119 (by decide) (by omega) (fun c119 => ?_) (fun c119 => ?_)
                  · refine lv_iload_n hx hb dXM_write_163 rfl (lv_at hl 3 rfl) ?_
                    refine bz_le (tgt := 184) hx hb dXM_write_164 (by decide) (by omega) (fun c164 => ?_) (fun c164 => ?_)
                    · refine lv_aload_n hx hb dXM_write_184 rfl (lv_at hl 0 rfl) ?_
                      refine lv_aload_n hx hb dXM_write_185 rfl (lv_at hl 0 rfl) ?_
                      refine lv_iload_n hx hb dXM_write_186 rfl (lv_at hl 3 rfl) ?_
                      refine rc_Vi (As := [.int (nI k2)]) (rest := [.ref m0]) ⟨hx, hb, hml, hown, hts⟩ (ct_m_part l dC dI m0 mt mb mf ml mp mo n wk xm xg dB B V1 k2 c115 hB0) (cwV 1 hts gXM_write_XM_part rfl rfl rfl (by decide +kernel) ⟨Nat.le_of_ble_eq_true rfl, Nat.le_of_ble_eq_true rfl⟩) (hP.sub [0, 1] rfl) (hK.sub [0] rfl) 0 rfl rfl rfl hl.1 rfl (Nat.le_of_ble_eq_true rfl) dXM_write_187 ⟨(Nat.zero_le _), (Nat.zero_le _)⟩ ?_
                      have hh := az_hex_le (az_pt V1 k2)
                      refine wc_Vv (As := [.int (nI (az_pt V1 k2))]) (rest := []) (wr := [(mb, .inl (dB, 32, .inl B)), (mf, .inl (dF, 2, .inl Fm))]) ⟨hx, hb, hml, hown, hts⟩ (ct_m_sayPart l dC dI H.size m0 mt mb mf ml mp mo n wk xm xg dO Gk Ok hgk (az_pt V1 k2) (az_pt_lt V1 k2) (by omega)) (cwV 1 hts gXM_write_XM_sayPart rfl rfl rfl (by decide +kernel) ⟨Nat.le_of_ble_eq_true rfl, Nat.le_of_ble_eq_true rfl⟩) hP hD hK hS hA [0, 3] [1, 2] [2] rfl rfl (by decide) (by decide) (by decide) rfl 0 rfl rfl rfl hl.1 rfl (Nat.le_of_ble_eq_true rfl) dXM_write_190 ⟨(Nat.zero_le _), (Nat.zero_le _)⟩ (fun u H locs hg1 hP hD hS => ?_)
                      obtain ⟨u1, w1⟩ := u
                      try dsimp only at hg1
                      have hP : va_P (dC, dI) azCl [(mb, .inl (dB, 32, .inl B)), (mf, .inl (dF, 2, .inl Fm)), (m0, .inr (2, [.ref mt, .int (nI n), .ref mb, .ref mf, .ref ml, .ref mp, .int xm, .int xg, .ref mo, .int (nI w1)])), (mo, .inl (dO, 64, .inl u1))] H := hP
                      have hD : va_D A [(mb, .inl (dB, 32, .inl B)), (mf, .inl (dF, 2, .inl Fm)), (m0, .inr (2, [.ref mt, .int (nI n), .ref mb, .ref mf, .ref ml, .ref mp, .int xm, .int xg, .ref mo, .int (nI w1)])), (mo, .inl (dO, 64, .inl u1))] := hD
                      have hq1 := hg1.1
                      try simp only [List.length_append, List.length_cons, List.length_nil] at hq1
                      refine lv_iinc (v := nI (k2 + 1)) (lv' := [(3, .int (nI (k2 + 1))), (0, .ref m0), (1, .int (nI fr)), (2, .int (nI row))]) hx hb dXM_write_193 hl (k := 3) rfl (nI_add _ 1) (by decide) rfl (fun ls hl => ?_)
                      refine lv_goto (tgt := 112) hx hb dXM_write_196 (by decide) ?_
                      exact ih (k2 + 1) w1 u1 (Ok ++ (az_hex (az_pt V1 k2))) (by omega) (hg1) (az_st_out hrw hst (by omega) c115 (by omega)) (by omega) (by omega) _ _ (hP.sub [2, 0, 1, 3] rfl) (hD.sub [2, 0, 1, 3] (by decide) rfl) hS ls (lv_sub hl [1, 2, 3, 0] rfl)
                    · refine lv_iload_n hx hb dXM_write_167 rfl (lv_at hl 2 rfl) ?_
                      refine bz_le (tgt := 178) hx hb dXM_write_168 (by decide) (by omega) (fun c168 => ?_) (fun c168 => ?_)
                      · refine lv_aload_n hx hb dXM_write_178 rfl (lv_at hl 0 rfl) ?_
                        refine lv_bipush (v := nI 58) hx hb dXM_write_179 (by decide) ?_
                        refine wc_Vv (As := [.int (nI 58)]) (rest := []) (wr := [(mb, .inl (dB, 32, .inl B)), (mf, .inl (dF, 2, .inl Fm))]) ⟨hx, hb, hml, hown, hts⟩ (ct_m_say l dC dI H.size m0 mt mb mf ml mp mo n wk xm xg dO Gk Ok hgk 58 (by omega)) (cwV 1 hts gXM_write_XM_say rfl rfl rfl (by decide +kernel) ⟨Nat.le_of_ble_eq_true rfl, Nat.le_of_ble_eq_true rfl⟩) hP hD hK hS hA [0, 3] [1, 2] [2] rfl rfl (by decide) (by decide) (by decide) rfl 0 rfl rfl rfl hl.1 rfl (Nat.le_of_ble_eq_true rfl) dXM_write_181 ⟨(Nat.zero_le _), (Nat.zero_le _)⟩ (fun u H locs hg1 hP hD hS => ?_)
                        obtain ⟨u1, w1⟩ := u
                        try dsimp only at hg1
                        have hP : va_P (dC, dI) azCl [(mb, .inl (dB, 32, .inl B)), (mf, .inl (dF, 2, .inl Fm)), (m0, .inr (2, [.ref mt, .int (nI n), .ref mb, .ref mf, .ref ml, .ref mp, .int xm, .int xg, .ref mo, .int (nI w1)])), (mo, .inl (dO, 64, .inl u1))] H := hP
                        have hD : va_D A [(mb, .inl (dB, 32, .inl B)), (mf, .inl (dF, 2, .inl Fm)), (m0, .inr (2, [.ref mt, .int (nI n), .ref mb, .ref mf, .ref ml, .ref mp, .int xm, .int xg, .ref mo, .int (nI w1)])), (mo, .inl (dO, 64, .inl u1))] := hD
                        have hq1 := hg1.1
                        try simp only [List.length_append, List.length_cons, List.length_nil] at hq1
                        refine lv_aload_n hx hb dXM_write_184 rfl (lv_at hl 0 rfl) ?_
                        refine lv_aload_n hx hb dXM_write_185 rfl (lv_at hl 0 rfl) ?_
                        refine lv_iload_n hx hb dXM_write_186 rfl (lv_at hl 3 rfl) ?_
                        refine rc_Vi (As := [.int (nI k2)]) (rest := [.ref m0]) ⟨hx, hb, hml, hown, hts⟩ (ct_m_part l dC dI m0 mt mb mf ml mp mo n w1 xm xg dB B V1 k2 c115 hB0) (cwV 1 hts gXM_write_XM_part rfl rfl rfl (by decide +kernel) ⟨Nat.le_of_ble_eq_true rfl, Nat.le_of_ble_eq_true rfl⟩) (hP.sub [2, 0] rfl) (hK.sub [0] rfl) 0 rfl rfl rfl hl.1 rfl (Nat.le_of_ble_eq_true rfl) dXM_write_187 ⟨(Nat.zero_le _), (Nat.zero_le _)⟩ ?_
                        have hh := az_hex_le (az_pt V1 k2)
                        refine wc_Vv (As := [.int (nI (az_pt V1 k2))]) (rest := []) (wr := [(mb, .inl (dB, 32, .inl B)), (mf, .inl (dF, 2, .inl Fm))]) ⟨hx, hb, hml, hown, hts⟩ (ct_m_sayPart l dC dI H.size m0 mt mb mf ml mp mo n w1 xm xg dO u1 (Ok ++ [58]) hg1 (az_pt V1 k2) (az_pt_lt V1 k2) (by omega)) (cwV 1 hts gXM_write_XM_sayPart rfl rfl rfl (by decide +kernel) ⟨Nat.le_of_ble_eq_true rfl, Nat.le_of_ble_eq_true rfl⟩) hP hD hK hS hA [2, 3] [0, 1] [2] rfl rfl (by decide) (by decide) (by decide) rfl 0 rfl rfl rfl hl.1 rfl (Nat.le_of_ble_eq_true rfl) dXM_write_190 ⟨(Nat.zero_le _), (Nat.zero_le _)⟩ (fun u H locs hg2 hP hD hS => ?_)
                        obtain ⟨u2, w2⟩ := u
                        try dsimp only at hg2
                        have hP : va_P (dC, dI) azCl [(mb, .inl (dB, 32, .inl B)), (mf, .inl (dF, 2, .inl Fm)), (m0, .inr (2, [.ref mt, .int (nI n), .ref mb, .ref mf, .ref ml, .ref mp, .int xm, .int xg, .ref mo, .int (nI w2)])), (mo, .inl (dO, 64, .inl u2))] H := hP
                        have hD : va_D A [(mb, .inl (dB, 32, .inl B)), (mf, .inl (dF, 2, .inl Fm)), (m0, .inr (2, [.ref mt, .int (nI n), .ref mb, .ref mf, .ref ml, .ref mp, .int xm, .int xg, .ref mo, .int (nI w2)])), (mo, .inl (dO, 64, .inl u2))] := hD
                        have hq2 := hg2.1
                        try simp only [List.length_append, List.length_cons, List.length_nil] at hq2
                        refine lv_iinc (v := nI (k2 + 1)) (lv' := [(3, .int (nI (k2 + 1))), (0, .ref m0), (1, .int (nI fr)), (2, .int (nI row))]) hx hb dXM_write_193 hl (k := 3) rfl (nI_add _ 1) (by decide) rfl (fun ls hl => ?_)
                        refine lv_goto (tgt := 112) hx hb dXM_write_196 (by decide) ?_
                        exact ih (k2 + 1) w2 u2 ((Ok ++ [58]) ++ (az_hex (az_pt V1 k2))) (by omega) (hg2) (az_st_mark hrw hst (by omega) c115 (by omega)) (by omega) (by omega) _ _ (hP.sub [2, 0, 1, 3] rfl) (hD.sub [2, 0, 1, 3] (by decide) rfl) hS ls (lv_sub hl [1, 2, 3, 0] rfl)
                      · refine lv_iload_n hx hb dXM_write_171 rfl (lv_at hl 3 rfl) ?_
                        refine lv_iload_n hx hb dXM_write_172 rfl (lv_at hl 1 rfl) ?_
                        refine lv_iload_n hx hb dXM_write_173 rfl (lv_at hl 2 rfl) ?_
                        refine lv_iadd hx hb dXM_write_174 ?_
                        refine tp_i (nI (fr + row)) (nI_add _ _) ?_
                        refine bn_eq (tgt := 184) hx hb dXM_write_175 (by decide) (by omega) (by omega) (fun c175 => ?_) (fun c175 => ?_)
                        · refine lv_aload_n hx hb dXM_write_184 rfl (lv_at hl 0 rfl) ?_
                          refine lv_aload_n hx hb dXM_write_185 rfl (lv_at hl 0 rfl) ?_
                          refine lv_iload_n hx hb dXM_write_186 rfl (lv_at hl 3 rfl) ?_
                          refine rc_Vi (As := [.int (nI k2)]) (rest := [.ref m0]) ⟨hx, hb, hml, hown, hts⟩ (ct_m_part l dC dI m0 mt mb mf ml mp mo n wk xm xg dB B V1 k2 c115 hB0) (cwV 1 hts gXM_write_XM_part rfl rfl rfl (by decide +kernel) ⟨Nat.le_of_ble_eq_true rfl, Nat.le_of_ble_eq_true rfl⟩) (hP.sub [0, 1] rfl) (hK.sub [0] rfl) 0 rfl rfl rfl hl.1 rfl (Nat.le_of_ble_eq_true rfl) dXM_write_187 ⟨(Nat.zero_le _), (Nat.zero_le _)⟩ ?_
                          have hh := az_hex_le (az_pt V1 k2)
                          refine wc_Vv (As := [.int (nI (az_pt V1 k2))]) (rest := []) (wr := [(mb, .inl (dB, 32, .inl B)), (mf, .inl (dF, 2, .inl Fm))]) ⟨hx, hb, hml, hown, hts⟩ (ct_m_sayPart l dC dI H.size m0 mt mb mf ml mp mo n wk xm xg dO Gk Ok hgk (az_pt V1 k2) (az_pt_lt V1 k2) (by omega)) (cwV 1 hts gXM_write_XM_sayPart rfl rfl rfl (by decide +kernel) ⟨Nat.le_of_ble_eq_true rfl, Nat.le_of_ble_eq_true rfl⟩) hP hD hK hS hA [0, 3] [1, 2] [2] rfl rfl (by decide) (by decide) (by decide) rfl 0 rfl rfl rfl hl.1 rfl (Nat.le_of_ble_eq_true rfl) dXM_write_190 ⟨(Nat.zero_le _), (Nat.zero_le _)⟩ (fun u H locs hg1 hP hD hS => ?_)
                          obtain ⟨u1, w1⟩ := u
                          try dsimp only at hg1
                          have hP : va_P (dC, dI) azCl [(mb, .inl (dB, 32, .inl B)), (mf, .inl (dF, 2, .inl Fm)), (m0, .inr (2, [.ref mt, .int (nI n), .ref mb, .ref mf, .ref ml, .ref mp, .int xm, .int xg, .ref mo, .int (nI w1)])), (mo, .inl (dO, 64, .inl u1))] H := hP
                          have hD : va_D A [(mb, .inl (dB, 32, .inl B)), (mf, .inl (dF, 2, .inl Fm)), (m0, .inr (2, [.ref mt, .int (nI n), .ref mb, .ref mf, .ref ml, .ref mp, .int xm, .int xg, .ref mo, .int (nI w1)])), (mo, .inl (dO, 64, .inl u1))] := hD
                          have hq1 := hg1.1
                          try simp only [List.length_append, List.length_cons, List.length_nil] at hq1
                          refine lv_iinc (v := nI (k2 + 1)) (lv' := [(3, .int (nI (k2 + 1))), (0, .ref m0), (1, .int (nI fr)), (2, .int (nI row))]) hx hb dXM_write_193 hl (k := 3) rfl (nI_add _ 1) (by decide) rfl (fun ls hl => ?_)
                          refine lv_goto (tgt := 112) hx hb dXM_write_196 (by decide) ?_
                          exact ih (k2 + 1) w1 u1 (Ok ++ (az_hex (az_pt V1 k2))) (by omega) (hg1) (az_st_out hrw hst (by omega) c115 (by omega)) (by omega) (by omega) _ _ (hP.sub [2, 0, 1, 3] rfl) (hD.sub [2, 0, 1, 3] (by decide) rfl) hS ls (lv_sub hl [1, 2, 3, 0] rfl)
                        · refine lv_aload_n hx hb dXM_write_178 rfl (lv_at hl 0 rfl) ?_
                          refine lv_bipush (v := nI 58) hx hb dXM_write_179 (by decide) ?_
                          refine wc_Vv (As := [.int (nI 58)]) (rest := []) (wr := [(mb, .inl (dB, 32, .inl B)), (mf, .inl (dF, 2, .inl Fm))]) ⟨hx, hb, hml, hown, hts⟩ (ct_m_say l dC dI H.size m0 mt mb mf ml mp mo n wk xm xg dO Gk Ok hgk 58 (by omega)) (cwV 1 hts gXM_write_XM_say rfl rfl rfl (by decide +kernel) ⟨Nat.le_of_ble_eq_true rfl, Nat.le_of_ble_eq_true rfl⟩) hP hD hK hS hA [0, 3] [1, 2] [2] rfl rfl (by decide) (by decide) (by decide) rfl 0 rfl rfl rfl hl.1 rfl (Nat.le_of_ble_eq_true rfl) dXM_write_181 ⟨(Nat.zero_le _), (Nat.zero_le _)⟩ (fun u H locs hg1 hP hD hS => ?_)
                          obtain ⟨u1, w1⟩ := u
                          try dsimp only at hg1
                          have hP : va_P (dC, dI) azCl [(mb, .inl (dB, 32, .inl B)), (mf, .inl (dF, 2, .inl Fm)), (m0, .inr (2, [.ref mt, .int (nI n), .ref mb, .ref mf, .ref ml, .ref mp, .int xm, .int xg, .ref mo, .int (nI w1)])), (mo, .inl (dO, 64, .inl u1))] H := hP
                          have hD : va_D A [(mb, .inl (dB, 32, .inl B)), (mf, .inl (dF, 2, .inl Fm)), (m0, .inr (2, [.ref mt, .int (nI n), .ref mb, .ref mf, .ref ml, .ref mp, .int xm, .int xg, .ref mo, .int (nI w1)])), (mo, .inl (dO, 64, .inl u1))] := hD
                          have hq1 := hg1.1
                          try simp only [List.length_append, List.length_cons, List.length_nil] at hq1
                          refine lv_aload_n hx hb dXM_write_184 rfl (lv_at hl 0 rfl) ?_
                          refine lv_aload_n hx hb dXM_write_185 rfl (lv_at hl 0 rfl) ?_
                          refine lv_iload_n hx hb dXM_write_186 rfl (lv_at hl 3 rfl) ?_
                          refine rc_Vi (As := [.int (nI k2)]) (rest := [.ref m0]) ⟨hx, hb, hml, hown, hts⟩ (ct_m_part l dC dI m0 mt mb mf ml mp mo n w1 xm xg dB B V1 k2 c115 hB0) (cwV 1 hts gXM_write_XM_part rfl rfl rfl (by decide +kernel) ⟨Nat.le_of_ble_eq_true rfl, Nat.le_of_ble_eq_true rfl⟩) (hP.sub [2, 0] rfl) (hK.sub [0] rfl) 0 rfl rfl rfl hl.1 rfl (Nat.le_of_ble_eq_true rfl) dXM_write_187 ⟨(Nat.zero_le _), (Nat.zero_le _)⟩ ?_
                          have hh := az_hex_le (az_pt V1 k2)
                          refine wc_Vv (As := [.int (nI (az_pt V1 k2))]) (rest := []) (wr := [(mb, .inl (dB, 32, .inl B)), (mf, .inl (dF, 2, .inl Fm))]) ⟨hx, hb, hml, hown, hts⟩ (ct_m_sayPart l dC dI H.size m0 mt mb mf ml mp mo n w1 xm xg dO u1 (Ok ++ [58]) hg1 (az_pt V1 k2) (az_pt_lt V1 k2) (by omega)) (cwV 1 hts gXM_write_XM_sayPart rfl rfl rfl (by decide +kernel) ⟨Nat.le_of_ble_eq_true rfl, Nat.le_of_ble_eq_true rfl⟩) hP hD hK hS hA [2, 3] [0, 1] [2] rfl rfl (by decide) (by decide) (by decide) rfl 0 rfl rfl rfl hl.1 rfl (Nat.le_of_ble_eq_true rfl) dXM_write_190 ⟨(Nat.zero_le _), (Nat.zero_le _)⟩ (fun u H locs hg2 hP hD hS => ?_)
                          obtain ⟨u2, w2⟩ := u
                          try dsimp only at hg2
                          have hP : va_P (dC, dI) azCl [(mb, .inl (dB, 32, .inl B)), (mf, .inl (dF, 2, .inl Fm)), (m0, .inr (2, [.ref mt, .int (nI n), .ref mb, .ref mf, .ref ml, .ref mp, .int xm, .int xg, .ref mo, .int (nI w2)])), (mo, .inl (dO, 64, .inl u2))] H := hP
                          have hD : va_D A [(mb, .inl (dB, 32, .inl B)), (mf, .inl (dF, 2, .inl Fm)), (m0, .inr (2, [.ref mt, .int (nI n), .ref mb, .ref mf, .ref ml, .ref mp, .int xm, .int xg, .ref mo, .int (nI w2)])), (mo, .inl (dO, 64, .inl u2))] := hD
                          have hq2 := hg2.1
                          try simp only [List.length_append, List.length_cons, List.length_nil] at hq2
                          refine lv_iinc (v := nI (k2 + 1)) (lv' := [(3, .int (nI (k2 + 1))), (0, .ref m0), (1, .int (nI fr)), (2, .int (nI row))]) hx hb dXM_write_193 hl (k := 3) rfl (nI_add _ 1) (by decide) rfl (fun ls hl => ?_)
                          refine lv_goto (tgt := 112) hx hb dXM_write_196 (by decide) ?_
                          exact ih (k2 + 1) w2 u2 ((Ok ++ [58]) ++ (az_hex (az_pt V1 k2))) (by omega) (hg2) (az_st_mark hrw hst (by omega) c115 (by omega)) (by omega) (by omega) _ _ (hP.sub [2, 0, 1, 3] rfl) (hD.sub [2, 0, 1, 3] (by decide) rfl) hS ls (lv_sub hl [1, 2, 3, 0] rfl)
                  · refine lv_iload_n hx hb dXM_write_122 rfl (lv_at hl 3 rfl) ?_
                    refine lv_iload_n hx hb dXM_write_123 rfl (lv_at hl 1 rfl) ?_
                    refine bn_lt (tgt := 163) hx hb dXM_write_124 (by decide) (by omega) (by omega) (fun c124 => ?_) (fun c124 => ?_)
                    · refine lv_iload_n hx hb dXM_write_163 rfl (lv_at hl 3 rfl) ?_
                      refine bz_le (tgt := 184) hx hb dXM_write_164 (by decide) (by omega) (fun c164 => ?_) (fun c164 => ?_)
                      · refine lv_aload_n hx hb dXM_write_184 rfl (lv_at hl 0 rfl) ?_
                        refine lv_aload_n hx hb dXM_write_185 rfl (lv_at hl 0 rfl) ?_
                        refine lv_iload_n hx hb dXM_write_186 rfl (lv_at hl 3 rfl) ?_
                        refine rc_Vi (As := [.int (nI k2)]) (rest := [.ref m0]) ⟨hx, hb, hml, hown, hts⟩ (ct_m_part l dC dI m0 mt mb mf ml mp mo n wk xm xg dB B V1 k2 c115 hB0) (cwV 1 hts gXM_write_XM_part rfl rfl rfl (by decide +kernel) ⟨Nat.le_of_ble_eq_true rfl, Nat.le_of_ble_eq_true rfl⟩) (hP.sub [0, 1] rfl) (hK.sub [0] rfl) 0 rfl rfl rfl hl.1 rfl (Nat.le_of_ble_eq_true rfl) dXM_write_187 ⟨(Nat.zero_le _), (Nat.zero_le _)⟩ ?_
                        have hh := az_hex_le (az_pt V1 k2)
                        refine wc_Vv (As := [.int (nI (az_pt V1 k2))]) (rest := []) (wr := [(mb, .inl (dB, 32, .inl B)), (mf, .inl (dF, 2, .inl Fm))]) ⟨hx, hb, hml, hown, hts⟩ (ct_m_sayPart l dC dI H.size m0 mt mb mf ml mp mo n wk xm xg dO Gk Ok hgk (az_pt V1 k2) (az_pt_lt V1 k2) (by omega)) (cwV 1 hts gXM_write_XM_sayPart rfl rfl rfl (by decide +kernel) ⟨Nat.le_of_ble_eq_true rfl, Nat.le_of_ble_eq_true rfl⟩) hP hD hK hS hA [0, 3] [1, 2] [2] rfl rfl (by decide) (by decide) (by decide) rfl 0 rfl rfl rfl hl.1 rfl (Nat.le_of_ble_eq_true rfl) dXM_write_190 ⟨(Nat.zero_le _), (Nat.zero_le _)⟩ (fun u H locs hg1 hP hD hS => ?_)
                        obtain ⟨u1, w1⟩ := u
                        try dsimp only at hg1
                        have hP : va_P (dC, dI) azCl [(mb, .inl (dB, 32, .inl B)), (mf, .inl (dF, 2, .inl Fm)), (m0, .inr (2, [.ref mt, .int (nI n), .ref mb, .ref mf, .ref ml, .ref mp, .int xm, .int xg, .ref mo, .int (nI w1)])), (mo, .inl (dO, 64, .inl u1))] H := hP
                        have hD : va_D A [(mb, .inl (dB, 32, .inl B)), (mf, .inl (dF, 2, .inl Fm)), (m0, .inr (2, [.ref mt, .int (nI n), .ref mb, .ref mf, .ref ml, .ref mp, .int xm, .int xg, .ref mo, .int (nI w1)])), (mo, .inl (dO, 64, .inl u1))] := hD
                        have hq1 := hg1.1
                        try simp only [List.length_append, List.length_cons, List.length_nil] at hq1
                        refine lv_iinc (v := nI (k2 + 1)) (lv' := [(3, .int (nI (k2 + 1))), (0, .ref m0), (1, .int (nI fr)), (2, .int (nI row))]) hx hb dXM_write_193 hl (k := 3) rfl (nI_add _ 1) (by decide) rfl (fun ls hl => ?_)
                        refine lv_goto (tgt := 112) hx hb dXM_write_196 (by decide) ?_
                        exact ih (k2 + 1) w1 u1 (Ok ++ (az_hex (az_pt V1 k2))) (by omega) (hg1) (az_st_out hrw hst (by omega) c115 (by omega)) (by omega) (by omega) _ _ (hP.sub [2, 0, 1, 3] rfl) (hD.sub [2, 0, 1, 3] (by decide) rfl) hS ls (lv_sub hl [1, 2, 3, 0] rfl)
                      · refine lv_iload_n hx hb dXM_write_167 rfl (lv_at hl 2 rfl) ?_
                        refine bz_le (tgt := 178) hx hb dXM_write_168 (by decide) (by omega) (fun c168 => ?_) (fun c168 => ?_)
                        · refine lv_aload_n hx hb dXM_write_178 rfl (lv_at hl 0 rfl) ?_
                          refine lv_bipush (v := nI 58) hx hb dXM_write_179 (by decide) ?_
                          refine wc_Vv (As := [.int (nI 58)]) (rest := []) (wr := [(mb, .inl (dB, 32, .inl B)), (mf, .inl (dF, 2, .inl Fm))]) ⟨hx, hb, hml, hown, hts⟩ (ct_m_say l dC dI H.size m0 mt mb mf ml mp mo n wk xm xg dO Gk Ok hgk 58 (by omega)) (cwV 1 hts gXM_write_XM_say rfl rfl rfl (by decide +kernel) ⟨Nat.le_of_ble_eq_true rfl, Nat.le_of_ble_eq_true rfl⟩) hP hD hK hS hA [0, 3] [1, 2] [2] rfl rfl (by decide) (by decide) (by decide) rfl 0 rfl rfl rfl hl.1 rfl (Nat.le_of_ble_eq_true rfl) dXM_write_181 ⟨(Nat.zero_le _), (Nat.zero_le _)⟩ (fun u H locs hg1 hP hD hS => ?_)
                          obtain ⟨u1, w1⟩ := u
                          try dsimp only at hg1
                          have hP : va_P (dC, dI) azCl [(mb, .inl (dB, 32, .inl B)), (mf, .inl (dF, 2, .inl Fm)), (m0, .inr (2, [.ref mt, .int (nI n), .ref mb, .ref mf, .ref ml, .ref mp, .int xm, .int xg, .ref mo, .int (nI w1)])), (mo, .inl (dO, 64, .inl u1))] H := hP
                          have hD : va_D A [(mb, .inl (dB, 32, .inl B)), (mf, .inl (dF, 2, .inl Fm)), (m0, .inr (2, [.ref mt, .int (nI n), .ref mb, .ref mf, .ref ml, .ref mp, .int xm, .int xg, .ref mo, .int (nI w1)])), (mo, .inl (dO, 64, .inl u1))] := hD
                          have hq1 := hg1.1
                          try simp only [List.length_append, List.length_cons, List.length_nil] at hq1
                          refine lv_aload_n hx hb dXM_write_184 rfl (lv_at hl 0 rfl) ?_
                          refine lv_aload_n hx hb dXM_write_185 rfl (lv_at hl 0 rfl) ?_
                          refine lv_iload_n hx hb dXM_write_186 rfl (lv_at hl 3 rfl) ?_
                          refine rc_Vi (As := [.int (nI k2)]) (rest := [.ref m0]) ⟨hx, hb, hml, hown, hts⟩ (ct_m_part l dC dI m0 mt mb mf ml mp mo n w1 xm xg dB B V1 k2 c115 hB0) (cwV 1 hts gXM_write_XM_part rfl rfl rfl (by decide +kernel) ⟨Nat.le_of_ble_eq_true rfl, Nat.le_of_ble_eq_true rfl⟩) (hP.sub [2, 0] rfl) (hK.sub [0] rfl) 0 rfl rfl rfl hl.1 rfl (Nat.le_of_ble_eq_true rfl) dXM_write_187 ⟨(Nat.zero_le _), (Nat.zero_le _)⟩ ?_
                          have hh := az_hex_le (az_pt V1 k2)
                          refine wc_Vv (As := [.int (nI (az_pt V1 k2))]) (rest := []) (wr := [(mb, .inl (dB, 32, .inl B)), (mf, .inl (dF, 2, .inl Fm))]) ⟨hx, hb, hml, hown, hts⟩ (ct_m_sayPart l dC dI H.size m0 mt mb mf ml mp mo n w1 xm xg dO u1 (Ok ++ [58]) hg1 (az_pt V1 k2) (az_pt_lt V1 k2) (by omega)) (cwV 1 hts gXM_write_XM_sayPart rfl rfl rfl (by decide +kernel) ⟨Nat.le_of_ble_eq_true rfl, Nat.le_of_ble_eq_true rfl⟩) hP hD hK hS hA [2, 3] [0, 1] [2] rfl rfl (by decide) (by decide) (by decide) rfl 0 rfl rfl rfl hl.1 rfl (Nat.le_of_ble_eq_true rfl) dXM_write_190 ⟨(Nat.zero_le _), (Nat.zero_le _)⟩ (fun u H locs hg2 hP hD hS => ?_)
                          obtain ⟨u2, w2⟩ := u
                          try dsimp only at hg2
                          have hP : va_P (dC, dI) azCl [(mb, .inl (dB, 32, .inl B)), (mf, .inl (dF, 2, .inl Fm)), (m0, .inr (2, [.ref mt, .int (nI n), .ref mb, .ref mf, .ref ml, .ref mp, .int xm, .int xg, .ref mo, .int (nI w2)])), (mo, .inl (dO, 64, .inl u2))] H := hP
                          have hD : va_D A [(mb, .inl (dB, 32, .inl B)), (mf, .inl (dF, 2, .inl Fm)), (m0, .inr (2, [.ref mt, .int (nI n), .ref mb, .ref mf, .ref ml, .ref mp, .int xm, .int xg, .ref mo, .int (nI w2)])), (mo, .inl (dO, 64, .inl u2))] := hD
                          have hq2 := hg2.1
                          try simp only [List.length_append, List.length_cons, List.length_nil] at hq2
                          refine lv_iinc (v := nI (k2 + 1)) (lv' := [(3, .int (nI (k2 + 1))), (0, .ref m0), (1, .int (nI fr)), (2, .int (nI row))]) hx hb dXM_write_193 hl (k := 3) rfl (nI_add _ 1) (by decide) rfl (fun ls hl => ?_)
                          refine lv_goto (tgt := 112) hx hb dXM_write_196 (by decide) ?_
                          exact ih (k2 + 1) w2 u2 ((Ok ++ [58]) ++ (az_hex (az_pt V1 k2))) (by omega) (hg2) (az_st_mark hrw hst (by omega) c115 (by omega)) (by omega) (by omega) _ _ (hP.sub [2, 0, 1, 3] rfl) (hD.sub [2, 0, 1, 3] (by decide) rfl) hS ls (lv_sub hl [1, 2, 3, 0] rfl)
                        · refine lv_iload_n hx hb dXM_write_171 rfl (lv_at hl 3 rfl) ?_
                          refine lv_iload_n hx hb dXM_write_172 rfl (lv_at hl 1 rfl) ?_
                          refine lv_iload_n hx hb dXM_write_173 rfl (lv_at hl 2 rfl) ?_
                          refine lv_iadd hx hb dXM_write_174 ?_
                          refine tp_i (nI (fr + row)) (nI_add _ _) ?_
                          refine bn_eq (tgt := 184) hx hb dXM_write_175 (by decide) (by omega) (by omega) (fun c175 => ?_) (fun c175 => ?_)
                          · refine lv_aload_n hx hb dXM_write_184 rfl (lv_at hl 0 rfl) ?_
                            refine lv_aload_n hx hb dXM_write_185 rfl (lv_at hl 0 rfl) ?_
                            refine lv_iload_n hx hb dXM_write_186 rfl (lv_at hl 3 rfl) ?_
                            refine rc_Vi (As := [.int (nI k2)]) (rest := [.ref m0]) ⟨hx, hb, hml, hown, hts⟩ (ct_m_part l dC dI m0 mt mb mf ml mp mo n wk xm xg dB B V1 k2 c115 hB0) (cwV 1 hts gXM_write_XM_part rfl rfl rfl (by decide +kernel) ⟨Nat.le_of_ble_eq_true rfl, Nat.le_of_ble_eq_true rfl⟩) (hP.sub [0, 1] rfl) (hK.sub [0] rfl) 0 rfl rfl rfl hl.1 rfl (Nat.le_of_ble_eq_true rfl) dXM_write_187 ⟨(Nat.zero_le _), (Nat.zero_le _)⟩ ?_
                            have hh := az_hex_le (az_pt V1 k2)
                            refine wc_Vv (As := [.int (nI (az_pt V1 k2))]) (rest := []) (wr := [(mb, .inl (dB, 32, .inl B)), (mf, .inl (dF, 2, .inl Fm))]) ⟨hx, hb, hml, hown, hts⟩ (ct_m_sayPart l dC dI H.size m0 mt mb mf ml mp mo n wk xm xg dO Gk Ok hgk (az_pt V1 k2) (az_pt_lt V1 k2) (by omega)) (cwV 1 hts gXM_write_XM_sayPart rfl rfl rfl (by decide +kernel) ⟨Nat.le_of_ble_eq_true rfl, Nat.le_of_ble_eq_true rfl⟩) hP hD hK hS hA [0, 3] [1, 2] [2] rfl rfl (by decide) (by decide) (by decide) rfl 0 rfl rfl rfl hl.1 rfl (Nat.le_of_ble_eq_true rfl) dXM_write_190 ⟨(Nat.zero_le _), (Nat.zero_le _)⟩ (fun u H locs hg1 hP hD hS => ?_)
                            obtain ⟨u1, w1⟩ := u
                            try dsimp only at hg1
                            have hP : va_P (dC, dI) azCl [(mb, .inl (dB, 32, .inl B)), (mf, .inl (dF, 2, .inl Fm)), (m0, .inr (2, [.ref mt, .int (nI n), .ref mb, .ref mf, .ref ml, .ref mp, .int xm, .int xg, .ref mo, .int (nI w1)])), (mo, .inl (dO, 64, .inl u1))] H := hP
                            have hD : va_D A [(mb, .inl (dB, 32, .inl B)), (mf, .inl (dF, 2, .inl Fm)), (m0, .inr (2, [.ref mt, .int (nI n), .ref mb, .ref mf, .ref ml, .ref mp, .int xm, .int xg, .ref mo, .int (nI w1)])), (mo, .inl (dO, 64, .inl u1))] := hD
                            have hq1 := hg1.1
                            try simp only [List.length_append, List.length_cons, List.length_nil] at hq1
                            refine lv_iinc (v := nI (k2 + 1)) (lv' := [(3, .int (nI (k2 + 1))), (0, .ref m0), (1, .int (nI fr)), (2, .int (nI row))]) hx hb dXM_write_193 hl (k := 3) rfl (nI_add _ 1) (by decide) rfl (fun ls hl => ?_)
                            refine lv_goto (tgt := 112) hx hb dXM_write_196 (by decide) ?_
                            exact ih (k2 + 1) w1 u1 (Ok ++ (az_hex (az_pt V1 k2))) (by omega) (hg1) (az_st_out hrw hst (by omega) c115 (by omega)) (by omega) (by omega) _ _ (hP.sub [2, 0, 1, 3] rfl) (hD.sub [2, 0, 1, 3] (by decide) rfl) hS ls (lv_sub hl [1, 2, 3, 0] rfl)
                          · refine lv_aload_n hx hb dXM_write_178 rfl (lv_at hl 0 rfl) ?_
                            refine lv_bipush (v := nI 58) hx hb dXM_write_179 (by decide) ?_
                            refine wc_Vv (As := [.int (nI 58)]) (rest := []) (wr := [(mb, .inl (dB, 32, .inl B)), (mf, .inl (dF, 2, .inl Fm))]) ⟨hx, hb, hml, hown, hts⟩ (ct_m_say l dC dI H.size m0 mt mb mf ml mp mo n wk xm xg dO Gk Ok hgk 58 (by omega)) (cwV 1 hts gXM_write_XM_say rfl rfl rfl (by decide +kernel) ⟨Nat.le_of_ble_eq_true rfl, Nat.le_of_ble_eq_true rfl⟩) hP hD hK hS hA [0, 3] [1, 2] [2] rfl rfl (by decide) (by decide) (by decide) rfl 0 rfl rfl rfl hl.1 rfl (Nat.le_of_ble_eq_true rfl) dXM_write_181 ⟨(Nat.zero_le _), (Nat.zero_le _)⟩ (fun u H locs hg1 hP hD hS => ?_)
                            obtain ⟨u1, w1⟩ := u
                            try dsimp only at hg1
                            have hP : va_P (dC, dI) azCl [(mb, .inl (dB, 32, .inl B)), (mf, .inl (dF, 2, .inl Fm)), (m0, .inr (2, [.ref mt, .int (nI n), .ref mb, .ref mf, .ref ml, .ref mp, .int xm, .int xg, .ref mo, .int (nI w1)])), (mo, .inl (dO, 64, .inl u1))] H := hP
                            have hD : va_D A [(mb, .inl (dB, 32, .inl B)), (mf, .inl (dF, 2, .inl Fm)), (m0, .inr (2, [.ref mt, .int (nI n), .ref mb, .ref mf, .ref ml, .ref mp, .int xm, .int xg, .ref mo, .int (nI w1)])), (mo, .inl (dO, 64, .inl u1))] := hD
                            have hq1 := hg1.1
                            try simp only [List.length_append, List.length_cons, List.length_nil] at hq1
                            refine lv_aload_n hx hb dXM_write_184 rfl (lv_at hl 0 rfl) ?_
                            refine lv_aload_n hx hb dXM_write_185 rfl (lv_at hl 0 rfl) ?_
                            refine lv_iload_n hx hb dXM_write_186 rfl (lv_at hl 3 rfl) ?_
                            refine rc_Vi (As := [.int (nI k2)]) (rest := [.ref m0]) ⟨hx, hb, hml, hown, hts⟩ (ct_m_part l dC dI m0 mt mb mf ml mp mo n w1 xm xg dB B V1 k2 c115 hB0) (cwV 1 hts gXM_write_XM_part rfl rfl rfl (by decide +kernel) ⟨Nat.le_of_ble_eq_true rfl, Nat.le_of_ble_eq_true rfl⟩) (hP.sub [2, 0] rfl) (hK.sub [0] rfl) 0 rfl rfl rfl hl.1 rfl (Nat.le_of_ble_eq_true rfl) dXM_write_187 ⟨(Nat.zero_le _), (Nat.zero_le _)⟩ ?_
                            have hh := az_hex_le (az_pt V1 k2)
                            refine wc_Vv (As := [.int (nI (az_pt V1 k2))]) (rest := []) (wr := [(mb, .inl (dB, 32, .inl B)), (mf, .inl (dF, 2, .inl Fm))]) ⟨hx, hb, hml, hown, hts⟩ (ct_m_sayPart l dC dI H.size m0 mt mb mf ml mp mo n w1 xm xg dO u1 (Ok ++ [58]) hg1 (az_pt V1 k2) (az_pt_lt V1 k2) (by omega)) (cwV 1 hts gXM_write_XM_sayPart rfl rfl rfl (by decide +kernel) ⟨Nat.le_of_ble_eq_true rfl, Nat.le_of_ble_eq_true rfl⟩) hP hD hK hS hA [2, 3] [0, 1] [2] rfl rfl (by decide) (by decide) (by decide) rfl 0 rfl rfl rfl hl.1 rfl (Nat.le_of_ble_eq_true rfl) dXM_write_190 ⟨(Nat.zero_le _), (Nat.zero_le _)⟩ (fun u H locs hg2 hP hD hS => ?_)
                            obtain ⟨u2, w2⟩ := u
                            try dsimp only at hg2
                            have hP : va_P (dC, dI) azCl [(mb, .inl (dB, 32, .inl B)), (mf, .inl (dF, 2, .inl Fm)), (m0, .inr (2, [.ref mt, .int (nI n), .ref mb, .ref mf, .ref ml, .ref mp, .int xm, .int xg, .ref mo, .int (nI w2)])), (mo, .inl (dO, 64, .inl u2))] H := hP
                            have hD : va_D A [(mb, .inl (dB, 32, .inl B)), (mf, .inl (dF, 2, .inl Fm)), (m0, .inr (2, [.ref mt, .int (nI n), .ref mb, .ref mf, .ref ml, .ref mp, .int xm, .int xg, .ref mo, .int (nI w2)])), (mo, .inl (dO, 64, .inl u2))] := hD
                            have hq2 := hg2.1
                            try simp only [List.length_append, List.length_cons, List.length_nil] at hq2
                            refine lv_iinc (v := nI (k2 + 1)) (lv' := [(3, .int (nI (k2 + 1))), (0, .ref m0), (1, .int (nI fr)), (2, .int (nI row))]) hx hb dXM_write_193 hl (k := 3) rfl (nI_add _ 1) (by decide) rfl (fun ls hl => ?_)
                            refine lv_goto (tgt := 112) hx hb dXM_write_196 (by decide) ?_
                            exact ih (k2 + 1) w2 u2 ((Ok ++ [58]) ++ (az_hex (az_pt V1 k2))) (by omega) (hg2) (az_st_mark hrw hst (by omega) c115 (by omega)) (by omega) (by omega) _ _ (hP.sub [2, 0, 1, 3] rfl) (hD.sub [2, 0, 1, 3] (by decide) rfl) hS ls (lv_sub hl [1, 2, 3, 0] rfl)
                    · refine lv_iload_n hx hb dXM_write_127 rfl (lv_at hl 3 rfl) ?_
                      refine lv_iload_n hx hb dXM_write_128 rfl (lv_at hl 1 rfl) ?_
                      refine lv_iload_n hx hb dXM_write_129 rfl (lv_at hl 2 rfl) ?_
                      refine lv_iadd hx hb dXM_write_130 ?_
                      refine tp_i (nI (fr + row)) (nI_add _ _) ?_
                      refine bn_ge (tgt := 163) hx hb dXM_write_131 (by decide) (by omega) (by omega) (fun c131 => ?_) (fun c131 => ?_)
                      · refine lv_iload_n hx hb dXM_write_163 rfl (lv_at hl 3 rfl) ?_
                        refine bz_le (tgt := 184) hx hb dXM_write_164 (by decide) (by omega) (fun c164 => ?_) (fun c164 => ?_)
                        · refine lv_aload_n hx hb dXM_write_184 rfl (lv_at hl 0 rfl) ?_
                          refine lv_aload_n hx hb dXM_write_185 rfl (lv_at hl 0 rfl) ?_
                          refine lv_iload_n hx hb dXM_write_186 rfl (lv_at hl 3 rfl) ?_
                          refine rc_Vi (As := [.int (nI k2)]) (rest := [.ref m0]) ⟨hx, hb, hml, hown, hts⟩ (ct_m_part l dC dI m0 mt mb mf ml mp mo n wk xm xg dB B V1 k2 c115 hB0) (cwV 1 hts gXM_write_XM_part rfl rfl rfl (by decide +kernel) ⟨Nat.le_of_ble_eq_true rfl, Nat.le_of_ble_eq_true rfl⟩) (hP.sub [0, 1] rfl) (hK.sub [0] rfl) 0 rfl rfl rfl hl.1 rfl (Nat.le_of_ble_eq_true rfl) dXM_write_187 ⟨(Nat.zero_le _), (Nat.zero_le _)⟩ ?_
                          have hh := az_hex_le (az_pt V1 k2)
                          refine wc_Vv (As := [.int (nI (az_pt V1 k2))]) (rest := []) (wr := [(mb, .inl (dB, 32, .inl B)), (mf, .inl (dF, 2, .inl Fm))]) ⟨hx, hb, hml, hown, hts⟩ (ct_m_sayPart l dC dI H.size m0 mt mb mf ml mp mo n wk xm xg dO Gk Ok hgk (az_pt V1 k2) (az_pt_lt V1 k2) (by omega)) (cwV 1 hts gXM_write_XM_sayPart rfl rfl rfl (by decide +kernel) ⟨Nat.le_of_ble_eq_true rfl, Nat.le_of_ble_eq_true rfl⟩) hP hD hK hS hA [0, 3] [1, 2] [2] rfl rfl (by decide) (by decide) (by decide) rfl 0 rfl rfl rfl hl.1 rfl (Nat.le_of_ble_eq_true rfl) dXM_write_190 ⟨(Nat.zero_le _), (Nat.zero_le _)⟩ (fun u H locs hg1 hP hD hS => ?_)
                          obtain ⟨u1, w1⟩ := u
                          try dsimp only at hg1
                          have hP : va_P (dC, dI) azCl [(mb, .inl (dB, 32, .inl B)), (mf, .inl (dF, 2, .inl Fm)), (m0, .inr (2, [.ref mt, .int (nI n), .ref mb, .ref mf, .ref ml, .ref mp, .int xm, .int xg, .ref mo, .int (nI w1)])), (mo, .inl (dO, 64, .inl u1))] H := hP
                          have hD : va_D A [(mb, .inl (dB, 32, .inl B)), (mf, .inl (dF, 2, .inl Fm)), (m0, .inr (2, [.ref mt, .int (nI n), .ref mb, .ref mf, .ref ml, .ref mp, .int xm, .int xg, .ref mo, .int (nI w1)])), (mo, .inl (dO, 64, .inl u1))] := hD
                          have hq1 := hg1.1
                          try simp only [List.length_append, List.length_cons, List.length_nil] at hq1
                          refine lv_iinc (v := nI (k2 + 1)) (lv' := [(3, .int (nI (k2 + 1))), (0, .ref m0), (1, .int (nI fr)), (2, .int (nI row))]) hx hb dXM_write_193 hl (k := 3) rfl (nI_add _ 1) (by decide) rfl (fun ls hl => ?_)
                          refine lv_goto (tgt := 112) hx hb dXM_write_196 (by decide) ?_
                          exact ih (k2 + 1) w1 u1 (Ok ++ (az_hex (az_pt V1 k2))) (by omega) (hg1) (az_st_out hrw hst (by omega) c115 (by omega)) (by omega) (by omega) _ _ (hP.sub [2, 0, 1, 3] rfl) (hD.sub [2, 0, 1, 3] (by decide) rfl) hS ls (lv_sub hl [1, 2, 3, 0] rfl)
                        · refine lv_iload_n hx hb dXM_write_167 rfl (lv_at hl 2 rfl) ?_
                          refine bz_le (tgt := 178) hx hb dXM_write_168 (by decide) (by omega) (fun c168 => ?_) (fun c168 => ?_)
                          · refine lv_aload_n hx hb dXM_write_178 rfl (lv_at hl 0 rfl) ?_
                            refine lv_bipush (v := nI 58) hx hb dXM_write_179 (by decide) ?_
                            refine wc_Vv (As := [.int (nI 58)]) (rest := []) (wr := [(mb, .inl (dB, 32, .inl B)), (mf, .inl (dF, 2, .inl Fm))]) ⟨hx, hb, hml, hown, hts⟩ (ct_m_say l dC dI H.size m0 mt mb mf ml mp mo n wk xm xg dO Gk Ok hgk 58 (by omega)) (cwV 1 hts gXM_write_XM_say rfl rfl rfl (by decide +kernel) ⟨Nat.le_of_ble_eq_true rfl, Nat.le_of_ble_eq_true rfl⟩) hP hD hK hS hA [0, 3] [1, 2] [2] rfl rfl (by decide) (by decide) (by decide) rfl 0 rfl rfl rfl hl.1 rfl (Nat.le_of_ble_eq_true rfl) dXM_write_181 ⟨(Nat.zero_le _), (Nat.zero_le _)⟩ (fun u H locs hg1 hP hD hS => ?_)
                            obtain ⟨u1, w1⟩ := u
                            try dsimp only at hg1
                            have hP : va_P (dC, dI) azCl [(mb, .inl (dB, 32, .inl B)), (mf, .inl (dF, 2, .inl Fm)), (m0, .inr (2, [.ref mt, .int (nI n), .ref mb, .ref mf, .ref ml, .ref mp, .int xm, .int xg, .ref mo, .int (nI w1)])), (mo, .inl (dO, 64, .inl u1))] H := hP
                            have hD : va_D A [(mb, .inl (dB, 32, .inl B)), (mf, .inl (dF, 2, .inl Fm)), (m0, .inr (2, [.ref mt, .int (nI n), .ref mb, .ref mf, .ref ml, .ref mp, .int xm, .int xg, .ref mo, .int (nI w1)])), (mo, .inl (dO, 64, .inl u1))] := hD
                            have hq1 := hg1.1
                            try simp only [List.length_append, List.length_cons, List.length_nil] at hq1
                            refine lv_aload_n hx hb dXM_write_184 rfl (lv_at hl 0 rfl) ?_
                            refine lv_aload_n hx hb dXM_write_185 rfl (lv_at hl 0 rfl) ?_
                            refine lv_iload_n hx hb dXM_write_186 rfl (lv_at hl 3 rfl) ?_
                            refine rc_Vi (As := [.int (nI k2)]) (rest := [.ref m0]) ⟨hx, hb, hml, hown, hts⟩ (ct_m_part l dC dI m0 mt mb mf ml mp mo n w1 xm xg dB B V1 k2 c115 hB0) (cwV 1 hts gXM_write_XM_part rfl rfl rfl (by decide +kernel) ⟨Nat.le_of_ble_eq_true rfl, Nat.le_of_ble_eq_true rfl⟩) (hP.sub [2, 0] rfl) (hK.sub [0] rfl) 0 rfl rfl rfl hl.1 rfl (Nat.le_of_ble_eq_true rfl) dXM_write_187 ⟨(Nat.zero_le _), (Nat.zero_le _)⟩ ?_
                            have hh := az_hex_le (az_pt V1 k2)
                            refine wc_Vv (As := [.int (nI (az_pt V1 k2))]) (rest := []) (wr := [(mb, .inl (dB, 32, .inl B)), (mf, .inl (dF, 2, .inl Fm))]) ⟨hx, hb, hml, hown, hts⟩ (ct_m_sayPart l dC dI H.size m0 mt mb mf ml mp mo n w1 xm xg dO u1 (Ok ++ [58]) hg1 (az_pt V1 k2) (az_pt_lt V1 k2) (by omega)) (cwV 1 hts gXM_write_XM_sayPart rfl rfl rfl (by decide +kernel) ⟨Nat.le_of_ble_eq_true rfl, Nat.le_of_ble_eq_true rfl⟩) hP hD hK hS hA [2, 3] [0, 1] [2] rfl rfl (by decide) (by decide) (by decide) rfl 0 rfl rfl rfl hl.1 rfl (Nat.le_of_ble_eq_true rfl) dXM_write_190 ⟨(Nat.zero_le _), (Nat.zero_le _)⟩ (fun u H locs hg2 hP hD hS => ?_)
                            obtain ⟨u2, w2⟩ := u
                            try dsimp only at hg2
                            have hP : va_P (dC, dI) azCl [(mb, .inl (dB, 32, .inl B)), (mf, .inl (dF, 2, .inl Fm)), (m0, .inr (2, [.ref mt, .int (nI n), .ref mb, .ref mf, .ref ml, .ref mp, .int xm, .int xg, .ref mo, .int (nI w2)])), (mo, .inl (dO, 64, .inl u2))] H := hP
                            have hD : va_D A [(mb, .inl (dB, 32, .inl B)), (mf, .inl (dF, 2, .inl Fm)), (m0, .inr (2, [.ref mt, .int (nI n), .ref mb, .ref mf, .ref ml, .ref mp, .int xm, .int xg, .ref mo, .int (nI w2)])), (mo, .inl (dO, 64, .inl u2))] := hD
                            have hq2 := hg2.1
                            try simp only [List.length_append, List.length_cons, List.length_nil] at hq2
                            refine lv_iinc (v := nI (k2 + 1)) (lv' := [(3, .int (nI (k2 + 1))), (0, .ref m0), (1, .int (nI fr)), (2, .int (nI row))]) hx hb dXM_write_193 hl (k := 3) rfl (nI_add _ 1) (by decide) rfl (fun ls hl => ?_)
                            refine lv_goto (tgt := 112) hx hb dXM_write_196 (by decide) ?_
                            exact ih (k2 + 1) w2 u2 ((Ok ++ [58]) ++ (az_hex (az_pt V1 k2))) (by omega) (hg2) (az_st_mark hrw hst (by omega) c115 (by omega)) (by omega) (by omega) _ _ (hP.sub [2, 0, 1, 3] rfl) (hD.sub [2, 0, 1, 3] (by decide) rfl) hS ls (lv_sub hl [1, 2, 3, 0] rfl)
                          · refine lv_iload_n hx hb dXM_write_171 rfl (lv_at hl 3 rfl) ?_
                            refine lv_iload_n hx hb dXM_write_172 rfl (lv_at hl 1 rfl) ?_
                            refine lv_iload_n hx hb dXM_write_173 rfl (lv_at hl 2 rfl) ?_
                            refine lv_iadd hx hb dXM_write_174 ?_
                            refine tp_i (nI (fr + row)) (nI_add _ _) ?_
                            refine bn_eq (tgt := 184) hx hb dXM_write_175 (by decide) (by omega) (by omega) (fun c175 => ?_) (fun c175 => ?_)
                            · refine lv_aload_n hx hb dXM_write_184 rfl (lv_at hl 0 rfl) ?_
                              refine lv_aload_n hx hb dXM_write_185 rfl (lv_at hl 0 rfl) ?_
                              refine lv_iload_n hx hb dXM_write_186 rfl (lv_at hl 3 rfl) ?_
                              refine rc_Vi (As := [.int (nI k2)]) (rest := [.ref m0]) ⟨hx, hb, hml, hown, hts⟩ (ct_m_part l dC dI m0 mt mb mf ml mp mo n wk xm xg dB B V1 k2 c115 hB0) (cwV 1 hts gXM_write_XM_part rfl rfl rfl (by decide +kernel) ⟨Nat.le_of_ble_eq_true rfl, Nat.le_of_ble_eq_true rfl⟩) (hP.sub [0, 1] rfl) (hK.sub [0] rfl) 0 rfl rfl rfl hl.1 rfl (Nat.le_of_ble_eq_true rfl) dXM_write_187 ⟨(Nat.zero_le _), (Nat.zero_le _)⟩ ?_
                              have hh := az_hex_le (az_pt V1 k2)
                              refine wc_Vv (As := [.int (nI (az_pt V1 k2))]) (rest := []) (wr := [(mb, .inl (dB, 32, .inl B)), (mf, .inl (dF, 2, .inl Fm))]) ⟨hx, hb, hml, hown, hts⟩ (ct_m_sayPart l dC dI H.size m0 mt mb mf ml mp mo n wk xm xg dO Gk Ok hgk (az_pt V1 k2) (az_pt_lt V1 k2) (by omega)) (cwV 1 hts gXM_write_XM_sayPart rfl rfl rfl (by decide +kernel) ⟨Nat.le_of_ble_eq_true rfl, Nat.le_of_ble_eq_true rfl⟩) hP hD hK hS hA [0, 3] [1, 2] [2] rfl rfl (by decide) (by decide) (by decide) rfl 0 rfl rfl rfl hl.1 rfl (Nat.le_of_ble_eq_true rfl) dXM_write_190 ⟨(Nat.zero_le _), (Nat.zero_le _)⟩ (fun u H locs hg1 hP hD hS => ?_)
                              obtain ⟨u1, w1⟩ := u
                              try dsimp only at hg1
                              have hP : va_P (dC, dI) azCl [(mb, .inl (dB, 32, .inl B)), (mf, .inl (dF, 2, .inl Fm)), (m0, .inr (2, [.ref mt, .int (nI n), .ref mb, .ref mf, .ref ml, .ref mp, .int xm, .int xg, .ref mo, .int (nI w1)])), (mo, .inl (dO, 64, .inl u1))] H := hP
                              have hD : va_D A [(mb, .inl (dB, 32, .inl B)), (mf, .inl (dF, 2, .inl Fm)), (m0, .inr (2, [.ref mt, .int (nI n), .ref mb, .ref mf, .ref ml, .ref mp, .int xm, .int xg, .ref mo, .int (nI w1)])), (mo, .inl (dO, 64, .inl u1))] := hD
                              have hq1 := hg1.1
                              try simp only [List.length_append, List.length_cons, List.length_nil] at hq1
                              refine lv_iinc (v := nI (k2 + 1)) (lv' := [(3, .int (nI (k2 + 1))), (0, .ref m0), (1, .int (nI fr)), (2, .int (nI row))]) hx hb dXM_write_193 hl (k := 3) rfl (nI_add _ 1) (by decide) rfl (fun ls hl => ?_)
                              refine lv_goto (tgt := 112) hx hb dXM_write_196 (by decide) ?_
                              exact ih (k2 + 1) w1 u1 (Ok ++ (az_hex (az_pt V1 k2))) (by omega) (hg1) (az_st_out hrw hst (by omega) c115 (by omega)) (by omega) (by omega) _ _ (hP.sub [2, 0, 1, 3] rfl) (hD.sub [2, 0, 1, 3] (by decide) rfl) hS ls (lv_sub hl [1, 2, 3, 0] rfl)
                            · refine lv_aload_n hx hb dXM_write_178 rfl (lv_at hl 0 rfl) ?_
                              refine lv_bipush (v := nI 58) hx hb dXM_write_179 (by decide) ?_
                              refine wc_Vv (As := [.int (nI 58)]) (rest := []) (wr := [(mb, .inl (dB, 32, .inl B)), (mf, .inl (dF, 2, .inl Fm))]) ⟨hx, hb, hml, hown, hts⟩ (ct_m_say l dC dI H.size m0 mt mb mf ml mp mo n wk xm xg dO Gk Ok hgk 58 (by omega)) (cwV 1 hts gXM_write_XM_say rfl rfl rfl (by decide +kernel) ⟨Nat.le_of_ble_eq_true rfl, Nat.le_of_ble_eq_true rfl⟩) hP hD hK hS hA [0, 3] [1, 2] [2] rfl rfl (by decide) (by decide) (by decide) rfl 0 rfl rfl rfl hl.1 rfl (Nat.le_of_ble_eq_true rfl) dXM_write_181 ⟨(Nat.zero_le _), (Nat.zero_le _)⟩ (fun u H locs hg1 hP hD hS => ?_)
                              obtain ⟨u1, w1⟩ := u
                              try dsimp only at hg1
                              have hP : va_P (dC, dI) azCl [(mb, .inl (dB, 32, .inl B)), (mf, .inl (dF, 2, .inl Fm)), (m0, .inr (2, [.ref mt, .int (nI n), .ref mb, .ref mf, .ref ml, .ref mp, .int xm, .int xg, .ref mo, .int (nI w1)])), (mo, .inl (dO, 64, .inl u1))] H := hP
                              have hD : va_D A [(mb, .inl (dB, 32, .inl B)), (mf, .inl (dF, 2, .inl Fm)), (m0, .inr (2, [.ref mt, .int (nI n), .ref mb, .ref mf, .ref ml, .ref mp, .int xm, .int xg, .ref mo, .int (nI w1)])), (mo, .inl (dO, 64, .inl u1))] := hD
                              have hq1 := hg1.1
                              try simp only [List.length_append, List.length_cons, List.length_nil] at hq1
                              refine lv_aload_n hx hb dXM_write_184 rfl (lv_at hl 0 rfl) ?_
                              refine lv_aload_n hx hb dXM_write_185 rfl (lv_at hl 0 rfl) ?_
                              refine lv_iload_n hx hb dXM_write_186 rfl (lv_at hl 3 rfl) ?_
                              refine rc_Vi (As := [.int (nI k2)]) (rest := [.ref m0]) ⟨hx, hb, hml, hown, hts⟩ (ct_m_part l dC dI m0 mt mb mf ml mp mo n w1 xm xg dB B V1 k2 c115 hB0) (cwV 1 hts gXM_write_XM_part rfl rfl rfl (by decide +kernel) ⟨Nat.le_of_ble_eq_true rfl, Nat.le_of_ble_eq_true rfl⟩) (hP.sub [2, 0] rfl) (hK.sub [0] rfl) 0 rfl rfl rfl hl.1 rfl (Nat.le_of_ble_eq_true rfl) dXM_write_187 ⟨(Nat.zero_le _), (Nat.zero_le _)⟩ ?_
                              have hh := az_hex_le (az_pt V1 k2)
                              refine wc_Vv (As := [.int (nI (az_pt V1 k2))]) (rest := []) (wr := [(mb, .inl (dB, 32, .inl B)), (mf, .inl (dF, 2, .inl Fm))]) ⟨hx, hb, hml, hown, hts⟩ (ct_m_sayPart l dC dI H.size m0 mt mb mf ml mp mo n w1 xm xg dO u1 (Ok ++ [58]) hg1 (az_pt V1 k2) (az_pt_lt V1 k2) (by omega)) (cwV 1 hts gXM_write_XM_sayPart rfl rfl rfl (by decide +kernel) ⟨Nat.le_of_ble_eq_true rfl, Nat.le_of_ble_eq_true rfl⟩) hP hD hK hS hA [2, 3] [0, 1] [2] rfl rfl (by decide) (by decide) (by decide) rfl 0 rfl rfl rfl hl.1 rfl (Nat.le_of_ble_eq_true rfl) dXM_write_190 ⟨(Nat.zero_le _), (Nat.zero_le _)⟩ (fun u H locs hg2 hP hD hS => ?_)
                              obtain ⟨u2, w2⟩ := u
                              try dsimp only at hg2
                              have hP : va_P (dC, dI) azCl [(mb, .inl (dB, 32, .inl B)), (mf, .inl (dF, 2, .inl Fm)), (m0, .inr (2, [.ref mt, .int (nI n), .ref mb, .ref mf, .ref ml, .ref mp, .int xm, .int xg, .ref mo, .int (nI w2)])), (mo, .inl (dO, 64, .inl u2))] H := hP
                              have hD : va_D A [(mb, .inl (dB, 32, .inl B)), (mf, .inl (dF, 2, .inl Fm)), (m0, .inr (2, [.ref mt, .int (nI n), .ref mb, .ref mf, .ref ml, .ref mp, .int xm, .int xg, .ref mo, .int (nI w2)])), (mo, .inl (dO, 64, .inl u2))] := hD
                              have hq2 := hg2.1
                              try simp only [List.length_append, List.length_cons, List.length_nil] at hq2
                              refine lv_iinc (v := nI (k2 + 1)) (lv' := [(3, .int (nI (k2 + 1))), (0, .ref m0), (1, .int (nI fr)), (2, .int (nI row))]) hx hb dXM_write_193 hl (k := 3) rfl (nI_add _ 1) (by decide) rfl (fun ls hl => ?_)
                              refine lv_goto (tgt := 112) hx hb dXM_write_196 (by decide) ?_
                              exact ih (k2 + 1) w2 u2 ((Ok ++ [58]) ++ (az_hex (az_pt V1 k2))) (by omega) (hg2) (az_st_mark hrw hst (by omega) c115 (by omega)) (by omega) (by omega) _ _ (hP.sub [2, 0, 1, 3] rfl) (hD.sub [2, 0, 1, 3] (by decide) rfl) hS ls (lv_sub hl [1, 2, 3, 0] rfl)
                      · refine lv_iload_n hx hb dXM_write_134 rfl (lv_at hl 3 rfl) ?_
                        refine lv_iload_n hx hb dXM_write_135 rfl (lv_at hl 1 rfl) ?_
                        refine bn_ne (tgt := 145) hx hb dXM_write_136 (by decide) (by omega) (by omega) (fun c136 => ?_) (fun c136 => ?_)
                        · refine lv_iload_n hx hb dXM_write_145 rfl (lv_at hl 3 rfl) ?_
                          refine lv_iload_n hx hb dXM_write_146 rfl (lv_at hl 1 rfl) ?_
                          refine lv_iload_n hx hb dXM_write_147 rfl (lv_at hl 2 rfl) ?_
                          refine lv_iadd hx hb dXM_write_148 ?_
                          refine tp_i (nI (fr + row)) (nI_add _ _) ?_
                          refine lv_iconst (v := nI 1) hx hb dXM_write_149 (by decide) ?_
                          refine lv_isub hx hb dXM_write_150 ?_
                          refine tp_i (nI ((fr + row) - 1)) (pk_sub (by omega)) ?_
                          refine bn_ne (tgt := 193) hx hb dXM_write_151 (by decide) (by omega) (by omega) (fun c151 => ?_) (fun c151 => ?_)
                          · refine lv_iinc (v := nI (k2 + 1)) (lv' := [(3, .int (nI (k2 + 1))), (0, .ref m0), (1, .int (nI fr)), (2, .int (nI row))]) hx hb dXM_write_193 hl (k := 3) rfl (nI_add _ 1) (by decide) rfl (fun ls hl => ?_)
                            refine lv_goto (tgt := 112) hx hb dXM_write_196 (by decide) ?_
                            exact ih (k2 + 1) wk Gk Ok (by omega) (hgk) (az_st_in hst (by omega) (by omega) (by omega)) (by omega) (by omega) _ _ (hP.sub [0, 1, 2, 3] rfl) (hD.sub [0, 1, 2, 3] (by decide) rfl) hS ls (lv_sub hl [1, 2, 3, 0] rfl)
                          · refine lv_aload_n hx hb dXM_write_154 rfl (lv_at hl 0 rfl) ?_
                            refine lv_bipush (v := nI 58) hx hb dXM_write_155 (by decide) ?_
                            refine wc_Vv (As := [.int (nI 58)]) (rest := []) (wr := [(mb, .inl (dB, 32, .inl B)), (mf, .inl (dF, 2, .inl Fm))]) ⟨hx, hb, hml, hown, hts⟩ (ct_m_say l dC dI H.size m0 mt mb mf ml mp mo n wk xm xg dO Gk Ok hgk 58 (by omega)) (cwV 1 hts gXM_write_XM_say rfl rfl rfl (by decide +kernel) ⟨Nat.le_of_ble_eq_true rfl, Nat.le_of_ble_eq_true rfl⟩) hP hD hK hS hA [0, 3] [1, 2] [2] rfl rfl (by decide) (by decide) (by decide) rfl 0 rfl rfl rfl hl.1 rfl (Nat.le_of_ble_eq_true rfl) dXM_write_157 ⟨(Nat.zero_le _), (Nat.zero_le _)⟩ (fun u H locs hg1 hP hD hS => ?_)
                            obtain ⟨u1, w1⟩ := u
                            try dsimp only at hg1
                            have hP : va_P (dC, dI) azCl [(mb, .inl (dB, 32, .inl B)), (mf, .inl (dF, 2, .inl Fm)), (m0, .inr (2, [.ref mt, .int (nI n), .ref mb, .ref mf, .ref ml, .ref mp, .int xm, .int xg, .ref mo, .int (nI w1)])), (mo, .inl (dO, 64, .inl u1))] H := hP
                            have hD : va_D A [(mb, .inl (dB, 32, .inl B)), (mf, .inl (dF, 2, .inl Fm)), (m0, .inr (2, [.ref mt, .int (nI n), .ref mb, .ref mf, .ref ml, .ref mp, .int xm, .int xg, .ref mo, .int (nI w1)])), (mo, .inl (dO, 64, .inl u1))] := hD
                            have hq1 := hg1.1
                            try simp only [List.length_append, List.length_cons, List.length_nil] at hq1
                            refine lv_goto (tgt := 193) hx hb dXM_write_160 (by decide) ?_
                            refine lv_iinc (v := nI (k2 + 1)) (lv' := [(3, .int (nI (k2 + 1))), (0, .ref m0), (1, .int (nI fr)), (2, .int (nI row))]) hx hb dXM_write_193 hl (k := 3) rfl (nI_add _ 1) (by decide) rfl (fun ls hl => ?_)
                            refine lv_goto (tgt := 112) hx hb dXM_write_196 (by decide) ?_
                            exact ih (k2 + 1) w1 u1 (Ok ++ [58]) (by omega) (hg1) (az_st_last hrw hst (by omega) (by omega) (by omega)) (by omega) (by omega) _ _ (hP.sub [2, 0, 1, 3] rfl) (hD.sub [2, 0, 1, 3] (by decide) rfl) hS ls (lv_sub hl [1, 2, 3, 0] rfl)
                        · refine lv_aload_n hx hb dXM_write_139 rfl (lv_at hl 0 rfl) ?_
                          refine lv_bipush (v := nI 58) hx hb dXM_write_140 (by decide) ?_
                          refine wc_Vv (As := [.int (nI 58)]) (rest := []) (wr := [(mb, .inl (dB, 32, .inl B)), (mf, .inl (dF, 2, .inl Fm))]) ⟨hx, hb, hml, hown, hts⟩ (ct_m_say l dC dI H.size m0 mt mb mf ml mp mo n wk xm xg dO Gk Ok hgk 58 (by omega)) (cwV 1 hts gXM_write_XM_say rfl rfl rfl (by decide +kernel) ⟨Nat.le_of_ble_eq_true rfl, Nat.le_of_ble_eq_true rfl⟩) hP hD hK hS hA [0, 3] [1, 2] [2] rfl rfl (by decide) (by decide) (by decide) rfl 0 rfl rfl rfl hl.1 rfl (Nat.le_of_ble_eq_true rfl) dXM_write_142 ⟨(Nat.zero_le _), (Nat.zero_le _)⟩ (fun u H locs hg1 hP hD hS => ?_)
                          obtain ⟨u1, w1⟩ := u
                          try dsimp only at hg1
                          have hP : va_P (dC, dI) azCl [(mb, .inl (dB, 32, .inl B)), (mf, .inl (dF, 2, .inl Fm)), (m0, .inr (2, [.ref mt, .int (nI n), .ref mb, .ref mf, .ref ml, .ref mp, .int xm, .int xg, .ref mo, .int (nI w1)])), (mo, .inl (dO, 64, .inl u1))] H := hP
                          have hD : va_D A [(mb, .inl (dB, 32, .inl B)), (mf, .inl (dF, 2, .inl Fm)), (m0, .inr (2, [.ref mt, .int (nI n), .ref mb, .ref mf, .ref ml, .ref mp, .int xm, .int xg, .ref mo, .int (nI w1)])), (mo, .inl (dO, 64, .inl u1))] := hD
                          have hq1 := hg1.1
                          try simp only [List.length_append, List.length_cons, List.length_nil] at hq1
                          refine lv_iload_n hx hb dXM_write_145 rfl (lv_at hl 3 rfl) ?_
                          refine lv_iload_n hx hb dXM_write_146 rfl (lv_at hl 1 rfl) ?_
                          refine lv_iload_n hx hb dXM_write_147 rfl (lv_at hl 2 rfl) ?_
                          refine lv_iadd hx hb dXM_write_148 ?_
                          refine tp_i (nI (fr + row)) (nI_add _ _) ?_
                          refine lv_iconst (v := nI 1) hx hb dXM_write_149 (by decide) ?_
                          refine lv_isub hx hb dXM_write_150 ?_
                          refine tp_i (nI ((fr + row) - 1)) (pk_sub (by omega)) ?_
                          refine bn_ne (tgt := 193) hx hb dXM_write_151 (by decide) (by omega) (by omega) (fun c151 => ?_) (fun c151 => ?_)
                          · refine lv_iinc (v := nI (k2 + 1)) (lv' := [(3, .int (nI (k2 + 1))), (0, .ref m0), (1, .int (nI fr)), (2, .int (nI row))]) hx hb dXM_write_193 hl (k := 3) rfl (nI_add _ 1) (by decide) rfl (fun ls hl => ?_)
                            refine lv_goto (tgt := 112) hx hb dXM_write_196 (by decide) ?_
                            exact ih (k2 + 1) w1 u1 (Ok ++ [58]) (by omega) (hg1) (az_st_first hrw hst (by omega) (by omega)) (by omega) (by omega) _ _ (hP.sub [2, 0, 1, 3] rfl) (hD.sub [2, 0, 1, 3] (by decide) rfl) hS ls (lv_sub hl [1, 2, 3, 0] rfl)
                          · refine lv_aload_n hx hb dXM_write_154 rfl (lv_at hl 0 rfl) ?_
                            refine lv_bipush (v := nI 58) hx hb dXM_write_155 (by decide) ?_
                            refine wc_Vv (As := [.int (nI 58)]) (rest := []) (wr := [(mb, .inl (dB, 32, .inl B)), (mf, .inl (dF, 2, .inl Fm))]) ⟨hx, hb, hml, hown, hts⟩ (ct_m_say l dC dI H.size m0 mt mb mf ml mp mo n w1 xm xg dO u1 (Ok ++ [58]) hg1 58 (by omega)) (cwV 1 hts gXM_write_XM_say rfl rfl rfl (by decide +kernel) ⟨Nat.le_of_ble_eq_true rfl, Nat.le_of_ble_eq_true rfl⟩) hP hD hK hS hA [2, 3] [0, 1] [2] rfl rfl (by decide) (by decide) (by decide) rfl 0 rfl rfl rfl hl.1 rfl (Nat.le_of_ble_eq_true rfl) dXM_write_157 ⟨(Nat.zero_le _), (Nat.zero_le _)⟩ (fun u H locs hg2 hP hD hS => ?_)
                            obtain ⟨u2, w2⟩ := u
                            try dsimp only at hg2
                            have hP : va_P (dC, dI) azCl [(mb, .inl (dB, 32, .inl B)), (mf, .inl (dF, 2, .inl Fm)), (m0, .inr (2, [.ref mt, .int (nI n), .ref mb, .ref mf, .ref ml, .ref mp, .int xm, .int xg, .ref mo, .int (nI w2)])), (mo, .inl (dO, 64, .inl u2))] H := hP
                            have hD : va_D A [(mb, .inl (dB, 32, .inl B)), (mf, .inl (dF, 2, .inl Fm)), (m0, .inr (2, [.ref mt, .int (nI n), .ref mb, .ref mf, .ref ml, .ref mp, .int xm, .int xg, .ref mo, .int (nI w2)])), (mo, .inl (dO, 64, .inl u2))] := hD
                            have hq2 := hg2.1
                            try simp only [List.length_append, List.length_cons, List.length_nil] at hq2
                            refine lv_goto (tgt := 193) hx hb dXM_write_160 (by decide) ?_
                            refine lv_iinc (v := nI (k2 + 1)) (lv' := [(3, .int (nI (k2 + 1))), (0, .ref m0), (1, .int (nI fr)), (2, .int (nI row))]) hx hb dXM_write_193 hl (k := 3) rfl (nI_add _ 1) (by decide) rfl (fun ls hl => ?_)
                            refine lv_goto (tgt := 112) hx hb dXM_write_196 (by decide) ?_
                            exact ih (k2 + 1) w2 u2 ((Ok ++ [58]) ++ [58]) (by omega) (hg2) (by exfalso; omega) (by omega) (by omega) _ _ (hP.sub [2, 0, 1, 3] rfl) (hD.sub [2, 0, 1, 3] (by decide) rfl) hS ls (lv_sub hl [1, 2, 3, 0] rfl)
            exact lp112 _ 0 0 G ([]) (Nat.zero_le _) (az_mo_0 G) (az_st_0) (Nat.zero_le _) (Nat.lt_succ_self _) _ _ (hP.sub [0, 1, 2, 3] rfl) (hD.sub [0, 1, 2, 3] (by decide) rfl) hS ls (lv_sub hl [2, 3, 1, 0] rfl)
          · refine lv_aload_n hx hb dXM_write_100 rfl (lv_at hl 0 rfl) ?_
            refine lv_iload_n hx hb dXM_write_101 rfl (lv_at hl 1 rfl) ?_
            refine rc_Vi (As := [.int (nI fr)]) (rest := []) ⟨hx, hb, hml, hown, hts⟩ (ct_m_noughts l dC dI m0 mt mb mf ml mp mo n 0 xm xg dB B V1 fr (by omega) hB0) (cwV 1 hts gXM_write_XM_noughts rfl rfl rfl (by decide +kernel) ⟨Nat.le_of_ble_eq_true rfl, Nat.le_of_ble_eq_true rfl⟩) (hP.sub [0, 1] rfl) (hK.sub [0] rfl) 0 rfl rfl rfl hl.1 rfl (Nat.le_of_ble_eq_true rfl) dXM_write_102 ⟨(Nat.zero_le _), (Nat.zero_le _)⟩ ?_
            refine lv_goto (tgt := 109) hx hb dXM_write_105 (by decide) ?_
            refine lv_istore_n (lv' := [(2, .int (nI (az_zr V1 fr))), (0, .ref m0), (1, .int (nI fr))]) hx hb dXM_write_109 rfl hl (by decide) rfl (fun ls hl => ?_)
            obtain ⟨row, hrow⟩ : ∃ z, z = az_zr V1 fr := ⟨_, rfl⟩
            have hrw : az_rw (az_lr V1 8).1 ((az_lr V1 8).1 + az_zr V1 (az_lr V1 8).1) fr row := by rw [hrow]; first | exact az_rw_0 hR8 c97 | exact az_rw_1 hR8 c97 (by omega)
            have hl : lv_has ls 4 [(2, .int (nI row)), (0, .ref m0), (1, .int (nI fr))] := by rw [hrow]; exact hl
            have hrw2 : (row = 0 ∧ ((az_lr V1 8).1 + az_zr V1 (az_lr V1 8).1) = 8) ∨ (2 ≤ row ∧ ((az_lr V1 8).1 + az_zr V1 (az_lr V1 8).1) = fr + row ∧ fr + row ≤ 8) := by (rcases hrw with ⟨a, _, b⟩ | ⟨a, _, b, d⟩); exact (Or.inl ⟨a, b⟩); exact (Or.inr ⟨a, b, d⟩)
            generalize hrs : (az_lr V1 8).1 = rs at hrw
            rw [hrs] at hrw2
            generalize hre : rs + az_zr V1 rs = re at hrw hrw2
            refine lv_iconst (v := nI 0) hx hb dXM_write_110 (by decide) ?_
            refine lv_istore_n (lv' := [(3, .int (nI 0)), (2, .int (nI row)), (0, .ref m0), (1, .int (nI fr))]) hx hb dXM_write_111 rfl hl (by decide) rfl (fun ls hl => ?_)
            have lp112 : ∀ (N : Nat) (k2 : Nat) (wk : Nat) (Gk : Nat → Int32) (Ok : List Nat), (k2 ≤ 8) → (az_mo Gk Ok wk) → (az_st V1 rs re fr row k2 Ok) → (wk ≤ 5 * k2) → (8 - k2) < N → ∀ (H : Heap) (locs : List Loc), va_P (dC, dI) azCl [(m0, .inr (2, [.ref mt, .int (nI n), .ref mb, .ref mf, .ref ml, .ref mp, .int xm, .int xg, .ref mo, .int (nI wk)])), (mb, .inl (dB, 32, .inl B)), (mf, .inl (dF, 2, .inl Fm)), (mo, .inl (dO, 64, .inl Gk))] H → va_D A [(m0, .inr (2, [.ref mt, .int (nI n), .ref mb, .ref mf, .ref ml, .ref mp, .int xm, .int xg, .ref mo, .int (nI wk)])), (mb, .inl (dB, 32, .inl B)), (mf, .inl (dF, 2, .inl Fm)), (mo, .inl (dO, 64, .inl Gk))] → va_S A s.heap H locs → ∀ (ls : Array Slot), lv_has ls 4 [(0, .ref m0), (1, .int (nI fr)), (2, .int (nI row)), (3, .int (nI k2))] → W p l e (headSpec wsXM_write ({ frames := 2, cells := 0, slots := 0, locals := 43 })).room s m ([.ref m0] : List Value).toArray below meth c H locs 0 0 (MQ below (va_Qi (fun r u => r = nI u.2 ∧ az_mo u.1 (az_out f1 V1) u.2) (wr_B (dC, dI) azCl [(dB, .int), (dF, .int), (dO, .int)] A (fun u : (Nat → Int32) × Nat => [(m0, .inr (2, [.ref mt, .int (nI n), .ref mb, .ref mf, .ref ml, .ref mp, .int xm, .int xg, .ref mo, .int (nI u.2)])), (mb, .inl (dB, 32, .inl B)), (mf, .inl (dF, 2, .inl Fm)), (mo, .inl (dO, 64, .inl u.1))])) A) ([.ref m0] : List Value).toArray s 0 0 A) (F0 m 112 ls []) := by
              intro N
              induction N with
              | zero => intro k2 wk Gk Ok hk2 hgk hst hwk hN; exact absurd hN (Nat.not_lt_zero _)
              | succ N ih =>
                intro k2 wk Gk Ok hk2 hgk hst hwk hN H locs hP hD hS ls hl
                refine lv_iload_n hx hb dXM_write_112 rfl (lv_at hl 3 rfl) ?_
                refine lv_bipush (v := nI 8) hx hb dXM_write_113 (by decide) ?_
                refine bn_ge (tgt := 199) hx hb dXM_write_115 (by decide) (by omega) (by omega) (fun c115 => ?_) (fun c115 => ?_)
                · refine lv_aload_n hx hb dXM_write_199 rfl (lv_at hl 0 rfl) ?_
                  refine va_get (D := (dC, dI)) (ci := 2) (v := .int (nI wk)) (C := RXM) (T := TXM) (N := 10) hx hb hts hiXM hown hK hP 0 rfl rfl 9 (by decide) hf65 (fun _ h9 => h9) rfl dXM_write_200 ?_
                  exact wt_i hx hb hr ((Gk, wk)) (⟨rfl, by have h : Ok = az_wp V1 rs re 8 := (by (rcases hst with ⟨a, b, d, _⟩ | ⟨_, h⟩); exact (by omega); exact (by rw [h, show k2 = 8 by omega])); unfold az_out; rw [if_neg c12, hrs, hre, ← h]; exact hgk⟩) (hP.sub [0, 1, 2, 3] rfl) hK (hD.sub [0, 1, 2, 3] (by decide) rfl) hS dXM_write_203 hlocks
                · have hq0 := hgk.1
                  refine lv_iload_n hx hb dXM_write_118 rfl (lv_at hl 2 rfl) ?_
                  refine bz_le (tgt := 163) hx hb dXM_write_119 (by decide) (by omega) (fun c119 => ?_) (fun c119 => ?_)
                  · refine lv_iload_n hx hb dXM_write_163 rfl (lv_at hl 3 rfl) ?_
                    refine bz_le (tgt := 184) hx hb dXM_write_164 (by decide) (by omega) (fun c164 => ?_) (fun c164 => ?_)
                    · refine lv_aload_n hx hb dXM_write_184 rfl (lv_at hl 0 rfl) ?_
                      refine lv_aload_n hx hb dXM_write_185 rfl (lv_at hl 0 rfl) ?_
                      refine lv_iload_n hx hb dXM_write_186 rfl (lv_at hl 3 rfl) ?_
                      refine rc_Vi (As := [.int (nI k2)]) (rest := [.ref m0]) ⟨hx, hb, hml, hown, hts⟩ (ct_m_part l dC dI m0 mt mb mf ml mp mo n wk xm xg dB B V1 k2 c115 hB0) (cwV 1 hts gXM_write_XM_part rfl rfl rfl (by decide +kernel) ⟨Nat.le_of_ble_eq_true rfl, Nat.le_of_ble_eq_true rfl⟩) (hP.sub [0, 1] rfl) (hK.sub [0] rfl) 0 rfl rfl rfl hl.1 rfl (Nat.le_of_ble_eq_true rfl) dXM_write_187 ⟨(Nat.zero_le _), (Nat.zero_le _)⟩ ?_
                      have hh := az_hex_le (az_pt V1 k2)
                      refine wc_Vv (As := [.int (nI (az_pt V1 k2))]) (rest := []) (wr := [(mb, .inl (dB, 32, .inl B)), (mf, .inl (dF, 2, .inl Fm))]) ⟨hx, hb, hml, hown, hts⟩ (ct_m_sayPart l dC dI H.size m0 mt mb mf ml mp mo n wk xm xg dO Gk Ok hgk (az_pt V1 k2) (az_pt_lt V1 k2) (by omega)) (cwV 1 hts gXM_write_XM_sayPart rfl rfl rfl (by decide +kernel) ⟨Nat.le_of_ble_eq_true rfl, Nat.le_of_ble_eq_true rfl⟩) hP hD hK hS hA [0, 3] [1, 2] [2] rfl rfl (by decide) (by decide) (by decide) rfl 0 rfl rfl rfl hl.1 rfl (Nat.le_of_ble_eq_true rfl) dXM_write_190 ⟨(Nat.zero_le _), (Nat.zero_le _)⟩ (fun u H locs hg1 hP hD hS => ?_)
                      obtain ⟨u1, w1⟩ := u
                      try dsimp only at hg1
                      have hP : va_P (dC, dI) azCl [(mb, .inl (dB, 32, .inl B)), (mf, .inl (dF, 2, .inl Fm)), (m0, .inr (2, [.ref mt, .int (nI n), .ref mb, .ref mf, .ref ml, .ref mp, .int xm, .int xg, .ref mo, .int (nI w1)])), (mo, .inl (dO, 64, .inl u1))] H := hP
                      have hD : va_D A [(mb, .inl (dB, 32, .inl B)), (mf, .inl (dF, 2, .inl Fm)), (m0, .inr (2, [.ref mt, .int (nI n), .ref mb, .ref mf, .ref ml, .ref mp, .int xm, .int xg, .ref mo, .int (nI w1)])), (mo, .inl (dO, 64, .inl u1))] := hD
                      have hq1 := hg1.1
                      try simp only [List.length_append, List.length_cons, List.length_nil] at hq1
                      refine lv_iinc (v := nI (k2 + 1)) (lv' := [(3, .int (nI (k2 + 1))), (0, .ref m0), (1, .int (nI fr)), (2, .int (nI row))]) hx hb dXM_write_193 hl (k := 3) rfl (nI_add _ 1) (by decide) rfl (fun ls hl => ?_)
                      refine lv_goto (tgt := 112) hx hb dXM_write_196 (by decide) ?_
                      exact ih (k2 + 1) w1 u1 (Ok ++ (az_hex (az_pt V1 k2))) (by omega) (hg1) (az_st_out hrw hst (by omega) c115 (by omega)) (by omega) (by omega) _ _ (hP.sub [2, 0, 1, 3] rfl) (hD.sub [2, 0, 1, 3] (by decide) rfl) hS ls (lv_sub hl [1, 2, 3, 0] rfl)
                    · refine lv_iload_n hx hb dXM_write_167 rfl (lv_at hl 2 rfl) ?_
                      refine bz_le (tgt := 178) hx hb dXM_write_168 (by decide) (by omega) (fun c168 => ?_) (fun c168 => ?_)
                      · refine lv_aload_n hx hb dXM_write_178 rfl (lv_at hl 0 rfl) ?_
                        refine lv_bipush (v := nI 58) hx hb dXM_write_179 (by decide) ?_
                        refine wc_Vv (As := [.int (nI 58)]) (rest := []) (wr := [(mb, .inl (dB, 32, .inl B)), (mf, .inl (dF, 2, .inl Fm))]) ⟨hx, hb, hml, hown, hts⟩ (ct_m_say l dC dI H.size m0 mt mb mf ml mp mo n wk xm xg dO Gk Ok hgk 58 (by omega)) (cwV 1 hts gXM_write_XM_say rfl rfl rfl (by decide +kernel) ⟨Nat.le_of_ble_eq_true rfl, Nat.le_of_ble_eq_true rfl⟩) hP hD hK hS hA [0, 3] [1, 2] [2] rfl rfl (by decide) (by decide) (by decide) rfl 0 rfl rfl rfl hl.1 rfl (Nat.le_of_ble_eq_true rfl) dXM_write_181 ⟨(Nat.zero_le _), (Nat.zero_le _)⟩ (fun u H locs hg1 hP hD hS => ?_)
                        obtain ⟨u1, w1⟩ := u
                        try dsimp only at hg1
                        have hP : va_P (dC, dI) azCl [(mb, .inl (dB, 32, .inl B)), (mf, .inl (dF, 2, .inl Fm)), (m0, .inr (2, [.ref mt, .int (nI n), .ref mb, .ref mf, .ref ml, .ref mp, .int xm, .int xg, .ref mo, .int (nI w1)])), (mo, .inl (dO, 64, .inl u1))] H := hP
                        have hD : va_D A [(mb, .inl (dB, 32, .inl B)), (mf, .inl (dF, 2, .inl Fm)), (m0, .inr (2, [.ref mt, .int (nI n), .ref mb, .ref mf, .ref ml, .ref mp, .int xm, .int xg, .ref mo, .int (nI w1)])), (mo, .inl (dO, 64, .inl u1))] := hD
                        have hq1 := hg1.1
                        try simp only [List.length_append, List.length_cons, List.length_nil] at hq1
                        refine lv_aload_n hx hb dXM_write_184 rfl (lv_at hl 0 rfl) ?_
                        refine lv_aload_n hx hb dXM_write_185 rfl (lv_at hl 0 rfl) ?_
                        refine lv_iload_n hx hb dXM_write_186 rfl (lv_at hl 3 rfl) ?_
                        refine rc_Vi (As := [.int (nI k2)]) (rest := [.ref m0]) ⟨hx, hb, hml, hown, hts⟩ (ct_m_part l dC dI m0 mt mb mf ml mp mo n w1 xm xg dB B V1 k2 c115 hB0) (cwV 1 hts gXM_write_XM_part rfl rfl rfl (by decide +kernel) ⟨Nat.le_of_ble_eq_true rfl, Nat.le_of_ble_eq_true rfl⟩) (hP.sub [2, 0] rfl) (hK.sub [0] rfl) 0 rfl rfl rfl hl.1 rfl (Nat.le_of_ble_eq_true rfl) dXM_write_187 ⟨(Nat.zero_le _), (Nat.zero_le _)⟩ ?_
                        have hh := az_hex_le (az_pt V1 k2)
                        refine wc_Vv (As := [.int (nI (az_pt V1 k2))]) (rest := []) (wr := [(mb, .inl (dB, 32, .inl B)), (mf, .inl (dF, 2, .inl Fm))]) ⟨hx, hb, hml, hown, hts⟩ (ct_m_sayPart l dC dI H.size m0 mt mb mf ml mp mo n w1 xm xg dO u1 (Ok ++ [58]) hg1 (az_pt V1 k2) (az_pt_lt V1 k2) (by omega)) (cwV 1 hts gXM_write_XM_sayPart rfl rfl rfl (by decide +kernel) ⟨Nat.le_of_ble_eq_true rfl, Nat.le_of_ble_eq_true rfl⟩) hP hD hK hS hA [2, 3] [0, 1] [2] rfl rfl (by decide) (by decide) (by decide) rfl 0 rfl rfl rfl hl.1 rfl (Nat.le_of_ble_eq_true rfl) dXM_write_190 ⟨(Nat.zero_le _), (Nat.zero_le _)⟩ (fun u H locs hg2 hP hD hS => ?_)
                        obtain ⟨u2, w2⟩ := u
                        try dsimp only at hg2
                        have hP : va_P (dC, dI) azCl [(mb, .inl (dB, 32, .inl B)), (mf, .inl (dF, 2, .inl Fm)), (m0, .inr (2, [.ref mt, .int (nI n), .ref mb, .ref mf, .ref ml, .ref mp, .int xm, .int xg, .ref mo, .int (nI w2)])), (mo, .inl (dO, 64, .inl u2))] H := hP
                        have hD : va_D A [(mb, .inl (dB, 32, .inl B)), (mf, .inl (dF, 2, .inl Fm)), (m0, .inr (2, [.ref mt, .int (nI n), .ref mb, .ref mf, .ref ml, .ref mp, .int xm, .int xg, .ref mo, .int (nI w2)])), (mo, .inl (dO, 64, .inl u2))] := hD
                        have hq2 := hg2.1
                        try simp only [List.length_append, List.length_cons, List.length_nil] at hq2
                        refine lv_iinc (v := nI (k2 + 1)) (lv' := [(3, .int (nI (k2 + 1))), (0, .ref m0), (1, .int (nI fr)), (2, .int (nI row))]) hx hb dXM_write_193 hl (k := 3) rfl (nI_add _ 1) (by decide) rfl (fun ls hl => ?_)
                        refine lv_goto (tgt := 112) hx hb dXM_write_196 (by decide) ?_
                        exact ih (k2 + 1) w2 u2 ((Ok ++ [58]) ++ (az_hex (az_pt V1 k2))) (by omega) (hg2) (az_st_mark hrw hst (by omega) c115 (by omega)) (by omega) (by omega) _ _ (hP.sub [2, 0, 1, 3] rfl) (hD.sub [2, 0, 1, 3] (by decide) rfl) hS ls (lv_sub hl [1, 2, 3, 0] rfl)
                      · refine lv_iload_n hx hb dXM_write_171 rfl (lv_at hl 3 rfl) ?_
                        refine lv_iload_n hx hb dXM_write_172 rfl (lv_at hl 1 rfl) ?_
                        refine lv_iload_n hx hb dXM_write_173 rfl (lv_at hl 2 rfl) ?_
                        refine lv_iadd hx hb dXM_write_174 ?_
                        refine tp_i (nI (fr + row)) (nI_add _ _) ?_
                        refine bn_eq (tgt := 184) hx hb dXM_write_175 (by decide) (by omega) (by omega) (fun c175 => ?_) (fun c175 => ?_)
                        · refine lv_aload_n hx hb dXM_write_184 rfl (lv_at hl 0 rfl) ?_
                          refine lv_aload_n hx hb dXM_write_185 rfl (lv_at hl 0 rfl) ?_
                          refine lv_iload_n hx hb dXM_write_186 rfl (lv_at hl 3 rfl) ?_
                          refine rc_Vi (As := [.int (nI k2)]) (rest := [.ref m0]) ⟨hx, hb, hml, hown, hts⟩ (ct_m_part l dC dI m0 mt mb mf ml mp mo n wk xm xg dB B V1 k2 c115 hB0) (cwV 1 hts gXM_write_XM_part rfl rfl rfl (by decide +kernel) ⟨Nat.le_of_ble_eq_true rfl, Nat.le_of_ble_eq_true rfl⟩) (hP.sub [0, 1] rfl) (hK.sub [0] rfl) 0 rfl rfl rfl hl.1 rfl (Nat.le_of_ble_eq_true rfl) dXM_write_187 ⟨(Nat.zero_le _), (Nat.zero_le _)⟩ ?_
                          have hh := az_hex_le (az_pt V1 k2)
                          refine wc_Vv (As := [.int (nI (az_pt V1 k2))]) (rest := []) (wr := [(mb, .inl (dB, 32, .inl B)), (mf, .inl (dF, 2, .inl Fm))]) ⟨hx, hb, hml, hown, hts⟩ (ct_m_sayPart l dC dI H.size m0 mt mb mf ml mp mo n wk xm xg dO Gk Ok hgk (az_pt V1 k2) (az_pt_lt V1 k2) (by omega)) (cwV 1 hts gXM_write_XM_sayPart rfl rfl rfl (by decide +kernel) ⟨Nat.le_of_ble_eq_true rfl, Nat.le_of_ble_eq_true rfl⟩) hP hD hK hS hA [0, 3] [1, 2] [2] rfl rfl (by decide) (by decide) (by decide) rfl 0 rfl rfl rfl hl.1 rfl (Nat.le_of_ble_eq_true rfl) dXM_write_190 ⟨(Nat.zero_le _), (Nat.zero_le _)⟩ (fun u H locs hg1 hP hD hS => ?_)
                          obtain ⟨u1, w1⟩ := u
                          try dsimp only at hg1
                          have hP : va_P (dC, dI) azCl [(mb, .inl (dB, 32, .inl B)), (mf, .inl (dF, 2, .inl Fm)), (m0, .inr (2, [.ref mt, .int (nI n), .ref mb, .ref mf, .ref ml, .ref mp, .int xm, .int xg, .ref mo, .int (nI w1)])), (mo, .inl (dO, 64, .inl u1))] H := hP
                          have hD : va_D A [(mb, .inl (dB, 32, .inl B)), (mf, .inl (dF, 2, .inl Fm)), (m0, .inr (2, [.ref mt, .int (nI n), .ref mb, .ref mf, .ref ml, .ref mp, .int xm, .int xg, .ref mo, .int (nI w1)])), (mo, .inl (dO, 64, .inl u1))] := hD
                          have hq1 := hg1.1
                          try simp only [List.length_append, List.length_cons, List.length_nil] at hq1
                          refine lv_iinc (v := nI (k2 + 1)) (lv' := [(3, .int (nI (k2 + 1))), (0, .ref m0), (1, .int (nI fr)), (2, .int (nI row))]) hx hb dXM_write_193 hl (k := 3) rfl (nI_add _ 1) (by decide) rfl (fun ls hl => ?_)
                          refine lv_goto (tgt := 112) hx hb dXM_write_196 (by decide) ?_
                          exact ih (k2 + 1) w1 u1 (Ok ++ (az_hex (az_pt V1 k2))) (by omega) (hg1) (az_st_out hrw hst (by omega) c115 (by omega)) (by omega) (by omega) _ _ (hP.sub [2, 0, 1, 3] rfl) (hD.sub [2, 0, 1, 3] (by decide) rfl) hS ls (lv_sub hl [1, 2, 3, 0] rfl)
                        · refine lv_aload_n hx hb dXM_write_178 rfl (lv_at hl 0 rfl) ?_
                          refine lv_bipush (v := nI 58) hx hb dXM_write_179 (by decide) ?_
                          refine wc_Vv (As := [.int (nI 58)]) (rest := []) (wr := [(mb, .inl (dB, 32, .inl B)), (mf, .inl (dF, 2, .inl Fm))]) ⟨hx, hb, hml, hown, hts⟩ (ct_m_say l dC dI H.size m0 mt mb mf ml mp mo n wk xm xg dO Gk Ok hgk 58 (by omega)) (cwV 1 hts gXM_write_XM_say rfl rfl rfl (by decide +kernel) ⟨Nat.le_of_ble_eq_true rfl, Nat.le_of_ble_eq_true rfl⟩) hP hD hK hS hA [0, 3] [1, 2] [2] rfl rfl (by decide) (by decide) (by decide) rfl 0 rfl rfl rfl hl.1 rfl (Nat.le_of_ble_eq_true rfl) dXM_write_181 ⟨(Nat.zero_le _), (Nat.zero_le _)⟩ (fun u H locs hg1 hP hD hS => ?_)
                          obtain ⟨u1, w1⟩ := u
                          try dsimp only at hg1
                          have hP : va_P (dC, dI) azCl [(mb, .inl (dB, 32, .inl B)), (mf, .inl (dF, 2, .inl Fm)), (m0, .inr (2, [.ref mt, .int (nI n), .ref mb, .ref mf, .ref ml, .ref mp, .int xm, .int xg, .ref mo, .int (nI w1)])), (mo, .inl (dO, 64, .inl u1))] H := hP
                          have hD : va_D A [(mb, .inl (dB, 32, .inl B)), (mf, .inl (dF, 2, .inl Fm)), (m0, .inr (2, [.ref mt, .int (nI n), .ref mb, .ref mf, .ref ml, .ref mp, .int xm, .int xg, .ref mo, .int (nI w1)])), (mo, .inl (dO, 64, .inl u1))] := hD
                          have hq1 := hg1.1
                          try simp only [List.length_append, List.length_cons, List.length_nil] at hq1
                          refine lv_aload_n hx hb dXM_write_184 rfl (lv_at hl 0 rfl) ?_
                          refine lv_aload_n hx hb dXM_write_185 rfl (lv_at hl 0 rfl) ?_
                          refine lv_iload_n hx hb dXM_write_186 rfl (lv_at hl 3 rfl) ?_
                          refine rc_Vi (As := [.int (nI k2)]) (rest := [.ref m0]) ⟨hx, hb, hml, hown, hts⟩ (ct_m_part l dC dI m0 mt mb mf ml mp mo n w1 xm xg dB B V1 k2 c115 hB0) (cwV 1 hts gXM_write_XM_part rfl rfl rfl (by decide +kernel) ⟨Nat.le_of_ble_eq_true rfl, Nat.le_of_ble_eq_true rfl⟩) (hP.sub [2, 0] rfl) (hK.sub [0] rfl) 0 rfl rfl rfl hl.1 rfl (Nat.le_of_ble_eq_true rfl) dXM_write_187 ⟨(Nat.zero_le _), (Nat.zero_le _)⟩ ?_
                          have hh := az_hex_le (az_pt V1 k2)
                          refine wc_Vv (As := [.int (nI (az_pt V1 k2))]) (rest := []) (wr := [(mb, .inl (dB, 32, .inl B)), (mf, .inl (dF, 2, .inl Fm))]) ⟨hx, hb, hml, hown, hts⟩ (ct_m_sayPart l dC dI H.size m0 mt mb mf ml mp mo n w1 xm xg dO u1 (Ok ++ [58]) hg1 (az_pt V1 k2) (az_pt_lt V1 k2) (by omega)) (cwV 1 hts gXM_write_XM_sayPart rfl rfl rfl (by decide +kernel) ⟨Nat.le_of_ble_eq_true rfl, Nat.le_of_ble_eq_true rfl⟩) hP hD hK hS hA [2, 3] [0, 1] [2] rfl rfl (by decide) (by decide) (by decide) rfl 0 rfl rfl rfl hl.1 rfl (Nat.le_of_ble_eq_true rfl) dXM_write_190 ⟨(Nat.zero_le _), (Nat.zero_le _)⟩ (fun u H locs hg2 hP hD hS => ?_)
                          obtain ⟨u2, w2⟩ := u
                          try dsimp only at hg2
                          have hP : va_P (dC, dI) azCl [(mb, .inl (dB, 32, .inl B)), (mf, .inl (dF, 2, .inl Fm)), (m0, .inr (2, [.ref mt, .int (nI n), .ref mb, .ref mf, .ref ml, .ref mp, .int xm, .int xg, .ref mo, .int (nI w2)])), (mo, .inl (dO, 64, .inl u2))] H := hP
                          have hD : va_D A [(mb, .inl (dB, 32, .inl B)), (mf, .inl (dF, 2, .inl Fm)), (m0, .inr (2, [.ref mt, .int (nI n), .ref mb, .ref mf, .ref ml, .ref mp, .int xm, .int xg, .ref mo, .int (nI w2)])), (mo, .inl (dO, 64, .inl u2))] := hD
                          have hq2 := hg2.1
                          try simp only [List.length_append, List.length_cons, List.length_nil] at hq2
                          refine lv_iinc (v := nI (k2 + 1)) (lv' := [(3, .int (nI (k2 + 1))), (0, .ref m0), (1, .int (nI fr)), (2, .int (nI row))]) hx hb dXM_write_193 hl (k := 3) rfl (nI_add _ 1) (by decide) rfl (fun ls hl => ?_)
                          refine lv_goto (tgt := 112) hx hb dXM_write_196 (by decide) ?_
                          exact ih (k2 + 1) w2 u2 ((Ok ++ [58]) ++ (az_hex (az_pt V1 k2))) (by omega) (hg2) (az_st_mark hrw hst (by omega) c115 (by omega)) (by omega) (by omega) _ _ (hP.sub [2, 0, 1, 3] rfl) (hD.sub [2, 0, 1, 3] (by decide) rfl) hS ls (lv_sub hl [1, 2, 3, 0] rfl)
                  · refine lv_iload_n hx hb dXM_write_122 rfl (lv_at hl 3 rfl) ?_
                    refine lv_iload_n hx hb dXM_write_123 rfl (lv_at hl 1 rfl) ?_
                    refine bn_lt (tgt := 163) hx hb dXM_write_124 (by decide) (by omega) (by omega) (fun c124 => ?_) (fun c124 => ?_)
                    · refine lv_iload_n hx hb dXM_write_163 rfl (lv_at hl 3 rfl) ?_
                      refine bz_le (tgt := 184) hx hb dXM_write_164 (by decide) (by omega) (fun c164 => ?_) (fun c164 => ?_)
                      · refine lv_aload_n hx hb dXM_write_184 rfl (lv_at hl 0 rfl) ?_
                        refine lv_aload_n hx hb dXM_write_185 rfl (lv_at hl 0 rfl) ?_
                        refine lv_iload_n hx hb dXM_write_186 rfl (lv_at hl 3 rfl) ?_
                        refine rc_Vi (As := [.int (nI k2)]) (rest := [.ref m0]) ⟨hx, hb, hml, hown, hts⟩ (ct_m_part l dC dI m0 mt mb mf ml mp mo n wk xm xg dB B V1 k2 c115 hB0) (cwV 1 hts gXM_write_XM_part rfl rfl rfl (by decide +kernel) ⟨Nat.le_of_ble_eq_true rfl, Nat.le_of_ble_eq_true rfl⟩) (hP.sub [0, 1] rfl) (hK.sub [0] rfl) 0 rfl rfl rfl hl.1 rfl (Nat.le_of_ble_eq_true rfl) dXM_write_187 ⟨(Nat.zero_le _), (Nat.zero_le _)⟩ ?_
                        have hh := az_hex_le (az_pt V1 k2)
                        refine wc_Vv (As := [.int (nI (az_pt V1 k2))]) (rest := []) (wr := [(mb, .inl (dB, 32, .inl B)), (mf, .inl (dF, 2, .inl Fm))]) ⟨hx, hb, hml, hown, hts⟩ (ct_m_sayPart l dC dI H.size m0 mt mb mf ml mp mo n wk xm xg dO Gk Ok hgk (az_pt V1 k2) (az_pt_lt V1 k2) (by omega)) (cwV 1 hts gXM_write_XM_sayPart rfl rfl rfl (by decide +kernel) ⟨Nat.le_of_ble_eq_true rfl, Nat.le_of_ble_eq_true rfl⟩) hP hD hK hS hA [0, 3] [1, 2] [2] rfl rfl (by decide) (by decide) (by decide) rfl 0 rfl rfl rfl hl.1 rfl (Nat.le_of_ble_eq_true rfl) dXM_write_190 ⟨(Nat.zero_le _), (Nat.zero_le _)⟩ (fun u H locs hg1 hP hD hS => ?_)
                        obtain ⟨u1, w1⟩ := u
                        try dsimp only at hg1
                        have hP : va_P (dC, dI) azCl [(mb, .inl (dB, 32, .inl B)), (mf, .inl (dF, 2, .inl Fm)), (m0, .inr (2, [.ref mt, .int (nI n), .ref mb, .ref mf, .ref ml, .ref mp, .int xm, .int xg, .ref mo, .int (nI w1)])), (mo, .inl (dO, 64, .inl u1))] H := hP
                        have hD : va_D A [(mb, .inl (dB, 32, .inl B)), (mf, .inl (dF, 2, .inl Fm)), (m0, .inr (2, [.ref mt, .int (nI n), .ref mb, .ref mf, .ref ml, .ref mp, .int xm, .int xg, .ref mo, .int (nI w1)])), (mo, .inl (dO, 64, .inl u1))] := hD
                        have hq1 := hg1.1
                        try simp only [List.length_append, List.length_cons, List.length_nil] at hq1
                        refine lv_iinc (v := nI (k2 + 1)) (lv' := [(3, .int (nI (k2 + 1))), (0, .ref m0), (1, .int (nI fr)), (2, .int (nI row))]) hx hb dXM_write_193 hl (k := 3) rfl (nI_add _ 1) (by decide) rfl (fun ls hl => ?_)
                        refine lv_goto (tgt := 112) hx hb dXM_write_196 (by decide) ?_
                        exact ih (k2 + 1) w1 u1 (Ok ++ (az_hex (az_pt V1 k2))) (by omega) (hg1) (az_st_out hrw hst (by omega) c115 (by omega)) (by omega) (by omega) _ _ (hP.sub [2, 0, 1, 3] rfl) (hD.sub [2, 0, 1, 3] (by decide) rfl) hS ls (lv_sub hl [1, 2, 3, 0] rfl)
                      · refine lv_iload_n hx hb dXM_write_167 rfl (lv_at hl 2 rfl) ?_
                        refine bz_le (tgt := 178) hx hb dXM_write_168 (by decide) (by omega) (fun c168 => ?_) (fun c168 => ?_)
                        · refine lv_aload_n hx hb dXM_write_178 rfl (lv_at hl 0 rfl) ?_
                          refine lv_bipush (v := nI 58) hx hb dXM_write_179 (by decide) ?_
                          refine wc_Vv (As := [.int (nI 58)]) (rest := []) (wr := [(mb, .inl (dB, 32, .inl B)), (mf, .inl (dF, 2, .inl Fm))]) ⟨hx, hb, hml, hown, hts⟩ (ct_m_say l dC dI H.size m0 mt mb mf ml mp mo n wk xm xg dO Gk Ok hgk 58 (by omega)) (cwV 1 hts gXM_write_XM_say rfl rfl rfl (by decide +kernel) ⟨Nat.le_of_ble_eq_true rfl, Nat.le_of_ble_eq_true rfl⟩) hP hD hK hS hA [0, 3] [1, 2] [2] rfl rfl (by decide) (by decide) (by decide) rfl 0 rfl rfl rfl hl.1 rfl (Nat.le_of_ble_eq_true rfl) dXM_write_181 ⟨(Nat.zero_le _), (Nat.zero_le _)⟩ (fun u H locs hg1 hP hD hS => ?_)
                          obtain ⟨u1, w1⟩ := u
                          try dsimp only at hg1
                          have hP : va_P (dC, dI) azCl [(mb, .inl (dB, 32, .inl B)), (mf, .inl (dF, 2, .inl Fm)), (m0, .inr (2, [.ref mt, .int (nI n), .ref mb, .ref mf, .ref ml, .ref mp, .int xm, .int xg, .ref mo, .int (nI w1)])), (mo, .inl (dO, 64, .inl u1))] H := hP
                          have hD : va_D A [(mb, .inl (dB, 32, .inl B)), (mf, .inl (dF, 2, .inl Fm)), (m0, .inr (2, [.ref mt, .int (nI n), .ref mb, .ref mf, .ref ml, .ref mp, .int xm, .int xg, .ref mo, .int (nI w1)])), (mo, .inl (dO, 64, .inl u1))] := hD
                          have hq1 := hg1.1
                          try simp only [List.length_append, List.length_cons, List.length_nil] at hq1
                          refine lv_aload_n hx hb dXM_write_184 rfl (lv_at hl 0 rfl) ?_
                          refine lv_aload_n hx hb dXM_write_185 rfl (lv_at hl 0 rfl) ?_
                          refine lv_iload_n hx hb dXM_write_186 rfl (lv_at hl 3 rfl) ?_
                          refine rc_Vi (As := [.int (nI k2)]) (rest := [.ref m0]) ⟨hx, hb, hml, hown, hts⟩ (ct_m_part l dC dI m0 mt mb mf ml mp mo n w1 xm xg dB B V1 k2 c115 hB0) (cwV 1 hts gXM_write_XM_part rfl rfl rfl (by decide +kernel) ⟨Nat.le_of_ble_eq_true rfl, Nat.le_of_ble_eq_true rfl⟩) (hP.sub [2, 0] rfl) (hK.sub [0] rfl) 0 rfl rfl rfl hl.1 rfl (Nat.le_of_ble_eq_true rfl) dXM_write_187 ⟨(Nat.zero_le _), (Nat.zero_le _)⟩ ?_
                          have hh := az_hex_le (az_pt V1 k2)
                          refine wc_Vv (As := [.int (nI (az_pt V1 k2))]) (rest := []) (wr := [(mb, .inl (dB, 32, .inl B)), (mf, .inl (dF, 2, .inl Fm))]) ⟨hx, hb, hml, hown, hts⟩ (ct_m_sayPart l dC dI H.size m0 mt mb mf ml mp mo n w1 xm xg dO u1 (Ok ++ [58]) hg1 (az_pt V1 k2) (az_pt_lt V1 k2) (by omega)) (cwV 1 hts gXM_write_XM_sayPart rfl rfl rfl (by decide +kernel) ⟨Nat.le_of_ble_eq_true rfl, Nat.le_of_ble_eq_true rfl⟩) hP hD hK hS hA [2, 3] [0, 1] [2] rfl rfl (by decide) (by decide) (by decide) rfl 0 rfl rfl rfl hl.1 rfl (Nat.le_of_ble_eq_true rfl) dXM_write_190 ⟨(Nat.zero_le _), (Nat.zero_le _)⟩ (fun u H locs hg2 hP hD hS => ?_)
                          obtain ⟨u2, w2⟩ := u
                          try dsimp only at hg2
                          have hP : va_P (dC, dI) azCl [(mb, .inl (dB, 32, .inl B)), (mf, .inl (dF, 2, .inl Fm)), (m0, .inr (2, [.ref mt, .int (nI n), .ref mb, .ref mf, .ref ml, .ref mp, .int xm, .int xg, .ref mo, .int (nI w2)])), (mo, .inl (dO, 64, .inl u2))] H := hP
                          have hD : va_D A [(mb, .inl (dB, 32, .inl B)), (mf, .inl (dF, 2, .inl Fm)), (m0, .inr (2, [.ref mt, .int (nI n), .ref mb, .ref mf, .ref ml, .ref mp, .int xm, .int xg, .ref mo, .int (nI w2)])), (mo, .inl (dO, 64, .inl u2))] := hD
                          have hq2 := hg2.1
                          try simp only [List.length_append, List.length_cons, List.length_nil] at hq2
                          refine lv_iinc (v := nI (k2 + 1)) (lv' := [(3, .int (nI (k2 + 1))), (0, .ref m0), (1, .int (nI fr)), (2, .int (nI row))]) hx hb dXM_write_193 hl (k := 3) rfl (nI_add _ 1) (by decide) rfl (fun ls hl => ?_)
                          refine lv_goto (tgt := 112) hx hb dXM_write_196 (by decide) ?_
                          exact ih (k2 + 1) w2 u2 ((Ok ++ [58]) ++ (az_hex (az_pt V1 k2))) (by omega) (hg2) (az_st_mark hrw hst (by omega) c115 (by omega)) (by omega) (by omega) _ _ (hP.sub [2, 0, 1, 3] rfl) (hD.sub [2, 0, 1, 3] (by decide) rfl) hS ls (lv_sub hl [1, 2, 3, 0] rfl)
                        · refine lv_iload_n hx hb dXM_write_171 rfl (lv_at hl 3 rfl) ?_
                          refine lv_iload_n hx hb dXM_write_172 rfl (lv_at hl 1 rfl) ?_
                          refine lv_iload_n hx hb dXM_write_173 rfl (lv_at hl 2 rfl) ?_
                          refine lv_iadd hx hb dXM_write_174 ?_
                          refine tp_i (nI (fr + row)) (nI_add _ _) ?_
                          refine bn_eq (tgt := 184) hx hb dXM_write_175 (by decide) (by omega) (by omega) (fun c175 => ?_) (fun c175 => ?_)
                          · refine lv_aload_n hx hb dXM_write_184 rfl (lv_at hl 0 rfl) ?_
                            refine lv_aload_n hx hb dXM_write_185 rfl (lv_at hl 0 rfl) ?_
                            refine lv_iload_n hx hb dXM_write_186 rfl (lv_at hl 3 rfl) ?_
                            refine rc_Vi (As := [.int (nI k2)]) (rest := [.ref m0]) ⟨hx, hb, hml, hown, hts⟩ (ct_m_part l dC dI m0 mt mb mf ml mp mo n wk xm xg dB B V1 k2 c115 hB0) (cwV 1 hts gXM_write_XM_part rfl rfl rfl (by decide +kernel) ⟨Nat.le_of_ble_eq_true rfl, Nat.le_of_ble_eq_true rfl⟩) (hP.sub [0, 1] rfl) (hK.sub [0] rfl) 0 rfl rfl rfl hl.1 rfl (Nat.le_of_ble_eq_true rfl) dXM_write_187 ⟨(Nat.zero_le _), (Nat.zero_le _)⟩ ?_
                            have hh := az_hex_le (az_pt V1 k2)
                            refine wc_Vv (As := [.int (nI (az_pt V1 k2))]) (rest := []) (wr := [(mb, .inl (dB, 32, .inl B)), (mf, .inl (dF, 2, .inl Fm))]) ⟨hx, hb, hml, hown, hts⟩ (ct_m_sayPart l dC dI H.size m0 mt mb mf ml mp mo n wk xm xg dO Gk Ok hgk (az_pt V1 k2) (az_pt_lt V1 k2) (by omega)) (cwV 1 hts gXM_write_XM_sayPart rfl rfl rfl (by decide +kernel) ⟨Nat.le_of_ble_eq_true rfl, Nat.le_of_ble_eq_true rfl⟩) hP hD hK hS hA [0, 3] [1, 2] [2] rfl rfl (by decide) (by decide) (by decide) rfl 0 rfl rfl rfl hl.1 rfl (Nat.le_of_ble_eq_true rfl) dXM_write_190 ⟨(Nat.zero_le _), (Nat.zero_le _)⟩ (fun u H locs hg1 hP hD hS => ?_)
                            obtain ⟨u1, w1⟩ := u
                            try dsimp only at hg1
                            have hP : va_P (dC, dI) azCl [(mb, .inl (dB, 32, .inl B)), (mf, .inl (dF, 2, .inl Fm)), (m0, .inr (2, [.ref mt, .int (nI n), .ref mb, .ref mf, .ref ml, .ref mp, .int xm, .int xg, .ref mo, .int (nI w1)])), (mo, .inl (dO, 64, .inl u1))] H := hP
                            have hD : va_D A [(mb, .inl (dB, 32, .inl B)), (mf, .inl (dF, 2, .inl Fm)), (m0, .inr (2, [.ref mt, .int (nI n), .ref mb, .ref mf, .ref ml, .ref mp, .int xm, .int xg, .ref mo, .int (nI w1)])), (mo, .inl (dO, 64, .inl u1))] := hD
                            have hq1 := hg1.1
                            try simp only [List.length_append, List.length_cons, List.length_nil] at hq1
                            refine lv_iinc (v := nI (k2 + 1)) (lv' := [(3, .int (nI (k2 + 1))), (0, .ref m0), (1, .int (nI fr)), (2, .int (nI row))]) hx hb dXM_write_193 hl (k := 3) rfl (nI_add _ 1) (by decide) rfl (fun ls hl => ?_)
                            refine lv_goto (tgt := 112) hx hb dXM_write_196 (by decide) ?_
                            exact ih (k2 + 1) w1 u1 (Ok ++ (az_hex (az_pt V1 k2))) (by omega) (hg1) (az_st_out hrw hst (by omega) c115 (by omega)) (by omega) (by omega) _ _ (hP.sub [2, 0, 1, 3] rfl) (hD.sub [2, 0, 1, 3] (by decide) rfl) hS ls (lv_sub hl [1, 2, 3, 0] rfl)
                          · refine lv_aload_n hx hb dXM_write_178 rfl (lv_at hl 0 rfl) ?_
                            refine lv_bipush (v := nI 58) hx hb dXM_write_179 (by decide) ?_
                            refine wc_Vv (As := [.int (nI 58)]) (rest := []) (wr := [(mb, .inl (dB, 32, .inl B)), (mf, .inl (dF, 2, .inl Fm))]) ⟨hx, hb, hml, hown, hts⟩ (ct_m_say l dC dI H.size m0 mt mb mf ml mp mo n wk xm xg dO Gk Ok hgk 58 (by omega)) (cwV 1 hts gXM_write_XM_say rfl rfl rfl (by decide +kernel) ⟨Nat.le_of_ble_eq_true rfl, Nat.le_of_ble_eq_true rfl⟩) hP hD hK hS hA [0, 3] [1, 2] [2] rfl rfl (by decide) (by decide) (by decide) rfl 0 rfl rfl rfl hl.1 rfl (Nat.le_of_ble_eq_true rfl) dXM_write_181 ⟨(Nat.zero_le _), (Nat.zero_le _)⟩ (fun u H locs hg1 hP hD hS => ?_)
                            obtain ⟨u1, w1⟩ := u
                            try dsimp only at hg1
                            have hP : va_P (dC, dI) azCl [(mb, .inl (dB, 32, .inl B)), (mf, .inl (dF, 2, .inl Fm)), (m0, .inr (2, [.ref mt, .int (nI n), .ref mb, .ref mf, .ref ml, .ref mp, .int xm, .int xg, .ref mo, .int (nI w1)])), (mo, .inl (dO, 64, .inl u1))] H := hP
                            have hD : va_D A [(mb, .inl (dB, 32, .inl B)), (mf, .inl (dF, 2, .inl Fm)), (m0, .inr (2, [.ref mt, .int (nI n), .ref mb, .ref mf, .ref ml, .ref mp, .int xm, .int xg, .ref mo, .int (nI w1)])), (mo, .inl (dO, 64, .inl u1))] := hD
                            have hq1 := hg1.1
                            try simp only [List.length_append, List.length_cons, List.length_nil] at hq1
                            refine lv_aload_n hx hb dXM_write_184 rfl (lv_at hl 0 rfl) ?_
                            refine lv_aload_n hx hb dXM_write_185 rfl (lv_at hl 0 rfl) ?_
                            refine lv_iload_n hx hb dXM_write_186 rfl (lv_at hl 3 rfl) ?_
                            refine rc_Vi (As := [.int (nI k2)]) (rest := [.ref m0]) ⟨hx, hb, hml, hown, hts⟩ (ct_m_part l dC dI m0 mt mb mf ml mp mo n w1 xm xg dB B V1 k2 c115 hB0) (cwV 1 hts gXM_write_XM_part rfl rfl rfl (by decide +kernel) ⟨Nat.le_of_ble_eq_true rfl, Nat.le_of_ble_eq_true rfl⟩) (hP.sub [2, 0] rfl) (hK.sub [0] rfl) 0 rfl rfl rfl hl.1 rfl (Nat.le_of_ble_eq_true rfl) dXM_write_187 ⟨(Nat.zero_le _), (Nat.zero_le _)⟩ ?_
                            have hh := az_hex_le (az_pt V1 k2)
                            refine wc_Vv (As := [.int (nI (az_pt V1 k2))]) (rest := []) (wr := [(mb, .inl (dB, 32, .inl B)), (mf, .inl (dF, 2, .inl Fm))]) ⟨hx, hb, hml, hown, hts⟩ (ct_m_sayPart l dC dI H.size m0 mt mb mf ml mp mo n w1 xm xg dO u1 (Ok ++ [58]) hg1 (az_pt V1 k2) (az_pt_lt V1 k2) (by omega)) (cwV 1 hts gXM_write_XM_sayPart rfl rfl rfl (by decide +kernel) ⟨Nat.le_of_ble_eq_true rfl, Nat.le_of_ble_eq_true rfl⟩) hP hD hK hS hA [2, 3] [0, 1] [2] rfl rfl (by decide) (by decide) (by decide) rfl 0 rfl rfl rfl hl.1 rfl (Nat.le_of_ble_eq_true rfl) dXM_write_190 ⟨(Nat.zero_le _), (Nat.zero_le _)⟩ (fun u H locs hg2 hP hD hS => ?_)
                            obtain ⟨u2, w2⟩ := u
                            try dsimp only at hg2
                            have hP : va_P (dC, dI) azCl [(mb, .inl (dB, 32, .inl B)), (mf, .inl (dF, 2, .inl Fm)), (m0, .inr (2, [.ref mt, .int (nI n), .ref mb, .ref mf, .ref ml, .ref mp, .int xm, .int xg, .ref mo, .int (nI w2)])), (mo, .inl (dO, 64, .inl u2))] H := hP
                            have hD : va_D A [(mb, .inl (dB, 32, .inl B)), (mf, .inl (dF, 2, .inl Fm)), (m0, .inr (2, [.ref mt, .int (nI n), .ref mb, .ref mf, .ref ml, .ref mp, .int xm, .int xg, .ref mo, .int (nI w2)])), (mo, .inl (dO, 64, .inl u2))] := hD
                            have hq2 := hg2.1
                            try simp only [List.length_append, List.length_cons, List.length_nil] at hq2
                            refine lv_iinc (v := nI (k2 + 1)) (lv' := [(3, .int (nI (k2 + 1))), (0, .ref m0), (1, .int (nI fr)), (2, .int (nI row))]) hx hb dXM_write_193 hl (k := 3) rfl (nI_add _ 1) (by decide) rfl (fun ls hl => ?_)
                            refine lv_goto (tgt := 112) hx hb dXM_write_196 (by decide) ?_
                            exact ih (k2 + 1) w2 u2 ((Ok ++ [58]) ++ (az_hex (az_pt V1 k2))) (by omega) (hg2) (az_st_mark hrw hst (by omega) c115 (by omega)) (by omega) (by omega) _ _ (hP.sub [2, 0, 1, 3] rfl) (hD.sub [2, 0, 1, 3] (by decide) rfl) hS ls (lv_sub hl [1, 2, 3, 0] rfl)
                    · refine lv_iload_n hx hb dXM_write_127 rfl (lv_at hl 3 rfl) ?_
                      refine lv_iload_n hx hb dXM_write_128 rfl (lv_at hl 1 rfl) ?_
                      refine lv_iload_n hx hb dXM_write_129 rfl (lv_at hl 2 rfl) ?_
                      refine lv_iadd hx hb dXM_write_130 ?_
                      refine tp_i (nI (fr + row)) (nI_add _ _) ?_
                      refine bn_ge (tgt := 163) hx hb dXM_write_131 (by decide) (by omega) (by omega) (fun c131 => ?_) (fun c131 => ?_)
                      · refine lv_iload_n hx hb dXM_write_163 rfl (lv_at hl 3 rfl) ?_
                        refine bz_le (tgt := 184) hx hb dXM_write_164 (by decide) (by omega) (fun c164 => ?_) (fun c164 => ?_)
                        · refine lv_aload_n hx hb dXM_write_184 rfl (lv_at hl 0 rfl) ?_
                          refine lv_aload_n hx hb dXM_write_185 rfl (lv_at hl 0 rfl) ?_
                          refine lv_iload_n hx hb dXM_write_186 rfl (lv_at hl 3 rfl) ?_
                          refine rc_Vi (As := [.int (nI k2)]) (rest := [.ref m0]) ⟨hx, hb, hml, hown, hts⟩ (ct_m_part l dC dI m0 mt mb mf ml mp mo n wk xm xg dB B V1 k2 c115 hB0) (cwV 1 hts gXM_write_XM_part rfl rfl rfl (by decide +kernel) ⟨Nat.le_of_ble_eq_true rfl, Nat.le_of_ble_eq_true rfl⟩) (hP.sub [0, 1] rfl) (hK.sub [0] rfl) 0 rfl rfl rfl hl.1 rfl (Nat.le_of_ble_eq_true rfl) dXM_write_187 ⟨(Nat.zero_le _), (Nat.zero_le _)⟩ ?_
                          have hh := az_hex_le (az_pt V1 k2)
                          refine wc_Vv (As := [.int (nI (az_pt V1 k2))]) (rest := []) (wr := [(mb, .inl (dB, 32, .inl B)), (mf, .inl (dF, 2, .inl Fm))]) ⟨hx, hb, hml, hown, hts⟩ (ct_m_sayPart l dC dI H.size m0 mt mb mf ml mp mo n wk xm xg dO Gk Ok hgk (az_pt V1 k2) (az_pt_lt V1 k2) (by omega)) (cwV 1 hts gXM_write_XM_sayPart rfl rfl rfl (by decide +kernel) ⟨Nat.le_of_ble_eq_true rfl, Nat.le_of_ble_eq_true rfl⟩) hP hD hK hS hA [0, 3] [1, 2] [2] rfl rfl (by decide) (by decide) (by decide) rfl 0 rfl rfl rfl hl.1 rfl (Nat.le_of_ble_eq_true rfl) dXM_write_190 ⟨(Nat.zero_le _), (Nat.zero_le _)⟩ (fun u H locs hg1 hP hD hS => ?_)
                          obtain ⟨u1, w1⟩ := u
                          try dsimp only at hg1
                          have hP : va_P (dC, dI) azCl [(mb, .inl (dB, 32, .inl B)), (mf, .inl (dF, 2, .inl Fm)), (m0, .inr (2, [.ref mt, .int (nI n), .ref mb, .ref mf, .ref ml, .ref mp, .int xm, .int xg, .ref mo, .int (nI w1)])), (mo, .inl (dO, 64, .inl u1))] H := hP
                          have hD : va_D A [(mb, .inl (dB, 32, .inl B)), (mf, .inl (dF, 2, .inl Fm)), (m0, .inr (2, [.ref mt, .int (nI n), .ref mb, .ref mf, .ref ml, .ref mp, .int xm, .int xg, .ref mo, .int (nI w1)])), (mo, .inl (dO, 64, .inl u1))] := hD
                          have hq1 := hg1.1
                          try simp only [List.length_append, List.length_cons, List.length_nil] at hq1
                          refine lv_iinc (v := nI (k2 + 1)) (lv' := [(3, .int (nI (k2 + 1))), (0, .ref m0), (1, .int (nI fr)), (2, .int (nI row))]) hx hb dXM_write_193 hl (k := 3) rfl (nI_add _ 1) (by decide) rfl (fun ls hl => ?_)
                          refine lv_goto (tgt := 112) hx hb dXM_write_196 (by decide) ?_
                          exact ih (k2 + 1) w1 u1 (Ok ++ (az_hex (az_pt V1 k2))) (by omega) (hg1) (az_st_out hrw hst (by omega) c115 (by omega)) (by omega) (by omega) _ _ (hP.sub [2, 0, 1, 3] rfl) (hD.sub [2, 0, 1, 3] (by decide) rfl) hS ls (lv_sub hl [1, 2, 3, 0] rfl)
                        · refine lv_iload_n hx hb dXM_write_167 rfl (lv_at hl 2 rfl) ?_
                          refine bz_le (tgt := 178) hx hb dXM_write_168 (by decide) (by omega) (fun c168 => ?_) (fun c168 => ?_)
                          · refine lv_aload_n hx hb dXM_write_178 rfl (lv_at hl 0 rfl) ?_
                            refine lv_bipush (v := nI 58) hx hb dXM_write_179 (by decide) ?_
                            refine wc_Vv (As := [.int (nI 58)]) (rest := []) (wr := [(mb, .inl (dB, 32, .inl B)), (mf, .inl (dF, 2, .inl Fm))]) ⟨hx, hb, hml, hown, hts⟩ (ct_m_say l dC dI H.size m0 mt mb mf ml mp mo n wk xm xg dO Gk Ok hgk 58 (by omega)) (cwV 1 hts gXM_write_XM_say rfl rfl rfl (by decide +kernel) ⟨Nat.le_of_ble_eq_true rfl, Nat.le_of_ble_eq_true rfl⟩) hP hD hK hS hA [0, 3] [1, 2] [2] rfl rfl (by decide) (by decide) (by decide) rfl 0 rfl rfl rfl hl.1 rfl (Nat.le_of_ble_eq_true rfl) dXM_write_181 ⟨(Nat.zero_le _), (Nat.zero_le _)⟩ (fun u H locs hg1 hP hD hS => ?_)
                            obtain ⟨u1, w1⟩ := u
                            try dsimp only at hg1
                            have hP : va_P (dC, dI) azCl [(mb, .inl (dB, 32, .inl B)), (mf, .inl (dF, 2, .inl Fm)), (m0, .inr (2, [.ref mt, .int (nI n), .ref mb, .ref mf, .ref ml, .ref mp, .int xm, .int xg, .ref mo, .int (nI w1)])), (mo, .inl (dO, 64, .inl u1))] H := hP
                            have hD : va_D A [(mb, .inl (dB, 32, .inl B)), (mf, .inl (dF, 2, .inl Fm)), (m0, .inr (2, [.ref mt, .int (nI n), .ref mb, .ref mf, .ref ml, .ref mp, .int xm, .int xg, .ref mo, .int (nI w1)])), (mo, .inl (dO, 64, .inl u1))] := hD
                            have hq1 := hg1.1
                            try simp only [List.length_append, List.length_cons, List.length_nil] at hq1
                            refine lv_aload_n hx hb dXM_write_184 rfl (lv_at hl 0 rfl) ?_
                            refine lv_aload_n hx hb dXM_write_185 rfl (lv_at hl 0 rfl) ?_
                            refine lv_iload_n hx hb dXM_write_186 rfl (lv_at hl 3 rfl) ?_
                            refine rc_Vi (As := [.int (nI k2)]) (rest := [.ref m0]) ⟨hx, hb, hml, hown, hts⟩ (ct_m_part l dC dI m0 mt mb mf ml mp mo n w1 xm xg dB B V1 k2 c115 hB0) (cwV 1 hts gXM_write_XM_part rfl rfl rfl (by decide +kernel) ⟨Nat.le_of_ble_eq_true rfl, Nat.le_of_ble_eq_true rfl⟩) (hP.sub [2, 0] rfl) (hK.sub [0] rfl) 0 rfl rfl rfl hl.1 rfl (Nat.le_of_ble_eq_true rfl) dXM_write_187 ⟨(Nat.zero_le _), (Nat.zero_le _)⟩ ?_
                            have hh := az_hex_le (az_pt V1 k2)
                            refine wc_Vv (As := [.int (nI (az_pt V1 k2))]) (rest := []) (wr := [(mb, .inl (dB, 32, .inl B)), (mf, .inl (dF, 2, .inl Fm))]) ⟨hx, hb, hml, hown, hts⟩ (ct_m_sayPart l dC dI H.size m0 mt mb mf ml mp mo n w1 xm xg dO u1 (Ok ++ [58]) hg1 (az_pt V1 k2) (az_pt_lt V1 k2) (by omega)) (cwV 1 hts gXM_write_XM_sayPart rfl rfl rfl (by decide +kernel) ⟨Nat.le_of_ble_eq_true rfl, Nat.le_of_ble_eq_true rfl⟩) hP hD hK hS hA [2, 3] [0, 1] [2] rfl rfl (by decide) (by decide) (by decide) rfl 0 rfl rfl rfl hl.1 rfl (Nat.le_of_ble_eq_true rfl) dXM_write_190 ⟨(Nat.zero_le _), (Nat.zero_le _)⟩ (fun u H locs hg2 hP hD hS => ?_)
                            obtain ⟨u2, w2⟩ := u
                            try dsimp only at hg2
                            have hP : va_P (dC, dI) azCl [(mb, .inl (dB, 32, .inl B)), (mf, .inl (dF, 2, .inl Fm)), (m0, .inr (2, [.ref mt, .int (nI n), .ref mb, .ref mf, .ref ml, .ref mp, .int xm, .int xg, .ref mo, .int (nI w2)])), (mo, .inl (dO, 64, .inl u2))] H := hP
                            have hD : va_D A [(mb, .inl (dB, 32, .inl B)), (mf, .inl (dF, 2, .inl Fm)), (m0, .inr (2, [.ref mt, .int (nI n), .ref mb, .ref mf, .ref ml, .ref mp, .int xm, .int xg, .ref mo, .int (nI w2)])), (mo, .inl (dO, 64, .inl u2))] := hD
                            have hq2 := hg2.1
                            try simp only [List.length_append, List.length_cons, List.length_nil] at hq2
                            refine lv_iinc (v := nI (k2 + 1)) (lv' := [(3, .int (nI (k2 + 1))), (0, .ref m0), (1, .int (nI fr)), (2, .int (nI row))]) hx hb dXM_write_193 hl (k := 3) rfl (nI_add _ 1) (by decide) rfl (fun ls hl => ?_)
                            refine lv_goto (tgt := 112) hx hb dXM_write_196 (by decide) ?_
                            exact ih (k2 + 1) w2 u2 ((Ok ++ [58]) ++ (az_hex (az_pt V1 k2))) (by omega) (hg2) (az_st_mark hrw hst (by omega) c115 (by omega)) (by omega) (by omega) _ _ (hP.sub [2, 0, 1, 3] rfl) (hD.sub [2, 0, 1, 3] (by decide) rfl) hS ls (lv_sub hl [1, 2, 3, 0] rfl)
                          · refine lv_iload_n hx hb dXM_write_171 rfl (lv_at hl 3 rfl) ?_
                            refine lv_iload_n hx hb dXM_write_172 rfl (lv_at hl 1 rfl) ?_
                            refine lv_iload_n hx hb dXM_write_173 rfl (lv_at hl 2 rfl) ?_
                            refine lv_iadd hx hb dXM_write_174 ?_
                            refine tp_i (nI (fr + row)) (nI_add _ _) ?_
                            refine bn_eq (tgt := 184) hx hb dXM_write_175 (by decide) (by omega) (by omega) (fun c175 => ?_) (fun c175 => ?_)
                            · refine lv_aload_n hx hb dXM_write_184 rfl (lv_at hl 0 rfl) ?_
                              refine lv_aload_n hx hb dXM_write_185 rfl (lv_at hl 0 rfl) ?_
                              refine lv_iload_n hx hb dXM_write_186 rfl (lv_at hl 3 rfl) ?_
                              refine rc_Vi (As := [.int (nI k2)]) (rest := [.ref m0]) ⟨hx, hb, hml, hown, hts⟩ (ct_m_part l dC dI m0 mt mb mf ml mp mo n wk xm xg dB B V1 k2 c115 hB0) (cwV 1 hts gXM_write_XM_part rfl rfl rfl (by decide +kernel) ⟨Nat.le_of_ble_eq_true rfl, Nat.le_of_ble_eq_true rfl⟩) (hP.sub [0, 1] rfl) (hK.sub [0] rfl) 0 rfl rfl rfl hl.1 rfl (Nat.le_of_ble_eq_true rfl) dXM_write_187 ⟨(Nat.zero_le _), (Nat.zero_le _)⟩ ?_
                              have hh := az_hex_le (az_pt V1 k2)
                              refine wc_Vv (As := [.int (nI (az_pt V1 k2))]) (rest := []) (wr := [(mb, .inl (dB, 32, .inl B)), (mf, .inl (dF, 2, .inl Fm))]) ⟨hx, hb, hml, hown, hts⟩ (ct_m_sayPart l dC dI H.size m0 mt mb mf ml mp mo n wk xm xg dO Gk Ok hgk (az_pt V1 k2) (az_pt_lt V1 k2) (by omega)) (cwV 1 hts gXM_write_XM_sayPart rfl rfl rfl (by decide +kernel) ⟨Nat.le_of_ble_eq_true rfl, Nat.le_of_ble_eq_true rfl⟩) hP hD hK hS hA [0, 3] [1, 2] [2] rfl rfl (by decide) (by decide) (by decide) rfl 0 rfl rfl rfl hl.1 rfl (Nat.le_of_ble_eq_true rfl) dXM_write_190 ⟨(Nat.zero_le _), (Nat.zero_le _)⟩ (fun u H locs hg1 hP hD hS => ?_)
                              obtain ⟨u1, w1⟩ := u
                              try dsimp only at hg1
                              have hP : va_P (dC, dI) azCl [(mb, .inl (dB, 32, .inl B)), (mf, .inl (dF, 2, .inl Fm)), (m0, .inr (2, [.ref mt, .int (nI n), .ref mb, .ref mf, .ref ml, .ref mp, .int xm, .int xg, .ref mo, .int (nI w1)])), (mo, .inl (dO, 64, .inl u1))] H := hP
                              have hD : va_D A [(mb, .inl (dB, 32, .inl B)), (mf, .inl (dF, 2, .inl Fm)), (m0, .inr (2, [.ref mt, .int (nI n), .ref mb, .ref mf, .ref ml, .ref mp, .int xm, .int xg, .ref mo, .int (nI w1)])), (mo, .inl (dO, 64, .inl u1))] := hD
                              have hq1 := hg1.1
                              try simp only [List.length_append, List.length_cons, List.length_nil] at hq1
                              refine lv_iinc (v := nI (k2 + 1)) (lv' := [(3, .int (nI (k2 + 1))), (0, .ref m0), (1, .int (nI fr)), (2, .int (nI row))]) hx hb dXM_write_193 hl (k := 3) rfl (nI_add _ 1) (by decide) rfl (fun ls hl => ?_)
                              refine lv_goto (tgt := 112) hx hb dXM_write_196 (by decide) ?_
                              exact ih (k2 + 1) w1 u1 (Ok ++ (az_hex (az_pt V1 k2))) (by omega) (hg1) (az_st_out hrw hst (by omega) c115 (by omega)) (by omega) (by omega) _ _ (hP.sub [2, 0, 1, 3] rfl) (hD.sub [2, 0, 1, 3] (by decide) rfl) hS ls (lv_sub hl [1, 2, 3, 0] rfl)
                            · refine lv_aload_n hx hb dXM_write_178 rfl (lv_at hl 0 rfl) ?_
                              refine lv_bipush (v := nI 58) hx hb dXM_write_179 (by decide) ?_
                              refine wc_Vv (As := [.int (nI 58)]) (rest := []) (wr := [(mb, .inl (dB, 32, .inl B)), (mf, .inl (dF, 2, .inl Fm))]) ⟨hx, hb, hml, hown, hts⟩ (ct_m_say l dC dI H.size m0 mt mb mf ml mp mo n wk xm xg dO Gk Ok hgk 58 (by omega)) (cwV 1 hts gXM_write_XM_say rfl rfl rfl (by decide +kernel) ⟨Nat.le_of_ble_eq_true rfl, Nat.le_of_ble_eq_true rfl⟩) hP hD hK hS hA [0, 3] [1, 2] [2] rfl rfl (by decide) (by decide) (by decide) rfl 0 rfl rfl rfl hl.1 rfl (Nat.le_of_ble_eq_true rfl) dXM_write_181 ⟨(Nat.zero_le _), (Nat.zero_le _)⟩ (fun u H locs hg1 hP hD hS => ?_)
                              obtain ⟨u1, w1⟩ := u
                              try dsimp only at hg1
                              have hP : va_P (dC, dI) azCl [(mb, .inl (dB, 32, .inl B)), (mf, .inl (dF, 2, .inl Fm)), (m0, .inr (2, [.ref mt, .int (nI n), .ref mb, .ref mf, .ref ml, .ref mp, .int xm, .int xg, .ref mo, .int (nI w1)])), (mo, .inl (dO, 64, .inl u1))] H := hP
                              have hD : va_D A [(mb, .inl (dB, 32, .inl B)), (mf, .inl (dF, 2, .inl Fm)), (m0, .inr (2, [.ref mt, .int (nI n), .ref mb, .ref mf, .ref ml, .ref mp, .int xm, .int xg, .ref mo, .int (nI w1)])), (mo, .inl (dO, 64, .inl u1))] := hD
                              have hq1 := hg1.1
                              try simp only [List.length_append, List.length_cons, List.length_nil] at hq1
                              refine lv_aload_n hx hb dXM_write_184 rfl (lv_at hl 0 rfl) ?_
                              refine lv_aload_n hx hb dXM_write_185 rfl (lv_at hl 0 rfl) ?_
                              refine lv_iload_n hx hb dXM_write_186 rfl (lv_at hl 3 rfl) ?_
                              refine rc_Vi (As := [.int (nI k2)]) (rest := [.ref m0]) ⟨hx, hb, hml, hown, hts⟩ (ct_m_part l dC dI m0 mt mb mf ml mp mo n w1 xm xg dB B V1 k2 c115 hB0) (cwV 1 hts gXM_write_XM_part rfl rfl rfl (by decide +kernel) ⟨Nat.le_of_ble_eq_true rfl, Nat.le_of_ble_eq_true rfl⟩) (hP.sub [2, 0] rfl) (hK.sub [0] rfl) 0 rfl rfl rfl hl.1 rfl (Nat.le_of_ble_eq_true rfl) dXM_write_187 ⟨(Nat.zero_le _), (Nat.zero_le _)⟩ ?_
                              have hh := az_hex_le (az_pt V1 k2)
                              refine wc_Vv (As := [.int (nI (az_pt V1 k2))]) (rest := []) (wr := [(mb, .inl (dB, 32, .inl B)), (mf, .inl (dF, 2, .inl Fm))]) ⟨hx, hb, hml, hown, hts⟩ (ct_m_sayPart l dC dI H.size m0 mt mb mf ml mp mo n w1 xm xg dO u1 (Ok ++ [58]) hg1 (az_pt V1 k2) (az_pt_lt V1 k2) (by omega)) (cwV 1 hts gXM_write_XM_sayPart rfl rfl rfl (by decide +kernel) ⟨Nat.le_of_ble_eq_true rfl, Nat.le_of_ble_eq_true rfl⟩) hP hD hK hS hA [2, 3] [0, 1] [2] rfl rfl (by decide) (by decide) (by decide) rfl 0 rfl rfl rfl hl.1 rfl (Nat.le_of_ble_eq_true rfl) dXM_write_190 ⟨(Nat.zero_le _), (Nat.zero_le _)⟩ (fun u H locs hg2 hP hD hS => ?_)
                              obtain ⟨u2, w2⟩ := u
                              try dsimp only at hg2
                              have hP : va_P (dC, dI) azCl [(mb, .inl (dB, 32, .inl B)), (mf, .inl (dF, 2, .inl Fm)), (m0, .inr (2, [.ref mt, .int (nI n), .ref mb, .ref mf, .ref ml, .ref mp, .int xm, .int xg, .ref mo, .int (nI w2)])), (mo, .inl (dO, 64, .inl u2))] H := hP
                              have hD : va_D A [(mb, .inl (dB, 32, .inl B)), (mf, .inl (dF, 2, .inl Fm)), (m0, .inr (2, [.ref mt, .int (nI n), .ref mb, .ref mf, .ref ml, .ref mp, .int xm, .int xg, .ref mo, .int (nI w2)])), (mo, .inl (dO, 64, .inl u2))] := hD
                              have hq2 := hg2.1
                              try simp only [List.length_append, List.length_cons, List.length_nil] at hq2
                              refine lv_iinc (v := nI (k2 + 1)) (lv' := [(3, .int (nI (k2 + 1))), (0, .ref m0), (1, .int (nI fr)), (2, .int (nI row))]) hx hb dXM_write_193 hl (k := 3) rfl (nI_add _ 1) (by decide) rfl (fun ls hl => ?_)
                              refine lv_goto (tgt := 112) hx hb dXM_write_196 (by decide) ?_
                              exact ih (k2 + 1) w2 u2 ((Ok ++ [58]) ++ (az_hex (az_pt V1 k2))) (by omega) (hg2) (az_st_mark hrw hst (by omega) c115 (by omega)) (by omega) (by omega) _ _ (hP.sub [2, 0, 1, 3] rfl) (hD.sub [2, 0, 1, 3] (by decide) rfl) hS ls (lv_sub hl [1, 2, 3, 0] rfl)
                      · refine lv_iload_n hx hb dXM_write_134 rfl (lv_at hl 3 rfl) ?_
                        refine lv_iload_n hx hb dXM_write_135 rfl (lv_at hl 1 rfl) ?_
                        refine bn_ne (tgt := 145) hx hb dXM_write_136 (by decide) (by omega) (by omega) (fun c136 => ?_) (fun c136 => ?_)
                        · refine lv_iload_n hx hb dXM_write_145 rfl (lv_at hl 3 rfl) ?_
                          refine lv_iload_n hx hb dXM_write_146 rfl (lv_at hl 1 rfl) ?_
                          refine lv_iload_n hx hb dXM_write_147 rfl (lv_at hl 2 rfl) ?_
                          refine lv_iadd hx hb dXM_write_148 ?_
                          refine tp_i (nI (fr + row)) (nI_add _ _) ?_
                          refine lv_iconst (v := nI 1) hx hb dXM_write_149 (by decide) ?_
                          refine lv_isub hx hb dXM_write_150 ?_
                          refine tp_i (nI ((fr + row) - 1)) (pk_sub (by omega)) ?_
                          refine bn_ne (tgt := 193) hx hb dXM_write_151 (by decide) (by omega) (by omega) (fun c151 => ?_) (fun c151 => ?_)
                          · refine lv_iinc (v := nI (k2 + 1)) (lv' := [(3, .int (nI (k2 + 1))), (0, .ref m0), (1, .int (nI fr)), (2, .int (nI row))]) hx hb dXM_write_193 hl (k := 3) rfl (nI_add _ 1) (by decide) rfl (fun ls hl => ?_)
                            refine lv_goto (tgt := 112) hx hb dXM_write_196 (by decide) ?_
                            exact ih (k2 + 1) wk Gk Ok (by omega) (hgk) (az_st_in hst (by omega) (by omega) (by omega)) (by omega) (by omega) _ _ (hP.sub [0, 1, 2, 3] rfl) (hD.sub [0, 1, 2, 3] (by decide) rfl) hS ls (lv_sub hl [1, 2, 3, 0] rfl)
                          · refine lv_aload_n hx hb dXM_write_154 rfl (lv_at hl 0 rfl) ?_
                            refine lv_bipush (v := nI 58) hx hb dXM_write_155 (by decide) ?_
                            refine wc_Vv (As := [.int (nI 58)]) (rest := []) (wr := [(mb, .inl (dB, 32, .inl B)), (mf, .inl (dF, 2, .inl Fm))]) ⟨hx, hb, hml, hown, hts⟩ (ct_m_say l dC dI H.size m0 mt mb mf ml mp mo n wk xm xg dO Gk Ok hgk 58 (by omega)) (cwV 1 hts gXM_write_XM_say rfl rfl rfl (by decide +kernel) ⟨Nat.le_of_ble_eq_true rfl, Nat.le_of_ble_eq_true rfl⟩) hP hD hK hS hA [0, 3] [1, 2] [2] rfl rfl (by decide) (by decide) (by decide) rfl 0 rfl rfl rfl hl.1 rfl (Nat.le_of_ble_eq_true rfl) dXM_write_157 ⟨(Nat.zero_le _), (Nat.zero_le _)⟩ (fun u H locs hg1 hP hD hS => ?_)
                            obtain ⟨u1, w1⟩ := u
                            try dsimp only at hg1
                            have hP : va_P (dC, dI) azCl [(mb, .inl (dB, 32, .inl B)), (mf, .inl (dF, 2, .inl Fm)), (m0, .inr (2, [.ref mt, .int (nI n), .ref mb, .ref mf, .ref ml, .ref mp, .int xm, .int xg, .ref mo, .int (nI w1)])), (mo, .inl (dO, 64, .inl u1))] H := hP
                            have hD : va_D A [(mb, .inl (dB, 32, .inl B)), (mf, .inl (dF, 2, .inl Fm)), (m0, .inr (2, [.ref mt, .int (nI n), .ref mb, .ref mf, .ref ml, .ref mp, .int xm, .int xg, .ref mo, .int (nI w1)])), (mo, .inl (dO, 64, .inl u1))] := hD
                            have hq1 := hg1.1
                            try simp only [List.length_append, List.length_cons, List.length_nil] at hq1
                            refine lv_goto (tgt := 193) hx hb dXM_write_160 (by decide) ?_
                            refine lv_iinc (v := nI (k2 + 1)) (lv' := [(3, .int (nI (k2 + 1))), (0, .ref m0), (1, .int (nI fr)), (2, .int (nI row))]) hx hb dXM_write_193 hl (k := 3) rfl (nI_add _ 1) (by decide) rfl (fun ls hl => ?_)
                            refine lv_goto (tgt := 112) hx hb dXM_write_196 (by decide) ?_
                            exact ih (k2 + 1) w1 u1 (Ok ++ [58]) (by omega) (hg1) (az_st_last hrw hst (by omega) (by omega) (by omega)) (by omega) (by omega) _ _ (hP.sub [2, 0, 1, 3] rfl) (hD.sub [2, 0, 1, 3] (by decide) rfl) hS ls (lv_sub hl [1, 2, 3, 0] rfl)
                        · refine lv_aload_n hx hb dXM_write_139 rfl (lv_at hl 0 rfl) ?_
                          refine lv_bipush (v := nI 58) hx hb dXM_write_140 (by decide) ?_
                          refine wc_Vv (As := [.int (nI 58)]) (rest := []) (wr := [(mb, .inl (dB, 32, .inl B)), (mf, .inl (dF, 2, .inl Fm))]) ⟨hx, hb, hml, hown, hts⟩ (ct_m_say l dC dI H.size m0 mt mb mf ml mp mo n wk xm xg dO Gk Ok hgk 58 (by omega)) (cwV 1 hts gXM_write_XM_say rfl rfl rfl (by decide +kernel) ⟨Nat.le_of_ble_eq_true rfl, Nat.le_of_ble_eq_true rfl⟩) hP hD hK hS hA [0, 3] [1, 2] [2] rfl rfl (by decide) (by decide) (by decide) rfl 0 rfl rfl rfl hl.1 rfl (Nat.le_of_ble_eq_true rfl) dXM_write_142 ⟨(Nat.zero_le _), (Nat.zero_le _)⟩ (fun u H locs hg1 hP hD hS => ?_)
                          obtain ⟨u1, w1⟩ := u
                          try dsimp only at hg1
                          have hP : va_P (dC, dI) azCl [(mb, .inl (dB, 32, .inl B)), (mf, .inl (dF, 2, .inl Fm)), (m0, .inr (2, [.ref mt, .int (nI n), .ref mb, .ref mf, .ref ml, .ref mp, .int xm, .int xg, .ref mo, .int (nI w1)])), (mo, .inl (dO, 64, .inl u1))] H := hP
                          have hD : va_D A [(mb, .inl (dB, 32, .inl B)), (mf, .inl (dF, 2, .inl Fm)), (m0, .inr (2, [.ref mt, .int (nI n), .ref mb, .ref mf, .ref ml, .ref mp, .int xm, .int xg, .ref mo, .int (nI w1)])), (mo, .inl (dO, 64, .inl u1))] := hD
                          have hq1 := hg1.1
                          try simp only [List.length_append, List.length_cons, List.length_nil] at hq1
                          refine lv_iload_n hx hb dXM_write_145 rfl (lv_at hl 3 rfl) ?_
                          refine lv_iload_n hx hb dXM_write_146 rfl (lv_at hl 1 rfl) ?_
                          refine lv_iload_n hx hb dXM_write_147 rfl (lv_at hl 2 rfl) ?_
                          refine lv_iadd hx hb dXM_write_148 ?_
                          refine tp_i (nI (fr + row)) (nI_add _ _) ?_
                          refine lv_iconst (v := nI 1) hx hb dXM_write_149 (by decide) ?_
                          refine lv_isub hx hb dXM_write_150 ?_
                          refine tp_i (nI ((fr + row) - 1)) (pk_sub (by omega)) ?_
                          refine bn_ne (tgt := 193) hx hb dXM_write_151 (by decide) (by omega) (by omega) (fun c151 => ?_) (fun c151 => ?_)
                          · refine lv_iinc (v := nI (k2 + 1)) (lv' := [(3, .int (nI (k2 + 1))), (0, .ref m0), (1, .int (nI fr)), (2, .int (nI row))]) hx hb dXM_write_193 hl (k := 3) rfl (nI_add _ 1) (by decide) rfl (fun ls hl => ?_)
                            refine lv_goto (tgt := 112) hx hb dXM_write_196 (by decide) ?_
                            exact ih (k2 + 1) w1 u1 (Ok ++ [58]) (by omega) (hg1) (az_st_first hrw hst (by omega) (by omega)) (by omega) (by omega) _ _ (hP.sub [2, 0, 1, 3] rfl) (hD.sub [2, 0, 1, 3] (by decide) rfl) hS ls (lv_sub hl [1, 2, 3, 0] rfl)
                          · refine lv_aload_n hx hb dXM_write_154 rfl (lv_at hl 0 rfl) ?_
                            refine lv_bipush (v := nI 58) hx hb dXM_write_155 (by decide) ?_
                            refine wc_Vv (As := [.int (nI 58)]) (rest := []) (wr := [(mb, .inl (dB, 32, .inl B)), (mf, .inl (dF, 2, .inl Fm))]) ⟨hx, hb, hml, hown, hts⟩ (ct_m_say l dC dI H.size m0 mt mb mf ml mp mo n w1 xm xg dO u1 (Ok ++ [58]) hg1 58 (by omega)) (cwV 1 hts gXM_write_XM_say rfl rfl rfl (by decide +kernel) ⟨Nat.le_of_ble_eq_true rfl, Nat.le_of_ble_eq_true rfl⟩) hP hD hK hS hA [2, 3] [0, 1] [2] rfl rfl (by decide) (by decide) (by decide) rfl 0 rfl rfl rfl hl.1 rfl (Nat.le_of_ble_eq_true rfl) dXM_write_157 ⟨(Nat.zero_le _), (Nat.zero_le _)⟩ (fun u H locs hg2 hP hD hS => ?_)
                            obtain ⟨u2, w2⟩ := u
                            try dsimp only at hg2
                            have hP : va_P (dC, dI) azCl [(mb, .inl (dB, 32, .inl B)), (mf, .inl (dF, 2, .inl Fm)), (m0, .inr (2, [.ref mt, .int (nI n), .ref mb, .ref mf, .ref ml, .ref mp, .int xm, .int xg, .ref mo, .int (nI w2)])), (mo, .inl (dO, 64, .inl u2))] H := hP
                            have hD : va_D A [(mb, .inl (dB, 32, .inl B)), (mf, .inl (dF, 2, .inl Fm)), (m0, .inr (2, [.ref mt, .int (nI n), .ref mb, .ref mf, .ref ml, .ref mp, .int xm, .int xg, .ref mo, .int (nI w2)])), (mo, .inl (dO, 64, .inl u2))] := hD
                            have hq2 := hg2.1
                            try simp only [List.length_append, List.length_cons, List.length_nil] at hq2
                            refine lv_goto (tgt := 193) hx hb dXM_write_160 (by decide) ?_
                            refine lv_iinc (v := nI (k2 + 1)) (lv' := [(3, .int (nI (k2 + 1))), (0, .ref m0), (1, .int (nI fr)), (2, .int (nI row))]) hx hb dXM_write_193 hl (k := 3) rfl (nI_add _ 1) (by decide) rfl (fun ls hl => ?_)
                            refine lv_goto (tgt := 112) hx hb dXM_write_196 (by decide) ?_
                            exact ih (k2 + 1) w2 u2 ((Ok ++ [58]) ++ [58]) (by omega) (hg2) (by exfalso; omega) (by omega) (by omega) _ _ (hP.sub [2, 0, 1, 3] rfl) (hD.sub [2, 0, 1, 3] (by decide) rfl) hS ls (lv_sub hl [1, 2, 3, 0] rfl)
            exact lp112 _ 0 0 G ([]) (Nat.zero_le _) (az_mo_0 G) (az_st_0) (Nat.zero_le _) (Nat.lt_succ_self _) _ _ (hP.sub [0, 1, 2, 3] rfl) (hD.sub [0, 1, 2, 3] (by decide) rfl) hS ls (lv_sub hl [2, 3, 1, 0] rfl)
        · have hz1 := az_zr_le V1 k
          have hz2 := az_zr_le V1 fr
          refine lv_aload_n hx hb dXM_write_66 rfl (lv_at hl 0 rfl) ?_
          refine lv_iload_n hx hb dXM_write_67 rfl (lv_at hl 2 rfl) ?_
          refine rc_Vi (As := [.int (nI k)]) (rest := []) ⟨hx, hb, hml, hown, hts⟩ (ct_m_noughts l dC dI m0 mt mb mf ml mp mo n 0 xm xg dB B V1 k hk hB0) (cwV 1 hts gXM_write_XM_noughts rfl rfl rfl (by decide +kernel) ⟨Nat.le_of_ble_eq_true rfl, Nat.le_of_ble_eq_true rfl⟩) (hP.sub [0, 1] rfl) (hK.sub [0] rfl) 0 rfl rfl rfl hl.1 rfl (Nat.le_of_ble_eq_true rfl) dXM_write_68 ⟨(Nat.zero_le _), (Nat.zero_le _)⟩ ?_
          refine lv_aload_n hx hb dXM_write_71 rfl (lv_at hl 0 rfl) ?_
          refine lv_iload_n hx hb dXM_write_72 rfl (lv_at hl 1 rfl) ?_
          refine rc_Vi (As := [.int (nI fr)]) (rest := [.int (nI (az_zr V1 k))]) ⟨hx, hb, hml, hown, hts⟩ (ct_m_noughts l dC dI m0 mt mb mf ml mp mo n 0 xm xg dB B V1 fr (by omega) hB0) (cwV 1 hts gXM_write_XM_noughts rfl rfl rfl (by decide +kernel) ⟨Nat.le_of_ble_eq_true rfl, Nat.le_of_ble_eq_true rfl⟩) (hP.sub [0, 1] rfl) (hK.sub [0] rfl) 0 rfl rfl rfl hl.1 rfl (Nat.le_of_ble_eq_true rfl) dXM_write_73 ⟨(Nat.zero_le _), (Nat.zero_le _)⟩ ?_
          refine bn_le (tgt := 83) hx hb dXM_write_76 (by decide) (by omega) (by omega) (fun c76 => ?_) (fun c76 => ?_)
          · refine lv_iload_n hx hb dXM_write_83 rfl (lv_at hl 1 rfl) ?_
            refine lv_istore_n (lv' := [(1, .int (nI fr)), (0, .ref m0), (2, .int (nI k))]) hx hb dXM_write_84 rfl hl (by decide) rfl (fun ls hl => ?_)
            refine lv_iinc (v := nI (k + 1)) (lv' := [(2, .int (nI (k + 1))), (1, .int (nI fr)), (0, .ref m0)]) hx hb dXM_write_85 hl (k := 2) rfl (nI_add _ 1) (by decide) rfl (fun ls hl => ?_)
            refine lv_goto (tgt := 60) hx hb dXM_write_88 (by decide) ?_
            exact ih (k + 1) fr (by omega) (by omega) (by omega) (by first | exact az_fr_y hR c76 | exact az_fr_n hR c76) (by omega) _ _ (hP.sub [0, 1, 2, 3] rfl) (hD.sub [0, 1, 2, 3] (by decide) rfl) hS ls (lv_sub hl [2, 1, 0] rfl)
          · refine lv_iload_n hx hb dXM_write_79 rfl (lv_at hl 2 rfl) ?_
            refine lv_goto (tgt := 84) hx hb dXM_write_80 (by decide) ?_
            refine lv_istore_n (lv' := [(1, .int (nI k)), (0, .ref m0), (2, .int (nI k))]) hx hb dXM_write_84 rfl hl (by decide) rfl (fun ls hl => ?_)
            refine lv_iinc (v := nI (k + 1)) (lv' := [(2, .int (nI (k + 1))), (1, .int (nI k)), (0, .ref m0)]) hx hb dXM_write_85 hl (k := 2) rfl (nI_add _ 1) (by decide) rfl (fun ls hl => ?_)
            refine lv_goto (tgt := 60) hx hb dXM_write_88 (by decide) ?_
            exact ih (k + 1) k (by omega) (by omega) (by omega) (by first | exact az_fr_y hR c76 | exact az_fr_n hR c76) (by omega) _ _ (hP.sub [0, 1, 2, 3] rfl) (hD.sub [0, 1, 2, 3] (by decide) rfl) hS ls (lv_sub hl [2, 1, 0] rfl)
    exact lp60 _ 1 0 (Nat.le_refl _) (by omega) (by omega) (az_fr_1 V1) (Nat.lt_succ_self _) _ _ (hP.sub [0, 1, 2, 3] rfl) (hD.sub [0, 1, 2, 3] (by decide) rfl) hS ls (lv_sub hl [2, 1, 0] rfl)
  · have hV4 : V1 < 4294967296 := by have h := h1; rw [c12] at h; exact az_ad_4 h
    refine lv_iconst (v := nI 0) hx hb dXM_write_15 (by decide) ?_
    refine lv_istore_n (lv' := [(1, .int (nI 0)), (0, .ref m0)]) hx hb dXM_write_16 rfl hl (by decide) rfl (fun ls hl => ?_)
    refine lv_iload_n hx hb dXM_write_17 rfl (lv_at hl 0 rfl) ?_
    refine lv_iconst (v := nI 4) hx hb dXM_write_18 (by decide) ?_
    refine lv_icmp_ge (tgt := 51) hx hb dXM_write_19 (by decide) (fun c => absurd c (by decide)) (fun _ => ?_)
    refine lv_iload_n hx hb dXM_write_22 rfl (lv_at hl 0 rfl) ?_
    refine lv_if_le (tgt := 32) hx hb dXM_write_23 (by decide) (fun _ => ?_) (fun c => absurd c (by decide))
    refine lv_aload_n hx hb dXM_write_32 rfl (lv_at hl 1 rfl) ?_
    refine lv_aload_n hx hb dXM_write_33 rfl (lv_at hl 1 rfl) ?_
    refine va_get (D := (dC, dI)) (ci := 2) (v := .ref mb) (C := RXM) (T := TXM) (N := 10) hx hb hts hiXM hown hK hP 0 rfl rfl 2 (by decide) hf13 (fun _ h9 => h9) rfl dXM_write_34 ?_
    refine lv_bipush (v := nI 12) hx hb dXM_write_37 (by decide) ?_
    refine lv_iload_n hx hb dXM_write_39 rfl (lv_at hl 0 rfl) ?_
    refine lv_iadd hx hb dXM_write_40 ?_
    refine tp_i (nI 12) (by decide) ?_
    refine ld_i hx hb hK hP 1 0 rfl rfl (by omega) (by omega) dXM_write_41 ?_
    refine tp_i (nI (V1 / 16777216 % 256)) (by have h := hB0 12 (by omega); rw [Nat.zero_add] at h; exact h) ?_
    have hd1 := az_dec_le (V1 / 16777216 % 256)
    refine wc_Vv (As := [.int (nI (V1 / 16777216 % 256))]) (rest := []) (wr := [(mb, .inl (dB, 32, .inl B)), (mf, .inl (dF, 2, .inl Fm))]) ⟨hx, hb, hml, hown, hts⟩ (ct_m_sayDecimal l dC dI H.size m0 mt mb mf ml mp mo n 0 xm xg dO G ([]) (az_mo_0 G) (V1 / 16777216 % 256) (by omega) (by omega)) (cwV 1 hts gXM_write_XM_sayDecimal rfl rfl rfl (by decide +kernel) ⟨Nat.le_of_ble_eq_true rfl, Nat.le_of_ble_eq_true rfl⟩) hP hD hK hS hA [0, 3] [1, 2] [2] rfl rfl (by decide) (by decide) (by decide) rfl 0 rfl rfl rfl hl.1 rfl (Nat.le_of_ble_eq_true rfl) dXM_write_42 ⟨(Nat.zero_le _), (Nat.zero_le _)⟩ (fun u H locs hg1 hP hD hS => ?_)
    obtain ⟨u1, w1⟩ := u
    try dsimp only at hg1
    have hP : va_P (dC, dI) azCl [(mb, .inl (dB, 32, .inl B)), (mf, .inl (dF, 2, .inl Fm)), (m0, .inr (2, [.ref mt, .int (nI n), .ref mb, .ref mf, .ref ml, .ref mp, .int xm, .int xg, .ref mo, .int (nI w1)])), (mo, .inl (dO, 64, .inl u1))] H := hP
    have hD : va_D A [(mb, .inl (dB, 32, .inl B)), (mf, .inl (dF, 2, .inl Fm)), (m0, .inr (2, [.ref mt, .int (nI n), .ref mb, .ref mf, .ref ml, .ref mp, .int xm, .int xg, .ref mo, .int (nI w1)])), (mo, .inl (dO, 64, .inl u1))] := hD
    have hq1 := hg1.1
    try simp only [List.length_append, List.length_cons, List.length_nil] at hq1
    refine lv_iinc (v := nI 1) (lv' := [(1, .int (nI 1)), (0, .ref m0)]) hx hb dXM_write_45 hl (k := 0) rfl (by decide) (by decide) rfl (fun ls hl => ?_)
    refine lv_goto (tgt := 17) hx hb dXM_write_48 (by decide) ?_
    refine lv_iload_n hx hb dXM_write_17 rfl (lv_at hl 0 rfl) ?_
    refine lv_iconst (v := nI 4) hx hb dXM_write_18 (by decide) ?_
    refine lv_icmp_ge (tgt := 51) hx hb dXM_write_19 (by decide) (fun c => absurd c (by decide)) (fun _ => ?_)
    refine lv_iload_n hx hb dXM_write_22 rfl (lv_at hl 0 rfl) ?_
    refine lv_if_le (tgt := 32) hx hb dXM_write_23 (by decide) (fun c => absurd c (by decide)) (fun _ => ?_)
    refine lv_aload_n hx hb dXM_write_26 rfl (lv_at hl 1 rfl) ?_
    refine lv_bipush (v := nI 46) hx hb dXM_write_27 (by decide) ?_
    refine wc_Vv (As := [.int (nI 46)]) (rest := []) (wr := [(mb, .inl (dB, 32, .inl B)), (mf, .inl (dF, 2, .inl Fm))]) ⟨hx, hb, hml, hown, hts⟩ (ct_m_say l dC dI H.size m0 mt mb mf ml mp mo n w1 xm xg dO u1 (([]) ++ (az_dec (V1 / 16777216 % 256))) hg1 46 (by omega)) (cwV 1 hts gXM_write_XM_say rfl rfl rfl (by decide +kernel) ⟨Nat.le_of_ble_eq_true rfl, Nat.le_of_ble_eq_true rfl⟩) hP hD hK hS hA [2, 3] [0, 1] [2] rfl rfl (by decide) (by decide) (by decide) rfl 0 rfl rfl rfl hl.1 rfl (Nat.le_of_ble_eq_true rfl) dXM_write_29 ⟨(Nat.zero_le _), (Nat.zero_le _)⟩ (fun u H locs hg2 hP hD hS => ?_)
    obtain ⟨u2, w2⟩ := u
    try dsimp only at hg2
    have hP : va_P (dC, dI) azCl [(mb, .inl (dB, 32, .inl B)), (mf, .inl (dF, 2, .inl Fm)), (m0, .inr (2, [.ref mt, .int (nI n), .ref mb, .ref mf, .ref ml, .ref mp, .int xm, .int xg, .ref mo, .int (nI w2)])), (mo, .inl (dO, 64, .inl u2))] H := hP
    have hD : va_D A [(mb, .inl (dB, 32, .inl B)), (mf, .inl (dF, 2, .inl Fm)), (m0, .inr (2, [.ref mt, .int (nI n), .ref mb, .ref mf, .ref ml, .ref mp, .int xm, .int xg, .ref mo, .int (nI w2)])), (mo, .inl (dO, 64, .inl u2))] := hD
    have hq2 := hg2.1
    try simp only [List.length_append, List.length_cons, List.length_nil] at hq2
    refine lv_aload_n hx hb dXM_write_32 rfl (lv_at hl 1 rfl) ?_
    refine lv_aload_n hx hb dXM_write_33 rfl (lv_at hl 1 rfl) ?_
    refine va_get (D := (dC, dI)) (ci := 2) (v := .ref mb) (C := RXM) (T := TXM) (N := 10) hx hb hts hiXM hown hK hP 2 rfl rfl 2 (by decide) hf13 (fun _ h9 => h9) rfl dXM_write_34 ?_
    refine lv_bipush (v := nI 12) hx hb dXM_write_37 (by decide) ?_
    refine lv_iload_n hx hb dXM_write_39 rfl (lv_at hl 0 rfl) ?_
    refine lv_iadd hx hb dXM_write_40 ?_
    refine tp_i (nI 13) (by decide) ?_
    refine ld_i hx hb hK hP 0 0 rfl rfl (by omega) (by omega) dXM_write_41 ?_
    refine tp_i (nI (V1 / 65536 % 256)) (by have h := hB0 13 (by omega); rw [Nat.zero_add] at h; exact h) ?_
    have hd3 := az_dec_le (V1 / 65536 % 256)
    refine wc_Vv (As := [.int (nI (V1 / 65536 % 256))]) (rest := []) (wr := [(mb, .inl (dB, 32, .inl B)), (mf, .inl (dF, 2, .inl Fm))]) ⟨hx, hb, hml, hown, hts⟩ (ct_m_sayDecimal l dC dI H.size m0 mt mb mf ml mp mo n w2 xm xg dO u2 ((([]) ++ (az_dec (V1 / 16777216 % 256))) ++ [46]) hg2 (V1 / 65536 % 256) (by omega) (by omega)) (cwV 1 hts gXM_write_XM_sayDecimal rfl rfl rfl (by decide +kernel) ⟨Nat.le_of_ble_eq_true rfl, Nat.le_of_ble_eq_true rfl⟩) hP hD hK hS hA [2, 3] [0, 1] [2] rfl rfl (by decide) (by decide) (by decide) rfl 0 rfl rfl rfl hl.1 rfl (Nat.le_of_ble_eq_true rfl) dXM_write_42 ⟨(Nat.zero_le _), (Nat.zero_le _)⟩ (fun u H locs hg3 hP hD hS => ?_)
    obtain ⟨u3, w3⟩ := u
    try dsimp only at hg3
    have hP : va_P (dC, dI) azCl [(mb, .inl (dB, 32, .inl B)), (mf, .inl (dF, 2, .inl Fm)), (m0, .inr (2, [.ref mt, .int (nI n), .ref mb, .ref mf, .ref ml, .ref mp, .int xm, .int xg, .ref mo, .int (nI w3)])), (mo, .inl (dO, 64, .inl u3))] H := hP
    have hD : va_D A [(mb, .inl (dB, 32, .inl B)), (mf, .inl (dF, 2, .inl Fm)), (m0, .inr (2, [.ref mt, .int (nI n), .ref mb, .ref mf, .ref ml, .ref mp, .int xm, .int xg, .ref mo, .int (nI w3)])), (mo, .inl (dO, 64, .inl u3))] := hD
    have hq3 := hg3.1
    try simp only [List.length_append, List.length_cons, List.length_nil] at hq3
    refine lv_iinc (v := nI 2) (lv' := [(1, .int (nI 2)), (0, .ref m0)]) hx hb dXM_write_45 hl (k := 0) rfl (by decide) (by decide) rfl (fun ls hl => ?_)
    refine lv_goto (tgt := 17) hx hb dXM_write_48 (by decide) ?_
    refine lv_iload_n hx hb dXM_write_17 rfl (lv_at hl 0 rfl) ?_
    refine lv_iconst (v := nI 4) hx hb dXM_write_18 (by decide) ?_
    refine lv_icmp_ge (tgt := 51) hx hb dXM_write_19 (by decide) (fun c => absurd c (by decide)) (fun _ => ?_)
    refine lv_iload_n hx hb dXM_write_22 rfl (lv_at hl 0 rfl) ?_
    refine lv_if_le (tgt := 32) hx hb dXM_write_23 (by decide) (fun c => absurd c (by decide)) (fun _ => ?_)
    refine lv_aload_n hx hb dXM_write_26 rfl (lv_at hl 1 rfl) ?_
    refine lv_bipush (v := nI 46) hx hb dXM_write_27 (by decide) ?_
    refine wc_Vv (As := [.int (nI 46)]) (rest := []) (wr := [(mb, .inl (dB, 32, .inl B)), (mf, .inl (dF, 2, .inl Fm))]) ⟨hx, hb, hml, hown, hts⟩ (ct_m_say l dC dI H.size m0 mt mb mf ml mp mo n w3 xm xg dO u3 (((([]) ++ (az_dec (V1 / 16777216 % 256))) ++ [46]) ++ (az_dec (V1 / 65536 % 256))) hg3 46 (by omega)) (cwV 1 hts gXM_write_XM_say rfl rfl rfl (by decide +kernel) ⟨Nat.le_of_ble_eq_true rfl, Nat.le_of_ble_eq_true rfl⟩) hP hD hK hS hA [2, 3] [0, 1] [2] rfl rfl (by decide) (by decide) (by decide) rfl 0 rfl rfl rfl hl.1 rfl (Nat.le_of_ble_eq_true rfl) dXM_write_29 ⟨(Nat.zero_le _), (Nat.zero_le _)⟩ (fun u H locs hg4 hP hD hS => ?_)
    obtain ⟨u4, w4⟩ := u
    try dsimp only at hg4
    have hP : va_P (dC, dI) azCl [(mb, .inl (dB, 32, .inl B)), (mf, .inl (dF, 2, .inl Fm)), (m0, .inr (2, [.ref mt, .int (nI n), .ref mb, .ref mf, .ref ml, .ref mp, .int xm, .int xg, .ref mo, .int (nI w4)])), (mo, .inl (dO, 64, .inl u4))] H := hP
    have hD : va_D A [(mb, .inl (dB, 32, .inl B)), (mf, .inl (dF, 2, .inl Fm)), (m0, .inr (2, [.ref mt, .int (nI n), .ref mb, .ref mf, .ref ml, .ref mp, .int xm, .int xg, .ref mo, .int (nI w4)])), (mo, .inl (dO, 64, .inl u4))] := hD
    have hq4 := hg4.1
    try simp only [List.length_append, List.length_cons, List.length_nil] at hq4
    refine lv_aload_n hx hb dXM_write_32 rfl (lv_at hl 1 rfl) ?_
    refine lv_aload_n hx hb dXM_write_33 rfl (lv_at hl 1 rfl) ?_
    refine va_get (D := (dC, dI)) (ci := 2) (v := .ref mb) (C := RXM) (T := TXM) (N := 10) hx hb hts hiXM hown hK hP 2 rfl rfl 2 (by decide) hf13 (fun _ h9 => h9) rfl dXM_write_34 ?_
    refine lv_bipush (v := nI 12) hx hb dXM_write_37 (by decide) ?_
    refine lv_iload_n hx hb dXM_write_39 rfl (lv_at hl 0 rfl) ?_
    refine lv_iadd hx hb dXM_write_40 ?_
    refine tp_i (nI 14) (by decide) ?_
    refine ld_i hx hb hK hP 0 0 rfl rfl (by omega) (by omega) dXM_write_41 ?_
    refine tp_i (nI (V1 / 256 % 256)) (by have h := hB0 14 (by omega); rw [Nat.zero_add] at h; exact h) ?_
    have hd5 := az_dec_le (V1 / 256 % 256)
    refine wc_Vv (As := [.int (nI (V1 / 256 % 256))]) (rest := []) (wr := [(mb, .inl (dB, 32, .inl B)), (mf, .inl (dF, 2, .inl Fm))]) ⟨hx, hb, hml, hown, hts⟩ (ct_m_sayDecimal l dC dI H.size m0 mt mb mf ml mp mo n w4 xm xg dO u4 ((((([]) ++ (az_dec (V1 / 16777216 % 256))) ++ [46]) ++ (az_dec (V1 / 65536 % 256))) ++ [46]) hg4 (V1 / 256 % 256) (by omega) (by omega)) (cwV 1 hts gXM_write_XM_sayDecimal rfl rfl rfl (by decide +kernel) ⟨Nat.le_of_ble_eq_true rfl, Nat.le_of_ble_eq_true rfl⟩) hP hD hK hS hA [2, 3] [0, 1] [2] rfl rfl (by decide) (by decide) (by decide) rfl 0 rfl rfl rfl hl.1 rfl (Nat.le_of_ble_eq_true rfl) dXM_write_42 ⟨(Nat.zero_le _), (Nat.zero_le _)⟩ (fun u H locs hg5 hP hD hS => ?_)
    obtain ⟨u5, w5⟩ := u
    try dsimp only at hg5
    have hP : va_P (dC, dI) azCl [(mb, .inl (dB, 32, .inl B)), (mf, .inl (dF, 2, .inl Fm)), (m0, .inr (2, [.ref mt, .int (nI n), .ref mb, .ref mf, .ref ml, .ref mp, .int xm, .int xg, .ref mo, .int (nI w5)])), (mo, .inl (dO, 64, .inl u5))] H := hP
    have hD : va_D A [(mb, .inl (dB, 32, .inl B)), (mf, .inl (dF, 2, .inl Fm)), (m0, .inr (2, [.ref mt, .int (nI n), .ref mb, .ref mf, .ref ml, .ref mp, .int xm, .int xg, .ref mo, .int (nI w5)])), (mo, .inl (dO, 64, .inl u5))] := hD
    have hq5 := hg5.1
    try simp only [List.length_append, List.length_cons, List.length_nil] at hq5
    refine lv_iinc (v := nI 3) (lv' := [(1, .int (nI 3)), (0, .ref m0)]) hx hb dXM_write_45 hl (k := 0) rfl (by decide) (by decide) rfl (fun ls hl => ?_)
    refine lv_goto (tgt := 17) hx hb dXM_write_48 (by decide) ?_
    refine lv_iload_n hx hb dXM_write_17 rfl (lv_at hl 0 rfl) ?_
    refine lv_iconst (v := nI 4) hx hb dXM_write_18 (by decide) ?_
    refine lv_icmp_ge (tgt := 51) hx hb dXM_write_19 (by decide) (fun c => absurd c (by decide)) (fun _ => ?_)
    refine lv_iload_n hx hb dXM_write_22 rfl (lv_at hl 0 rfl) ?_
    refine lv_if_le (tgt := 32) hx hb dXM_write_23 (by decide) (fun c => absurd c (by decide)) (fun _ => ?_)
    refine lv_aload_n hx hb dXM_write_26 rfl (lv_at hl 1 rfl) ?_
    refine lv_bipush (v := nI 46) hx hb dXM_write_27 (by decide) ?_
    refine wc_Vv (As := [.int (nI 46)]) (rest := []) (wr := [(mb, .inl (dB, 32, .inl B)), (mf, .inl (dF, 2, .inl Fm))]) ⟨hx, hb, hml, hown, hts⟩ (ct_m_say l dC dI H.size m0 mt mb mf ml mp mo n w5 xm xg dO u5 (((((([]) ++ (az_dec (V1 / 16777216 % 256))) ++ [46]) ++ (az_dec (V1 / 65536 % 256))) ++ [46]) ++ (az_dec (V1 / 256 % 256))) hg5 46 (by omega)) (cwV 1 hts gXM_write_XM_say rfl rfl rfl (by decide +kernel) ⟨Nat.le_of_ble_eq_true rfl, Nat.le_of_ble_eq_true rfl⟩) hP hD hK hS hA [2, 3] [0, 1] [2] rfl rfl (by decide) (by decide) (by decide) rfl 0 rfl rfl rfl hl.1 rfl (Nat.le_of_ble_eq_true rfl) dXM_write_29 ⟨(Nat.zero_le _), (Nat.zero_le _)⟩ (fun u H locs hg6 hP hD hS => ?_)
    obtain ⟨u6, w6⟩ := u
    try dsimp only at hg6
    have hP : va_P (dC, dI) azCl [(mb, .inl (dB, 32, .inl B)), (mf, .inl (dF, 2, .inl Fm)), (m0, .inr (2, [.ref mt, .int (nI n), .ref mb, .ref mf, .ref ml, .ref mp, .int xm, .int xg, .ref mo, .int (nI w6)])), (mo, .inl (dO, 64, .inl u6))] H := hP
    have hD : va_D A [(mb, .inl (dB, 32, .inl B)), (mf, .inl (dF, 2, .inl Fm)), (m0, .inr (2, [.ref mt, .int (nI n), .ref mb, .ref mf, .ref ml, .ref mp, .int xm, .int xg, .ref mo, .int (nI w6)])), (mo, .inl (dO, 64, .inl u6))] := hD
    have hq6 := hg6.1
    try simp only [List.length_append, List.length_cons, List.length_nil] at hq6
    refine lv_aload_n hx hb dXM_write_32 rfl (lv_at hl 1 rfl) ?_
    refine lv_aload_n hx hb dXM_write_33 rfl (lv_at hl 1 rfl) ?_
    refine va_get (D := (dC, dI)) (ci := 2) (v := .ref mb) (C := RXM) (T := TXM) (N := 10) hx hb hts hiXM hown hK hP 2 rfl rfl 2 (by decide) hf13 (fun _ h9 => h9) rfl dXM_write_34 ?_
    refine lv_bipush (v := nI 12) hx hb dXM_write_37 (by decide) ?_
    refine lv_iload_n hx hb dXM_write_39 rfl (lv_at hl 0 rfl) ?_
    refine lv_iadd hx hb dXM_write_40 ?_
    refine tp_i (nI 15) (by decide) ?_
    refine ld_i hx hb hK hP 0 0 rfl rfl (by omega) (by omega) dXM_write_41 ?_
    refine tp_i (nI (V1 % 256)) (by have h := hB0 15 (by omega); have e : az_byte V1 15 = V1 % 256 := (by unfold az_byte; rw [Nat.sub_self, Nat.mul_zero, Nat.pow_zero, Nat.div_one]); rw [Nat.zero_add, e] at h; exact h) ?_
    have hd7 := az_dec_le (V1 % 256)
    refine wc_Vv (As := [.int (nI (V1 % 256))]) (rest := []) (wr := [(mb, .inl (dB, 32, .inl B)), (mf, .inl (dF, 2, .inl Fm))]) ⟨hx, hb, hml, hown, hts⟩ (ct_m_sayDecimal l dC dI H.size m0 mt mb mf ml mp mo n w6 xm xg dO u6 ((((((([]) ++ (az_dec (V1 / 16777216 % 256))) ++ [46]) ++ (az_dec (V1 / 65536 % 256))) ++ [46]) ++ (az_dec (V1 / 256 % 256))) ++ [46]) hg6 (V1 % 256) (by omega) (by omega)) (cwV 1 hts gXM_write_XM_sayDecimal rfl rfl rfl (by decide +kernel) ⟨Nat.le_of_ble_eq_true rfl, Nat.le_of_ble_eq_true rfl⟩) hP hD hK hS hA [2, 3] [0, 1] [2] rfl rfl (by decide) (by decide) (by decide) rfl 0 rfl rfl rfl hl.1 rfl (Nat.le_of_ble_eq_true rfl) dXM_write_42 ⟨(Nat.zero_le _), (Nat.zero_le _)⟩ (fun u H locs hg7 hP hD hS => ?_)
    obtain ⟨u7, w7⟩ := u
    try dsimp only at hg7
    have hP : va_P (dC, dI) azCl [(mb, .inl (dB, 32, .inl B)), (mf, .inl (dF, 2, .inl Fm)), (m0, .inr (2, [.ref mt, .int (nI n), .ref mb, .ref mf, .ref ml, .ref mp, .int xm, .int xg, .ref mo, .int (nI w7)])), (mo, .inl (dO, 64, .inl u7))] H := hP
    have hD : va_D A [(mb, .inl (dB, 32, .inl B)), (mf, .inl (dF, 2, .inl Fm)), (m0, .inr (2, [.ref mt, .int (nI n), .ref mb, .ref mf, .ref ml, .ref mp, .int xm, .int xg, .ref mo, .int (nI w7)])), (mo, .inl (dO, 64, .inl u7))] := hD
    have hq7 := hg7.1
    try simp only [List.length_append, List.length_cons, List.length_nil] at hq7
    refine lv_iinc (v := nI 4) (lv' := [(1, .int (nI 4)), (0, .ref m0)]) hx hb dXM_write_45 hl (k := 0) rfl (by decide) (by decide) rfl (fun ls hl => ?_)
    refine lv_goto (tgt := 17) hx hb dXM_write_48 (by decide) ?_
    refine lv_iload_n hx hb dXM_write_17 rfl (lv_at hl 0 rfl) ?_
    refine lv_iconst (v := nI 4) hx hb dXM_write_18 (by decide) ?_
    refine lv_icmp_ge (tgt := 51) hx hb dXM_write_19 (by decide) (fun _ => ?_) (fun c => absurd c (by decide))
    refine lv_aload_n hx hb dXM_write_51 rfl (lv_at hl 1 rfl) ?_
    refine va_get (D := (dC, dI)) (ci := 2) (v := .int (nI w7)) (C := RXM) (T := TXM) (N := 10) hx hb hts hiXM hown hK hP 2 rfl rfl 9 (by decide) hf65 (fun _ h9 => h9) rfl dXM_write_52 ?_
    exact wt_i hx hb hr ((u7, w7)) (⟨rfl, by have h := hg7; unfold az_out; rw [if_pos c12]; unfold az_w4; simpa only [List.append_assoc, List.nil_append] using h⟩) (hP.sub [2, 0, 1, 3] rfl) hK (hD.sub [2, 0, 1, 3] (by decide) rfl) hS dXM_write_55 hlocks
