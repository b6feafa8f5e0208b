set_option maxRecDepth 100000 in
set_option maxHeartbeats 4000000 in
theorem lw_c1 {p : Program} {l : Launch} {e : Env} {s : State} {m : MethodId} {below : List Frame} {meth : Method} {c : Code} {dC : Nat → ClassId} {dI : Nat → Nat → Nat} {A : Nat → Prop} {b L i : Nat} {xs : Nat → Int32} {h0 ht hw m0 mt mb mf ml mp mo : Nat} {cT cW dT dB dF dL dP dO : ClassId} (hL : L ≤ 3072) (hi : i + 6 ≤ L) (C0 : lw_At p s m meth c b L xs) (hA : ∀ q : Nat, s.heap.size ≤ q → A q) (hbA : ¬ A b) (hK : va_K (dC, dI) azCl [(cT, .byte), (cW, .byte), (dT, .int), (dB, .int), (dF, .int), (dL, .int), (dP, .int), (dO, .int)] s) (kk : lw_K p l e s m below meth c dC dI A b 314 i h0 ht hw m0 mt mb mf ml mp mo cT cW dT dB dF dL dP dO) : lw_K p l e s m below meth c dC dI A b 155 i h0 ht hw m0 mt mb mf ml mp mo cT cW dT dB dF dL dP dO := by
  obtain ⟨hx, hb, hr, hml, hown0, hts, hX, hbl, hlocks, hgv⟩ := C0
  have hown : s.vm.findClass RL = some m.cls := hown0
  intro a1 a2 a3 n w f g T O f1 l1 V1 f2 l2 V2 e1 e2 e3 e4 F B Fm Ln P G xm xg hI H locs hP hD hS ls hl
  obtain ⟨hn, hT, hF, hg, hw9, hG, h1, h2, hF0, hF1, hL0, hL1, hB0, hB1⟩ := hI
  refine lv_aload_n hx hb dL_law_155 rfl (lv_at hl 1 rfl) ?_
  refine lv_aload_n hx hb dL_law_156 rfl (lv_at hl 0 rfl) ?_
  refine lv_iload_n hx hb dL_law_157 rfl (lv_at hl 3 rfl) ?_
  refine lv_iconst (v := nI 1) hx hb dL_law_158 (by decide) ?_
  refine lv_iadd hx hb dL_law_159 ?_
  refine tp_i (nI (i + 1)) (nI_add _ _) ?_
  refine sl_i hx hb hX hbl hbA hS (by omega) (by omega) dL_law_160 ?_
  refine wc_Vi (As := [.int (xs (i + 1))]) (rest := []) (wr := [(ht, .inl (cT, 60, .inl f)), (hw, .inl (cW, 39, .inl g)), (a1, .inr (0, [.int (nI f1), .int (nI l1), .long (lN (V1 / 18446744073709551616)), .long (lN (V1 % 18446744073709551616))])), (a2, .inr (0, [.int (nI f2), .int (nI l2), .long (lN (V2 / 18446744073709551616)), .long (lN (V2 % 18446744073709551616))])), (a3, .inr (0, [.int e1, .int e2, .long e3, .long e4])), (m0, .inr (2, [.ref mt, .int (nI n), .ref mb, .ref mf, .ref ml, .ref mp, .int xm, .int xg, .ref mo, .int (nI w)])), (mt, .inl (dT, 60, .inl F)), (mb, .inl (dB, 32, .inl B)), (mf, .inl (dF, 2, .inl Fm)), (ml, .inl (dL, 2, .inl Ln)), (mp, .inl (dP, 8, .inl P)), (mo, .inl (dO, 64, .inl G))]) ⟨hx, hb, hml, hown, hts⟩ (ct_end l dC dI H.size h0 ht hw a1 a2 a3 n w (xs (i + 1)) hn) (cwV 1 hts gL_law_X1_end rfl rfl rfl (by decide +kernel) ⟨Nat.le_of_ble_eq_true rfl, Nat.le_of_ble_eq_true rfl⟩) hP hD hK hS hA [0] [1, 2, 3, 4, 5, 6, 7, 8, 9, 10, 11, 12] [] rfl rfl (by decide) (by decide) (by decide) rfl 0 rfl rfl rfl hl.1 rfl (Nat.le_of_ble_eq_true rfl) dL_law_161 ⟨(Nat.le_of_ble_eq_true rfl), (Nat.le_of_ble_eq_true rfl)⟩ (fun r1 n5 H locs hp1 hP hD hS => ?_)
  try dsimp only at hp1
  have hP : va_P (dC, dI) azCl [(ht, .inl (cT, 60, .inl f)), (hw, .inl (cW, 39, .inl g)), (a1, .inr (0, [.int (nI f1), .int (nI l1), .long (lN (V1 / 18446744073709551616)), .long (lN (V1 % 18446744073709551616))])), (a2, .inr (0, [.int (nI f2), .int (nI l2), .long (lN (V2 / 18446744073709551616)), .long (lN (V2 % 18446744073709551616))])), (a3, .inr (0, [.int e1, .int e2, .long e3, .long e4])), (m0, .inr (2, [.ref mt, .int (nI n), .ref mb, .ref mf, .ref ml, .ref mp, .int xm, .int xg, .ref mo, .int (nI w)])), (mt, .inl (dT, 60, .inl F)), (mb, .inl (dB, 32, .inl B)), (mf, .inl (dF, 2, .inl Fm)), (ml, .inl (dL, 2, .inl Ln)), (mp, .inl (dP, 8, .inl P)), (mo, .inl (dO, 64, .inl G)), (h0, .inr (1, [.ref ht, .int (nI n5), .ref hw, .int (nI w), .ref a1, .ref a2, .ref a3]))] H := hP
  have hD : va_D A [(ht, .inl (cT, 60, .inl f)), (hw, .inl (cW, 39, .inl g)), (a1, .inr (0, [.int (nI f1), .int (nI l1), .long (lN (V1 / 18446744073709551616)), .long (lN (V1 % 18446744073709551616))])), (a2, .inr (0, [.int (nI f2), .int (nI l2), .long (lN (V2 / 18446744073709551616)), .long (lN (V2 % 18446744073709551616))])), (a3, .inr (0, [.int e1, .int e2, .long e3, .long e4])), (m0, .inr (2, [.ref mt, .int (nI n), .ref mb, .ref mf, .ref ml, .ref mp, .int xm, .int xg, .ref mo, .int (nI w)])), (mt, .inl (dT, 60, .inl F)), (mb, .inl (dB, 32, .inl B)), (mf, .inl (dF, 2, .inl Fm)), (ml, .inl (dL, 2, .inl Ln)), (mp, .inl (dP, 8, .inl P)), (mo, .inl (dO, 64, .inl G)), (h0, .inr (1, [.ref ht, .int (nI n5), .ref hw, .int (nI w), .ref a1, .ref a2, .ref a3]))] := hD
  refine lv_aload_n hx hb dL_law_164 rfl (lv_at hl 2 rfl) ?_
  refine lv_aload_n hx hb dL_law_165 rfl (lv_at hl 0 rfl) ?_
  refine lv_iload_n hx hb dL_law_166 rfl (lv_at hl 3 rfl) ?_
  refine lv_iconst (v := nI 1) hx hb dL_law_167 (by decide) ?_
  refine lv_iadd hx hb dL_law_168 ?_
  refine tp_i (nI (i + 1)) (nI_add _ _) ?_
  refine sl_i hx hb hX hbl hbA hS (by omega) (by omega) dL_law_169 ?_
  refine wc_Vi (As := [.int (xs (i + 1))]) (rest := [.int r1]) (wr := [(ht, .inl (cT, 60, .inl f)), (hw, .inl (cW, 39, .inl g)), (a1, .inr (0, [.int (nI f1), .int (nI l1), .long (lN (V1 / 18446744073709551616)), .long (lN (V1 % 18446744073709551616))])), (a2, .inr (0, [.int (nI f2), .int (nI l2), .long (lN (V2 / 18446744073709551616)), .long (lN (V2 % 18446744073709551616))])), (a3, .inr (0, [.int e1, .int e2, .long e3, .long e4])), (mt, .inl (dT, 60, .inl F)), (mb, .inl (dB, 32, .inl B)), (mf, .inl (dF, 2, .inl Fm)), (ml, .inl (dL, 2, .inl Ln)), (mp, .inl (dP, 8, .inl P)), (mo, .inl (dO, 64, .inl G)), (h0, .inr (1, [.ref ht, .int (nI n5), .ref hw, .int (nI w), .ref a1, .ref a2, .ref a3]))]) ⟨hx, hb, hml, hown, hts⟩ (ct_m_end l dC dI H.size m0 mt mb mf ml mp mo n w xm xg (xs (i + 1)) hn) (cwV 1 hts gL_law_XM_end rfl rfl rfl (by decide +kernel) ⟨Nat.le_of_ble_eq_true rfl, Nat.le_of_ble_eq_true rfl⟩) hP hD hK hS hA [5] [0, 1, 2, 3, 4, 6, 7, 8, 9, 10, 11, 12] [] rfl rfl (by decide) (by decide) (by decide) rfl 0 rfl rfl rfl hl.1 rfl (Nat.le_of_ble_eq_true rfl) dL_law_170 ⟨(Nat.le_of_ble_eq_true rfl), (Nat.le_of_ble_eq_true rfl)⟩ (fun r2 n6 H locs hp2 hP hD hS => ?_)
  try dsimp only at hp2
  have hP : va_P (dC, dI) azCl [(ht, .inl (cT, 60, .inl f)), (hw, .inl (cW, 39, .inl g)), (a1, .inr (0, [.int (nI f1), .int (nI l1), .long (lN (V1 / 18446744073709551616)), .long (lN (V1 % 18446744073709551616))])), (a2, .inr (0, [.int (nI f2), .int (nI l2), .long (lN (V2 / 18446744073709551616)), .long (lN (V2 % 18446744073709551616))])), (a3, .inr (0, [.int e1, .int e2, .long e3, .long e4])), (mt, .inl (dT, 60, .inl F)), (mb, .inl (dB, 32, .inl B)), (mf, .inl (dF, 2, .inl Fm)), (ml, .inl (dL, 2, .inl Ln)), (mp, .inl (dP, 8, .inl P)), (mo, .inl (dO, 64, .inl G)), (h0, .inr (1, [.ref ht, .int (nI n5), .ref hw, .int (nI w), .ref a1, .ref a2, .ref a3])), (m0, .inr (2, [.ref mt, .int (nI n6), .ref mb, .ref mf, .ref ml, .ref mp, .int xm, .int xg, .ref mo, .int (nI w)]))] H := hP
  have hD : va_D A [(ht, .inl (cT, 60, .inl f)), (hw, .inl (cW, 39, .inl g)), (a1, .inr (0, [.int (nI f1), .int (nI l1), .long (lN (V1 / 18446744073709551616)), .long (lN (V1 % 18446744073709551616))])), (a2, .inr (0, [.int (nI f2), .int (nI l2), .long (lN (V2 / 18446744073709551616)), .long (lN (V2 % 18446744073709551616))])), (a3, .inr (0, [.int e1, .int e2, .long e3, .long e4])), (mt, .inl (dT, 60, .inl F)), (mb, .inl (dB, 32, .inl B)), (mf, .inl (dF, 2, .inl Fm)), (ml, .inl (dL, 2, .inl Ln)), (mp, .inl (dP, 8, .inl P)), (mo, .inl (dO, 64, .inl G)), (h0, .inr (1, [.ref ht, .int (nI n5), .ref hw, .int (nI w), .ref a1, .ref a2, .ref a3])), (m0, .inr (2, [.ref mt, .int (nI n6), .ref mb, .ref mf, .ref ml, .ref mp, .int xm, .int xg, .ref mo, .int (nI w)]))] := hD
  obtain ⟨gn, ⟨g1, g2, g3⟩ | ⟨g1, g2, g3, g4⟩⟩ := hp1 <;> obtain ⟨kn, ⟨k1, k2, k3⟩ | ⟨k1, k2, k3, k4⟩⟩ := hp2
  · rw [g3] at hP hD
    rw [k3] at hP hD
    rw [g2, k2]
    refine lv_icmp_eq (tgt := 314) hx hb dL_law_173 (by decide) (fun _ => ?_) (fun c => absurd (rfl) c)
    exact kk a1 a2 a3 n w f g T O f1 l1 V1 f2 l2 V2 e1 e2 e3 e4 F B Fm Ln P G xm xg ⟨hn, hT, hF, hg, hw9, hG, h1, h2, hF0, hF1, hL0, hL1, hB0, hB1⟩ _ _ (hP.sub [11, 0, 1, 2, 3, 4, 12, 5, 6, 7, 8, 9, 10] rfl) (hD.sub [11, 0, 1, 2, 3, 4, 12, 5, 6, 7, 8, 9, 10] (by decide) rfl) hS ls (lv_sub hl [0, 1, 2, 3] rfl)
  · rcases g1 with q | q
    · exact absurd q k1
    · exact absurd k2 q
  · rcases k1 with q | q
    · exact absurd q g1
    · exact absurd g2 q
  · have e56 : n6 = n5 := (nI_eq (by omega) (by omega)).mp (k4.symm.trans g4)
    rw [e56] at hP hD kn
    rw [g3, k3]
    refine lv_icmp_eq (tgt := 314) hx hb dL_law_173 (by decide) (fun _ => ?_) (fun c => absurd (rfl) c)
    exact kk a1 a2 a3 n5 w f g T O f1 l1 V1 f2 l2 V2 e1 e2 e3 e4 F B Fm Ln P G xm xg ⟨by omega, az_tp_le hT gn, az_mt_le hF kn, hg, hw9, hG, h1, h2, hF0, hF1, hL0, hL1, hB0, hB1⟩ _ _ (hP.sub [11, 0, 1, 2, 3, 4, 12, 5, 6, 7, 8, 9, 10] rfl) (hD.sub [11, 0, 1, 2, 3, 4, 12, 5, 6, 7, 8, 9, 10] (by decide) rfl) hS ls (lv_sub hl [0, 1, 2, 3] rfl)
