set_option maxRecDepth 100000 in
set_option maxHeartbeats 4000000 in
theorem lw_c0 {p : Program} {l : Launch} {e : Env} {s : State} {m : MethodId} {below : List Frame} {meth : Method} {c : Code} {dC : Nat → ClassId} {dI : Nat → Nat → Nat} {A : Nat → Prop} {b L i : Nat} {xs : Nat → Int32} {h0 ht hw m0 mt mb mf ml mp mo : Nat} {cT cW dT dB dF dL dP dO : ClassId} (hL : L ≤ 3072) (hi : i + 6 ≤ L) (C0 : lw_At p s m meth c b L xs) (hA : ∀ q : Nat, s.heap.size ≤ q → A q) (hbA : ¬ A b) (hK : va_K (dC, dI) azCl [(cT, .byte), (cW, .byte), (dT, .int), (dB, .int), (dF, .int), (dL, .int), (dP, .int), (dO, .int)] s) (kk : lw_K p l e s m below meth c dC dI A b 314 i h0 ht hw m0 mt mb mf ml mp mo cT cW dT dB dF dL dP dO) : lw_K p l e s m below meth c dC dI A b 92 i h0 ht hw m0 mt mb mf ml mp mo cT cW dT dB dF dL dP dO := by
  obtain ⟨hx, hb, hr, hml, hown0, hts, hX, hbl, hlocks, hgv⟩ := C0
  have hown : s.vm.findClass RL = some m.cls := hown0
  intro a1 a2 a3 n w f g T O f1 l1 V1 f2 l2 V2 e1 e2 e3 e4 F B Fm Ln P G xm xg hI H locs hP hD hS ls hl
  obtain ⟨hn, hT, hF, hg, hw9, hG, h1, h2, hF0, hF1, hL0, hL1, hB0, hB1⟩ := hI
  refine lv_aload_n hx hb dL_law_92 rfl (lv_at hl 1 rfl) ?_
  refine lv_aload_n hx hb dL_law_93 rfl (lv_at hl 0 rfl) ?_
  refine lv_iload_n hx hb dL_law_94 rfl (lv_at hl 3 rfl) ?_
  refine lv_iconst (v := nI 1) hx hb dL_law_95 (by decide) ?_
  refine lv_iadd hx hb dL_law_96 ?_
  refine tp_i (nI (i + 1)) (nI_add _ _) ?_
  refine sl_i hx hb hX hbl hbA hS (by omega) (by omega) dL_law_97 ?_
  refine lv_aload_n hx hb dL_law_98 rfl (lv_at hl 0 rfl) ?_
  refine lv_iload_n hx hb dL_law_99 rfl (lv_at hl 3 rfl) ?_
  refine lv_iconst (v := nI 2) hx hb dL_law_100 (by decide) ?_
  refine lv_iadd hx hb dL_law_101 ?_
  refine tp_i (nI (i + 2)) (nI_add _ _) ?_
  refine sl_i hx hb hX hbl hbA hS (by omega) (by omega) dL_law_102 ?_
  refine lv_aload_n hx hb dL_law_103 rfl (lv_at hl 0 rfl) ?_
  refine lv_iload_n hx hb dL_law_104 rfl (lv_at hl 3 rfl) ?_
  refine lv_iconst (v := nI 3) hx hb dL_law_105 (by decide) ?_
  refine lv_iadd hx hb dL_law_106 ?_
  refine tp_i (nI (i + 3)) (nI_add _ _) ?_
  refine sl_i hx hb hX hbl hbA hS (by omega) (by omega) dL_law_107 ?_
  refine lv_aload_n hx hb dL_law_108 rfl (lv_at hl 0 rfl) ?_
  refine lv_iload_n hx hb dL_law_109 rfl (lv_at hl 3 rfl) ?_
  refine lv_iconst (v := nI 4) hx hb dL_law_110 (by decide) ?_
  refine lv_iadd hx hb dL_law_111 ?_
  refine tp_i (nI (i + 4)) (nI_add _ _) ?_
  refine sl_i hx hb hX hbl hbA hS (by omega) (by omega) dL_law_112 ?_
  refine lv_aload_n hx hb dL_law_113 rfl (lv_at hl 0 rfl) ?_
  refine lv_iload_n hx hb dL_law_114 rfl (lv_at hl 3 rfl) ?_
  refine lv_iconst (v := nI 5) hx hb dL_law_115 (by decide) ?_
  refine lv_iadd hx hb dL_law_116 ?_
  refine tp_i (nI (i + 5)) (nI_add _ _) ?_
  refine sl_i hx hb hX hbl hbA hS (by omega) (by omega) dL_law_117 ?_
  refine wc_Vi (As := [.int (xs (i + 1)), .int (xs (i + 2)), .int (xs (i + 3)), .int (xs (i + 4)), .int (xs (i + 5))]) (rest := []) (wr := [(hw, .inl (cW, 39, .inl g)), (a1, .inr (0, [.int (nI f1), .int (nI l1), .long (lN (V1 / 18446744073709551616)), .long (lN (V1 % 18446744073709551616))])), (a2, .inr (0, [.int (nI f2), .int (nI l2), .long (lN (V2 / 18446744073709551616)), .long (lN (V2 % 18446744073709551616))])), (a3, .inr (0, [.int e1, .int e2, .long e3, .long e4])), (m0, .inr (2, [.ref mt, .int (nI n), .ref mb, .ref mf, .ref ml, .ref mp, .int xm, .int xg, .ref mo, .int (nI w)])), (mt, .inl (dT, 60, .inl F)), (mb, .inl (dB, 32, .inl B)), (mf, .inl (dF, 2, .inl Fm)), (ml, .inl (dL, 2, .inl Ln)), (mp, .inl (dP, 8, .inl P)), (mo, .inl (dO, 64, .inl G))]) ⟨hx, hb, hml, hown, hts⟩ (ct_feed l dC dI H.size h0 ht hw a1 a2 a3 n w cT f T hT hn (xs (i + 1)) (xs (i + 2)) (xs (i + 3)) (xs (i + 4)) (xs (i + 5))) (cwV 5 hts gL_law_X1_feed rfl rfl rfl (by decide +kernel) ⟨Nat.le_of_ble_eq_true rfl, Nat.le_of_ble_eq_true rfl⟩) hP hD hK hS hA [0, 1] [2, 3, 4, 5, 6, 7, 8, 9, 10, 11, 12] [0] rfl rfl (by decide) (by decide) (by decide) rfl 0 rfl rfl rfl hl.1 rfl (Nat.le_of_ble_eq_true rfl) dL_law_118 ⟨(Nat.le_of_ble_eq_true rfl), (Nat.le_of_ble_eq_true rfl)⟩ (fun r1 u H locs hp1 hP hD hS => ?_)
  obtain ⟨f5, n5, T5⟩ := u
  try dsimp only at hp1
  have hP : va_P (dC, dI) azCl [(hw, .inl (cW, 39, .inl g)), (a1, .inr (0, [.int (nI f1), .int (nI l1), .long (lN (V1 / 18446744073709551616)), .long (lN (V1 % 18446744073709551616))])), (a2, .inr (0, [.int (nI f2), .int (nI l2), .long (lN (V2 / 18446744073709551616)), .long (lN (V2 % 18446744073709551616))])), (a3, .inr (0, [.int e1, .int e2, .long e3, .long e4])), (m0, .inr (2, [.ref mt, .int (nI n), .ref mb, .ref mf, .ref ml, .ref mp, .int xm, .int xg, .ref mo, .int (nI w)])), (mt, .inl (dT, 60, .inl F)), (mb, .inl (dB, 32, .inl B)), (mf, .inl (dF, 2, .inl Fm)), (ml, .inl (dL, 2, .inl Ln)), (mp, .inl (dP, 8, .inl P)), (mo, .inl (dO, 64, .inl G)), (h0, .inr (1, [.ref ht, .int (nI n5), .ref hw, .int (nI w), .ref a1, .ref a2, .ref a3])), (ht, .inl (cT, 60, .inl f5))] H := hP
  have hD : va_D A [(hw, .inl (cW, 39, .inl g)), (a1, .inr (0, [.int (nI f1), .int (nI l1), .long (lN (V1 / 18446744073709551616)), .long (lN (V1 % 18446744073709551616))])), (a2, .inr (0, [.int (nI f2), .int (nI l2), .long (lN (V2 / 18446744073709551616)), .long (lN (V2 % 18446744073709551616))])), (a3, .inr (0, [.int e1, .int e2, .long e3, .long e4])), (m0, .inr (2, [.ref mt, .int (nI n), .ref mb, .ref mf, .ref ml, .ref mp, .int xm, .int xg, .ref mo, .int (nI w)])), (mt, .inl (dT, 60, .inl F)), (mb, .inl (dB, 32, .inl B)), (mf, .inl (dF, 2, .inl Fm)), (ml, .inl (dL, 2, .inl Ln)), (mp, .inl (dP, 8, .inl P)), (mo, .inl (dO, 64, .inl G)), (h0, .inr (1, [.ref ht, .int (nI n5), .ref hw, .int (nI w), .ref a1, .ref a2, .ref a3])), (ht, .inl (cT, 60, .inl f5))] := hD
  refine lv_aload_n hx hb dL_law_121 rfl (lv_at hl 2 rfl) ?_
  refine lv_aload_n hx hb dL_law_122 rfl (lv_at hl 0 rfl) ?_
  refine lv_iload_n hx hb dL_law_123 rfl (lv_at hl 3 rfl) ?_
  refine lv_iconst (v := nI 1) hx hb dL_law_124 (by decide) ?_
  refine lv_iadd hx hb dL_law_125 ?_
  refine tp_i (nI (i + 1)) (nI_add _ _) ?_
  refine sl_i hx hb hX hbl hbA hS (by omega) (by omega) dL_law_126 ?_
  refine lv_aload_n hx hb dL_law_127 rfl (lv_at hl 0 rfl) ?_
  refine lv_iload_n hx hb dL_law_128 rfl (lv_at hl 3 rfl) ?_
  refine lv_iconst (v := nI 2) hx hb dL_law_129 (by decide) ?_
  refine lv_iadd hx hb dL_law_130 ?_
  refine tp_i (nI (i + 2)) (nI_add _ _) ?_
  refine sl_i hx hb hX hbl hbA hS (by omega) (by omega) dL_law_131 ?_
  refine lv_aload_n hx hb dL_law_132 rfl (lv_at hl 0 rfl) ?_
  refine lv_iload_n hx hb dL_law_133 rfl (lv_at hl 3 rfl) ?_
  refine lv_iconst (v := nI 3) hx hb dL_law_134 (by decide) ?_
  refine lv_iadd hx hb dL_law_135 ?_
  refine tp_i (nI (i + 3)) (nI_add _ _) ?_
  refine sl_i hx hb hX hbl hbA hS (by omega) (by omega) dL_law_136 ?_
  refine lv_aload_n hx hb dL_law_137 rfl (lv_at hl 0 rfl) ?_
  refine lv_iload_n hx hb dL_law_138 rfl (lv_at hl 3 rfl) ?_
  refine lv_iconst (v := nI 4) hx hb dL_law_139 (by decide) ?_
  refine lv_iadd hx hb dL_law_140 ?_
  refine tp_i (nI (i + 4)) (nI_add _ _) ?_
  refine sl_i hx hb hX hbl hbA hS (by omega) (by omega) dL_law_141 ?_
  refine lv_aload_n hx hb dL_law_142 rfl (lv_at hl 0 rfl) ?_
  refine lv_iload_n hx hb dL_law_143 rfl (lv_at hl 3 rfl) ?_
  refine lv_iconst (v := nI 5) hx hb dL_law_144 (by decide) ?_
  refine lv_iadd hx hb dL_law_145 ?_
  refine tp_i (nI (i + 5)) (nI_add _ _) ?_
  refine sl_i hx hb hX hbl hbA hS (by omega) (by omega) dL_law_146 ?_
  refine wc_Vi (As := [.int (xs (i + 1)), .int (xs (i + 2)), .int (xs (i + 3)), .int (xs (i + 4)), .int (xs (i + 5))]) (rest := [.int r1]) (wr := [(hw, .inl (cW, 39, .inl g)), (a1, .inr (0, [.int (nI f1), .int (nI l1), .long (lN (V1 / 18446744073709551616)), .long (lN (V1 % 18446744073709551616))])), (a2, .inr (0, [.int (nI f2), .int (nI l2), .long (lN (V2 / 18446744073709551616)), .long (lN (V2 % 18446744073709551616))])), (a3, .inr (0, [.int e1, .int e2, .long e3, .long e4])), (mb, .inl (dB, 32, .inl B)), (mf, .inl (dF, 2, .inl Fm)), (ml, .inl (dL, 2, .inl Ln)), (mp, .inl (dP, 8, .inl P)), (mo, .inl (dO, 64, .inl G)), (h0, .inr (1, [.ref ht, .int (nI n5), .ref hw, .int (nI w), .ref a1, .ref a2, .ref a3])), (ht, .inl (cT, 60, .inl f5))]) ⟨hx, hb, hml, hown, hts⟩ (ct_m_feed l dC dI H.size m0 mt mb mf ml mp mo n w xm xg dT F T hF hn (xs (i + 1)) (xs (i + 2)) (xs (i + 3)) (xs (i + 4)) (xs (i + 5))) (cwV 5 hts gL_law_XM_feed rfl rfl rfl (by decide +kernel) ⟨Nat.le_of_ble_eq_true rfl, Nat.le_of_ble_eq_true rfl⟩) hP hD hK hS hA [4, 5] [0, 1, 2, 3, 6, 7, 8, 9, 10, 11, 12] [2] rfl rfl (by decide) (by decide) (by decide) rfl 0 rfl rfl rfl hl.1 rfl (Nat.le_of_ble_eq_true rfl) dL_law_147 ⟨(Nat.le_of_ble_eq_true rfl), (Nat.le_of_ble_eq_true rfl)⟩ (fun r2 u H locs hp2 hP hD hS => ?_)
  obtain ⟨F6, n6, T6⟩ := u
  try dsimp only at hp2
  have hP : va_P (dC, dI) azCl [(hw, .inl (cW, 39, .inl g)), (a1, .inr (0, [.int (nI f1), .int (nI l1), .long (lN (V1 / 18446744073709551616)), .long (lN (V1 % 18446744073709551616))])), (a2, .inr (0, [.int (nI f2), .int (nI l2), .long (lN (V2 / 18446744073709551616)), .long (lN (V2 % 18446744073709551616))])), (a3, .inr (0, [.int e1, .int e2, .long e3, .long e4])), (mb, .inl (dB, 32, .inl B)), (mf, .inl (dF, 2, .inl Fm)), (ml, .inl (dL, 2, .inl Ln)), (mp, .inl (dP, 8, .inl P)), (mo, .inl (dO, 64, .inl G)), (h0, .inr (1, [.ref ht, .int (nI n5), .ref hw, .int (nI w), .ref a1, .ref a2, .ref a3])), (ht, .inl (cT, 60, .inl f5)), (m0, .inr (2, [.ref mt, .int (nI n6), .ref mb, .ref mf, .ref ml, .ref mp, .int xm, .int xg, .ref mo, .int (nI w)])), (mt, .inl (dT, 60, .inl F6))] H := hP
  have hD : va_D A [(hw, .inl (cW, 39, .inl g)), (a1, .inr (0, [.int (nI f1), .int (nI l1), .long (lN (V1 / 18446744073709551616)), .long (lN (V1 % 18446744073709551616))])), (a2, .inr (0, [.int (nI f2), .int (nI l2), .long (lN (V2 / 18446744073709551616)), .long (lN (V2 % 18446744073709551616))])), (a3, .inr (0, [.int e1, .int e2, .long e3, .long e4])), (mb, .inl (dB, 32, .inl B)), (mf, .inl (dF, 2, .inl Fm)), (ml, .inl (dL, 2, .inl Ln)), (mp, .inl (dP, 8, .inl P)), (mo, .inl (dO, 64, .inl G)), (h0, .inr (1, [.ref ht, .int (nI n5), .ref hw, .int (nI w), .ref a1, .ref a2, .ref a3])), (ht, .inl (cT, 60, .inl f5)), (m0, .inr (2, [.ref mt, .int (nI n6), .ref mb, .ref mf, .ref ml, .ref mp, .int xm, .int xg, .ref mo, .int (nI w)])), (mt, .inl (dT, 60, .inl F6))] := hD
  rcases hp1 with ⟨g1, g2, g3, g4, g5⟩ | ⟨g1, g2, g3, g4, g5⟩ <;> rcases hp2 with ⟨k1, k2, k3, k4, k5⟩ | ⟨k1, k2, k3, k4, k5⟩
  · rw [g4] at hP hD g3
    rw [g5] at g3
    rw [k4] at hP hD k3
    rw [k5] at k3
    rw [g2, k2]
    refine lv_icmp_eq (tgt := 314) hx hb dL_law_150 (by decide) (fun _ => ?_) (fun c => absurd (rfl) c)
    exact kk a1 a2 a3 n w f5 g T O f1 l1 V1 f2 l2 V2 e1 e2 e3 e4 F6 B Fm Ln P G xm xg ⟨hn, g3, k3, hg, hw9, hG, h1, h2, hF0, hF1, hL0, hL1, hB0, hB1⟩ _ _ (hP.sub [9, 10, 0, 1, 2, 3, 11, 12, 4, 5, 6, 7, 8] rfl) (hD.sub [9, 10, 0, 1, 2, 3, 11, 12, 4, 5, 6, 7, 8] (by decide) rfl) hS ls (lv_sub hl [0, 1, 2, 3] rfl)
  · exact absurd g1 (by omega)
  · exact absurd g1 (by omega)
  · rw [g4] at hP hD g3
    rw [g5] at g3
    rw [k4] at hP hD k3
    rw [k5] at k3
    rw [g2, k2]
    refine lv_icmp_eq (tgt := 314) hx hb dL_law_150 (by decide) (fun _ => ?_) (fun c => absurd (rfl) c)
    exact kk a1 a2 a3 (n + 20) w f5 g (az_a20 T n (xs (i + 1)) (xs (i + 2)) (xs (i + 3)) (xs (i + 4)) (xs (i + 5))) O f1 l1 V1 f2 l2 V2 e1 e2 e3 e4 F6 B Fm Ln P G xm xg ⟨g1, g3, k3, hg, hw9, hG, h1, h2, hF0, hF1, hL0, hL1, hB0, hB1⟩ _ _ (hP.sub [9, 10, 0, 1, 2, 3, 11, 12, 4, 5, 6, 7, 8] rfl) (hD.sub [9, 10, 0, 1, 2, 3, 11, 12, 4, 5, 6, 7, 8] (by decide) rfl) hS ls (lv_sub hl [0, 1, 2, 3] rfl)
