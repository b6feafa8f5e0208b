set_option maxRecDepth 100000 in
set_option maxHeartbeats 4000000 in
theorem lw_c10 {p : Program} {l : Launch} {e : Env} {s : State} {m : MethodId} {below : List Frame} {meth : Method} {c : Code} {dC : Nat → ClassId} {dI : Nat → Nat → Nat} {A : Nat → Prop} {b L i : Nat} {xs : Nat → Int32} {h0 ht hw m0 mt mb mf ml mp mo : Nat} {cT cW dT dB dF dL dP dO : ClassId} (hL : L ≤ 3072) (hi : i + 6 ≤ L) (C0 : lw_At p s m meth c b L xs) (hA : ∀ q : Nat, s.heap.size ≤ q → A q) (hbA : ¬ A b) (hK : va_K (dC, dI) azCl [(cT, .byte), (cW, .byte), (dT, .int), (dB, .int), (dF, .int), (dL, .int), (dP, .int), (dO, .int)] s) (kk : lw_K p l e s m below meth c dC dI A b 314 i h0 ht hw m0 mt mb mf ml mp mo cT cW dT dB dF dL dP dO) : lw_K p l e s m below meth c dC dI A b 290 i h0 ht hw m0 mt mb mf ml mp mo cT cW dT dB dF dL dP dO := by
  obtain ⟨hx, hb, hr, hml, hown0, hts, hX, hbl, hlocks, hgv⟩ := C0
  have hown : s.vm.findClass RL = some m.cls := hown0
  intro a1 a2 a3 n w f g T O f1 l1 V1 f2 l2 V2 e1 e2 e3 e4 F B Fm Ln P G xm xg hI H locs hP hD hS ls hl
  obtain ⟨hn, hT, hF, hg, hw9, hG, h1, h2, hF0, hF1, hL0, hL1, hB0, hB1⟩ := hI
  refine lv_aload_n hx hb dL_law_290 rfl (lv_at hl 1 rfl) ?_
  refine lv_aload_n hx hb dL_law_291 rfl (lv_at hl 0 rfl) ?_
  refine lv_iload_n hx hb dL_law_292 rfl (lv_at hl 3 rfl) ?_
  refine lv_iconst (v := nI 1) hx hb dL_law_293 (by decide) ?_
  refine lv_iadd hx hb dL_law_294 ?_
  refine tp_i (nI (i + 1)) (nI_add _ _) ?_
  refine sl_i hx hb hX hbl hbA hS (by omega) (by omega) dL_law_295 ?_
  refine rc_Vl (As := [.int (xs (i + 1))]) (rest := []) ⟨hx, hb, hml, hown, hts⟩ (ct_bits l dC dI h0 ht hw a1 a2 a3 n w f1 l1 V1 (xs (i + 1))) (cwV 1 hts gL_law_X1_bits rfl rfl rfl (by decide +kernel) ⟨Nat.le_of_ble_eq_true rfl, Nat.le_of_ble_eq_true rfl⟩) (hP.sub [0, 3] rfl) (hK.sub [] rfl) 0 rfl rfl rfl hl.1 rfl (Nat.le_of_ble_eq_true rfl) dL_law_296 ⟨(Nat.le_of_ble_eq_true rfl), (Nat.le_of_ble_eq_true rfl)⟩ ?_
  refine lv_aload_n hx hb dL_law_299 rfl (lv_at hl 2 rfl) ?_
  refine lv_aload_n hx hb dL_law_300 rfl (lv_at hl 0 rfl) ?_
  refine lv_iload_n hx hb dL_law_301 rfl (lv_at hl 3 rfl) ?_
  refine lv_iconst (v := nI 1) hx hb dL_law_302 (by decide) ?_
  refine lv_iadd hx hb dL_law_303 ?_
  refine tp_i (nI (i + 1)) (nI_add _ _) ?_
  refine sl_i hx hb hX hbl hbA hS (by omega) (by omega) dL_law_304 ?_
  refine rc_Vl (As := [.int (xs (i + 1))]) (rest := [.long (az_bits V1 (xs (i + 1)))]) ⟨hx, hb, hml, hown, hts⟩ (ct_m_bits l dC dI m0 mt mb mf ml mp mo n w xm xg dB B V1 (az_ad_V h1) hB0 (xs (i + 1))) (cwV 1 hts gL_law_XM_bits rfl rfl rfl (by decide +kernel) ⟨Nat.le_of_ble_eq_true rfl, Nat.le_of_ble_eq_true rfl⟩) (hP.sub [6, 8] rfl) (hK.sub [3] rfl) 0 rfl rfl rfl hl.1 rfl (Nat.le_of_ble_eq_true rfl) dL_law_305 ⟨(Nat.le_of_ble_eq_true rfl), (Nat.le_of_ble_eq_true rfl)⟩ ?_
  refine W.lcmp hx hb dL_law_308 ?_
  refine lv_if_eq (tgt := 314) hx hb dL_law_309 (by decide) (fun _ => ?_) (fun c => absurd (az_cmp0.mpr rfl) c)
  exact kk a1 a2 a3 n w f g T O f1 l1 V1 f2 l2 V2 e1 e2 e3 e4 F B Fm Ln P G xm xg ⟨hn, hT, hF, hg, hw9, hG, h1, h2, hF0, hF1, hL0, hL1, hB0, hB1⟩ _ _ (hP.sub [0, 1, 2, 3, 4, 5, 6, 7, 8, 9, 10, 11, 12] rfl) (hD.sub [0, 1, 2, 3, 4, 5, 6, 7, 8, 9, 10, 11, 12] (by decide) rfl) hS ls (lv_sub hl [0, 1, 2, 3] rfl)
