set_option maxRecDepth 100000 in
set_option maxHeartbeats 4000000 in
/-- THE LAW, from its entry -/
theorem whole_start {p : Program} {e : Env} {s : State} {m : MethodId} {below : List Frame} {meth : Method} {c : Code} (l : Launch) {b L : Nat} {xs : Nat → Int32} (hL : L ≤ 3072) (C0 : lw_At p s m meth c b L xs) : W p l e room_1 s m #[Value.ref b] below meth c s.heap [] 0 0 (lw_Z below #[Value.ref b] s) (entryFrame m ([Value.ref b] : List Value).toArray 4) := by
  obtain ⟨hx, hb, hr, hml, hown0, hts, hX, hbl, hlocks, hgv⟩ := id C0
  have hown : s.vm.findClass RL = some m.cls := hown0
  have hiX0 : ∀ w ∈ wsX00, w ∈ lw_tbl := by decide +kernel
  have hiX1 : ∀ w ∈ wsX10, w ∈ lw_tbl := by decide +kernel
  have hiXM : ∀ w ∈ wsXM0, w ∈ lw_tbl := by decide +kernel
  obtain ⟨A, hAd⟩ : ∃ A : Nat → Prop, A = fun q => s.heap.size ≤ q := ⟨_, rfl⟩
  have hA : ∀ q : Nat, s.heap.size ≤ q → A q := fun q h => by rw [hAd]; exact h
  have hAs : ∀ q : Nat, A q → s.heap.size ≤ q := fun q h => by rw [hAd] at h; exact h
  have hbA : ¬ A b := fun h => Nat.not_le.mpr hbl (hAs b h)
  obtain ⟨c0, iS0, hKn0⟩ := u_known (C := RX0) (T := TX0) (N := 4) (n := 4) hts hiX0 (hts (.instantiable RX0 4) (by decide +kernel))
  obtain ⟨c1, iS1, hKn1⟩ := u_known (C := RX1) (T := TX1) (N := 7) (n := 7) hts hiX1 (hts (.instantiable RX1 7) (by decide +kernel))
  obtain ⟨c2, iS2, hKn2⟩ := u_known (C := RXM) (T := TXM) (N := 10) (n := 10) hts hiXM (hts (.instantiable RXM 10) (by decide +kernel))
  obtain ⟨dC, dI, hKc⟩ : ∃ (dC : Nat → ClassId) (dI : Nat → Nat → Nat), ∀ (k : Nat) (q : vw_C), azCl[k]? = some q → u_Kn s q.1 q.2.1 q.2.2 (dC k) (dI k) := by
    refine ⟨fun k => if k = 0 then c0 else if k = 1 then c1 else c2, fun k => if k = 0 then iS0 else if k = 1 then iS1 else iS2, ?_⟩
    intro k q hq
    match k, hq with
    | 0, hq => cases hq; exact hKn0
    | 1, hq => cases hq; exact hKn1
    | 2, hq => cases hq; exact hKn2
    | k + 3, hq => simp [azCl] at hq
  have hS : va_S A s.heap s.heap [] := va_S.rf
  have hK : va_K (dC, dI) azCl [] s := ⟨hKc, fun k q h => by simp at h⟩
  have hP : va_P (dC, dI) azCl [] s.heap := fun k q h => by simp at h
  have hD : va_D A [] := ⟨fun i j p q h => by simp at h, fun k q h => by simp at h⟩
  have hl := lv_entry ([.ref b]) (n := 4) (Nat.le_of_ble_eq_true rfl)
  rw [lg_entry_eq]
  generalize (lg_sl ([.ref b]) ++ List.replicate (4 - (lg_sl ([.ref b])).length) Slot.unset).toArray = ls at hl ⊢
  have hl : lv_has ls 4 [(0, .ref b)] := hl
  refine va_new (ci := 1) (fs := [.null, .int 0, .null, .int 0, .null, .null, .null]) (C := RX1) (T := TX1) (N := 7) hx hb hts hiX1 tyX1 tyX1_ok hown (hts (.classLink RL 7 RX1) (by decide +kernel)) (hts (.instantiable RX1 7) (by decide +kernel)) (hts (.initialized RX1) (by decide +kernel)) hK hP hD hS hA rfl (fun j hj => by rcases (show j = 0 ∨ j = 1 ∨ j = 2 ∨ j = 3 ∨ j = 4 ∨ j = 5 ∨ j = 6 by omega) with rfl | rfl | rfl | rfl | rfl | rfl | rfl <;> rfl) (Nat.le_of_ble_eq_true rfl) (Nat.le_of_ble_eq_true rfl) dL_law_0 (fun h0 H hP hD hS => ?_)
  have hP : va_P (dC, dI) azCl [(h0, .inr (1, [.null, .int 0, .null, .int 0, .null, .null, .null]))] H := hP
  have hD : va_D A [(h0, .inr (1, [.null, .int 0, .null, .int 0, .null, .null, .null]))] := hD
  refine W.widen (k := 1) (n := 7) (Nat.le_of_ble_eq_true rfl) (Nat.le_of_ble_eq_true rfl) ?_
  refine lv_dup hx hb dL_law_3 rfl ?_
  refine wc_Im (As := []) (rest := [.ref h0]) (wr := []) ⟨hx, hb, hml, hown, hts⟩ (ct_init l dC dI H.size h0 0 0) (cwI 0 hts gL_law_X1_init rfl rfl rfl (hts (.initialized RX1) (by decide +kernel)) (hts (.methodLink RL 9 yX1_init) (by decide +kernel)) (hts (.instanceMethod yX1_init) (by decide +kernel)) rfl (by decide +kernel) ⟨Nat.le_of_ble_eq_true rfl, Nat.le_of_ble_eq_true rfl⟩) hP hD hK hS hA [0] [] [] rfl rfl (by decide) (by decide) (by decide) rfl rfl hl.1 rfl (Nat.le_of_ble_eq_true rfl) dL_law_4 ⟨Nat.le_of_ble_eq_true rfl, Nat.le_of_ble_eq_true rfl⟩ (fun u H locs hP hD hK hS => ?_)
  obtain ⟨ht, hw, q1, q2, q3, cT, cW⟩ := u
  have hK : va_K (dC, dI) azCl [(cT, .byte), (cW, .byte)] s := hK
  have hP : va_P (dC, dI) azCl [(h0, .inr (1, [.ref ht, .int (nI 0), .ref hw, .int (nI 0), .ref q1, .ref q2, .ref q3])), (ht, .inl (cT, 60, .inl (fun _ => 0))), (hw, .inl (cW, 39, .inl (fun _ => 0))), (q1, .inr (0, [.int (nI 4), .int (nI 32), .long (lN (0 / 18446744073709551616)), .long (lN (0 % 18446744073709551616))])), (q2, .inr (0, [.int (nI 4), .int (nI 32), .long (lN (0 / 18446744073709551616)), .long (lN (0 % 18446744073709551616))])), (q3, .inr (0, [.int (nI 4), .int (nI 32), .long (lN (0 / 18446744073709551616)), .long (lN (0 % 18446744073709551616))]))] H := hP
  have hD : va_D A [(h0, .inr (1, [.ref ht, .int (nI 0), .ref hw, .int (nI 0), .ref q1, .ref q2, .ref q3])), (ht, .inl (cT, 60, .inl (fun _ => 0))), (hw, .inl (cW, 39, .inl (fun _ => 0))), (q1, .inr (0, [.int (nI 4), .int (nI 32), .long (lN (0 / 18446744073709551616)), .long (lN (0 % 18446744073709551616))])), (q2, .inr (0, [.int (nI 4), .int (nI 32), .long (lN (0 / 18446744073709551616)), .long (lN (0 % 18446744073709551616))])), (q3, .inr (0, [.int (nI 4), .int (nI 32), .long (lN (0 / 18446744073709551616)), .long (lN (0 % 18446744073709551616))]))] := hD
  refine W.widen (k := 6) (n := 118) (Nat.le_of_ble_eq_true rfl) (Nat.le_of_ble_eq_true rfl) ?_
  refine lv_astore_n (lv' := [(1, .ref h0), (0, .ref b)]) hx hb dL_law_7 rfl hl (by decide) rfl (fun ls hl => ?_)
  refine va_new (ci := 2) (fs := [.null, .int 0, .null, .null, .null, .null, .int 0, .int 0, .null, .int 0]) (C := RXM) (T := TXM) (N := 10) hx hb hts hiXM tyXM tyXM_ok hown (hts (.classLink RL 10 RXM) (by decide +kernel)) (hts (.instantiable RXM 10) (by decide +kernel)) (hts (.initialized RXM) (by decide +kernel)) hK hP hD hS hA rfl (fun j hj => by rcases (show j = 0 ∨ j = 1 ∨ j = 2 ∨ j = 3 ∨ j = 4 ∨ j = 5 ∨ j = 6 ∨ j = 7 ∨ j = 8 ∨ j = 9 by omega) with rfl | rfl | rfl | rfl | rfl | rfl | rfl | rfl | rfl | rfl <;> rfl) (Nat.le_of_ble_eq_true rfl) (Nat.le_of_ble_eq_true rfl) dL_law_8 (fun m0 H hP hD hS => ?_)
  have hP : va_P (dC, dI) azCl [(h0, .inr (1, [.ref ht, .int (nI 0), .ref hw, .int (nI 0), .ref q1, .ref q2, .ref q3])), (ht, .inl (cT, 60, .inl (fun _ => 0))), (hw, .inl (cW, 39, .inl (fun _ => 0))), (q1, .inr (0, [.int (nI 4), .int (nI 32), .long (lN (0 / 18446744073709551616)), .long (lN (0 % 18446744073709551616))])), (q2, .inr (0, [.int (nI 4), .int (nI 32), .long (lN (0 / 18446744073709551616)), .long (lN (0 % 18446744073709551616))])), (q3, .inr (0, [.int (nI 4), .int (nI 32), .long (lN (0 / 18446744073709551616)), .long (lN (0 % 18446744073709551616))])), (m0, .inr (2, [.null, .int 0, .null, .null, .null, .null, .int 0, .int 0, .null, .int 0]))] H := hP
  have hD : va_D A [(h0, .inr (1, [.ref ht, .int (nI 0), .ref hw, .int (nI 0), .ref q1, .ref q2, .ref q3])), (ht, .inl (cT, 60, .inl (fun _ => 0))), (hw, .inl (cW, 39, .inl (fun _ => 0))), (q1, .inr (0, [.int (nI 4), .int (nI 32), .long (lN (0 / 18446744073709551616)), .long (lN (0 % 18446744073709551616))])), (q2, .inr (0, [.int (nI 4), .int (nI 32), .long (lN (0 / 18446744073709551616)), .long (lN (0 % 18446744073709551616))])), (q3, .inr (0, [.int (nI 4), .int (nI 32), .long (lN (0 / 18446744073709551616)), .long (lN (0 % 18446744073709551616))])), (m0, .inr (2, [.null, .int 0, .null, .null, .null, .null, .int 0, .int 0, .null, .int 0]))] := hD
  refine W.widen (k := 7) (n := 128) (Nat.le_of_ble_eq_true rfl) (Nat.le_of_ble_eq_true rfl) ?_
  refine lv_dup hx hb dL_law_11 rfl ?_
  refine wc_Im (As := []) (rest := [.ref m0]) (wr := [(h0, .inr (1, [.ref ht, .int (nI 0), .ref hw, .int (nI 0), .ref q1, .ref q2, .ref q3])), (ht, .inl (cT, 60, .inl (fun _ => 0))), (hw, .inl (cW, 39, .inl (fun _ => 0))), (q1, .inr (0, [.int (nI 4), .int (nI 32), .long (lN (0 / 18446744073709551616)), .long (lN (0 % 18446744073709551616))])), (q2, .inr (0, [.int (nI 4), .int (nI 32), .long (lN (0 / 18446744073709551616)), .long (lN (0 % 18446744073709551616))])), (q3, .inr (0, [.int (nI 4), .int (nI 32), .long (lN (0 / 18446744073709551616)), .long (lN (0 % 18446744073709551616))]))]) ⟨hx, hb, hml, hown, hts⟩ (ct_m_init l dC dI H.size m0 0 0 0 0) (cwI 0 hts gL_law_XM_init rfl rfl rfl (hts (.initialized RXM) (by decide +kernel)) (hts (.methodLink RL 12 yXM_init) (by decide +kernel)) (hts (.instanceMethod yXM_init) (by decide +kernel)) rfl (by decide +kernel) ⟨Nat.le_of_ble_eq_true rfl, Nat.le_of_ble_eq_true rfl⟩) hP hD hK hS hA [6] [0, 1, 2, 3, 4, 5] [] rfl rfl (by decide) (by decide) (by decide) rfl rfl hl.1 rfl (Nat.le_of_ble_eq_true rfl) dL_law_12 ⟨Nat.le_of_ble_eq_true rfl, Nat.le_of_ble_eq_true rfl⟩ (fun u H locs hP hD hK hS => ?_)
  obtain ⟨mt, mb, mf, ml, mp, mo, dT, dB, dF, dL, dP, dO⟩ := u
  have hK : va_K (dC, dI) azCl [(cT, .byte), (cW, .byte), (dT, .int), (dB, .int), (dF, .int), (dL, .int), (dP, .int), (dO, .int)] s := hK
  have hP : va_P (dC, dI) azCl [(h0, .inr (1, [.ref ht, .int (nI 0), .ref hw, .int (nI 0), .ref q1, .ref q2, .ref q3])), (ht, .inl (cT, 60, .inl (fun _ => 0))), (hw, .inl (cW, 39, .inl (fun _ => 0))), (q1, .inr (0, [.int (nI 4), .int (nI 32), .long (lN (0 / 18446744073709551616)), .long (lN (0 % 18446744073709551616))])), (q2, .inr (0, [.int (nI 4), .int (nI 32), .long (lN (0 / 18446744073709551616)), .long (lN (0 % 18446744073709551616))])), (q3, .inr (0, [.int (nI 4), .int (nI 32), .long (lN (0 / 18446744073709551616)), .long (lN (0 % 18446744073709551616))])), (m0, .inr (2, [.ref mt, .int 0, .ref mb, .ref mf, .ref ml, .ref mp, .int 0, .int 0, .ref mo, .int 0])), (mt, .inl (dT, 60, .inl (fun _ => 0))), (mb, .inl (dB, 32, .inl (fun _ => 0))), (mf, .inl (dF, 2, .inl (upd (upd (fun _ => 0) 0 (nI 4)) 1 (nI 4)))), (ml, .inl (dL, 2, .inl (upd (upd (fun _ => 0) 0 (nI 32)) 1 (nI 32)))), (mp, .inl (dP, 8, .inl (fun _ => 0))), (mo, .inl (dO, 64, .inl (fun _ => 0)))] H := hP
  have hD : va_D A [(h0, .inr (1, [.ref ht, .int (nI 0), .ref hw, .int (nI 0), .ref q1, .ref q2, .ref q3])), (ht, .inl (cT, 60, .inl (fun _ => 0))), (hw, .inl (cW, 39, .inl (fun _ => 0))), (q1, .inr (0, [.int (nI 4), .int (nI 32), .long (lN (0 / 18446744073709551616)), .long (lN (0 % 18446744073709551616))])), (q2, .inr (0, [.int (nI 4), .int (nI 32), .long (lN (0 / 18446744073709551616)), .long (lN (0 % 18446744073709551616))])), (q3, .inr (0, [.int (nI 4), .int (nI 32), .long (lN (0 / 18446744073709551616)), .long (lN (0 % 18446744073709551616))])), (m0, .inr (2, [.ref mt, .int 0, .ref mb, .ref mf, .ref ml, .ref mp, .int 0, .int 0, .ref mo, .int 0])), (mt, .inl (dT, 60, .inl (fun _ => 0))), (mb, .inl (dB, 32, .inl (fun _ => 0))), (mf, .inl (dF, 2, .inl (upd (upd (fun _ => 0) 0 (nI 4)) 1 (nI 4)))), (ml, .inl (dL, 2, .inl (upd (upd (fun _ => 0) 0 (nI 32)) 1 (nI 32)))), (mp, .inl (dP, 8, .inl (fun _ => 0))), (mo, .inl (dO, 64, .inl (fun _ => 0)))] := hD
  refine W.widen (k := 13) (n := 296) (Nat.le_of_ble_eq_true rfl) (Nat.le_of_ble_eq_true rfl) ?_
  refine lv_astore_n (lv' := [(2, .ref m0), (1, .ref h0), (0, .ref b)]) hx hb dL_law_15 rfl hl (by decide) rfl (fun ls hl => ?_)
  refine lv_iconst (v := nI 0) hx hb dL_law_16 (by decide) ?_
  refine lv_istore_n (lv' := [(3, .int (nI 0)), (2, .ref m0), (1, .ref h0), (0, .ref b)]) hx hb dL_law_17 rfl hl (by decide) rfl (fun ls hl => ?_)
  have hv : az_ad 4 32 0 := ⟨Or.inl ⟨rfl, show (0 : Nat) < 4294967296 by decide⟩, Nat.le_refl 32⟩
  have hby : ∀ o, az_by (fun _ => 0) o 0 := fun o k _ => by unfold az_byte; rw [Nat.zero_div]; rfl
  exact lw_loop hL C0 hA hAs hbA hK (L + 1) 0 (by omega) (by omega) q1 q2 q3 0 0 (fun _ => 0) (fun _ => 0) (fun _ => 0) [] 4 32 0 4 32 0 (nI 4) (nI 32) (lN (0 / 18446744073709551616)) (lN (0 % 18446744073709551616)) (fun _ => 0) (fun _ => 0) (upd (upd (fun _ => 0) 0 (nI 4)) 1 (nI 4)) (upd (upd (fun _ => 0) 0 (nI 32)) 1 (nI 32)) (fun _ => 0) (fun _ => 0) 0 0 ⟨by decide, fun j hj => absurd hj (Nat.not_lt_zero j), fun j hj => absurd hj (Nat.not_lt_zero j), az_ou_0 _, by decide, az_mo_0 _, hv, hv, (pk_un (by decide)).trans pk_us, pk_us, (pk_un (by decide)).trans pk_us, pk_us, hby 0, hby 16⟩ _ _ (hP.sub [0, 1, 2, 3, 4, 5, 6, 7, 8, 9, 10, 11, 12] rfl) (hD.sub [0, 1, 2, 3, 4, 5, 6, 7, 8, 9, 10, 11, 12] (by decide) rfl) hS ls (lv_sub hl [3, 2, 1, 0] rfl)
