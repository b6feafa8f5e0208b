set_option maxRecDepth 100000 in
set_option maxHeartbeats 4000000 in
/-- turn() -/
theorem ct_turn (l : Launch) (dC : Nat → ClassId) (dI : Nat → Nat → Nat) (sz : Nat) (h0 ht hw a1 a2 a3 n w : Nat) : Met l yX1_turn wsX1_turn ({ frames := 0, cells := 0, slots := 0, locals := 0 }) (wr_P (dC, dI) azCl [(h0, .inr (1, [.ref ht, .int (nI n), .ref hw, .int (nI w), .ref a1, .ref a2, .ref a3]))] [] sz [.ref h0]) (va_Qv (fun _ => True) (wr_B (dC, dI) azCl [] (va_A [(h0, .inr (1, [.ref ht, .int (nI n), .ref hw, .int (nI w), .ref a1, .ref a2, .ref a3]))] sz) (fun _ : Unit => [(h0, .inr (1, [.ref ht, .int (nI n), .ref hw, .int (nI w), .ref a2, .ref a1, .ref a3]))])) (va_A [(h0, .inr (1, [.ref ht, .int (nI n), .ref hw, .int (nI w), .ref a1, .ref a2, .ref a3]))] sz)) 0 0 (va_A [(h0, .inr (1, [.ref ht, .int (nI n), .ref hw, .int (nI w), .ref a1, .ref a2, .ref a3]))] sz) := by
  refine Met.ofW (cc := cX1_turn) (maxL := 2) (ret := none) (by decide) rfl ?_
  intro p e s m args below meth c s₁ Bd hml hv
  obtain ⟨rfl, hsz, hP, hK, hD0⟩ := hv
  have hx := Bd.exec
  have hb := Bd.bytes
  have hr := Bd.returns
  have hts := atoms_spec (ws := wsX1_turn) Bd.pre
  have hown : s.vm.findClass RX1 = some m.cls := findClass_of_methodNamed Bd.named
  have hlocks := Bd.notSynchronized
  subst hsz
  have hD := hD0.self (sz := s.heap.size)
  generalize hAe : va_A [(h0, .inr (1, [.ref ht, .int (nI n), .ref hw, .int (nI w), .ref a1, .ref a2, .ref a3]))] s.heap.size = A at hD ⊢
  have hA : ∀ q : Nat, s.heap.size ≤ q → A q := fun q h => by rw [← hAe]; exact Or.inr h
  have hS : va_S A s.heap s.heap [] := va_S.rf
  have hP : va_P (dC, dI) azCl [(h0, .inr (1, [.ref ht, .int (nI n), .ref hw, .int (nI w), .ref a1, .ref a2, .ref a3]))] s.heap := hP
  have hiX1 : ∀ w ∈ wsX10, w ∈ wsX1_turn := by decide +kernel
  have hf26 := hts (.fieldLink RX1 26 "AddressTexts" "one" "LAddressTexts$Address;") (by decide +kernel)
  have hf30 := hts (.fieldLink RX1 30 "AddressTexts" "two" "LAddressTexts$Address;") (by decide +kernel)
  have hl := lv_entry ([.ref h0]) (n := 2) (Nat.le_of_ble_eq_true rfl)
  rw [lg_entry_eq]
  generalize (lg_sl ([.ref h0]) ++ List.replicate (2 - (lg_sl ([.ref h0])).length) Slot.unset).toArray = ls at hl ⊢
  have hl : lv_has ls 2 [(0, .ref h0)] := hl
  refine lv_aload_n hx hb dX1_turn_0 rfl (lv_at hl 0 rfl) ?_
  refine va_get (D := (dC, dI)) (ci := 1) (v := .ref a1) (C := RX1) (T := TX1) (N := 7) hx hb hts hiX1 hown hK hP 0 rfl rfl 4 (by decide) hf26 (fun _ h9 => h9) rfl dX1_turn_1 ?_
  refine lv_astore_n (lv' := [(1, .ref a1), (0, .ref h0)]) hx hb dX1_turn_4 rfl hl (by decide) rfl (fun ls hl => ?_)
  refine lv_aload_n hx hb dX1_turn_5 rfl (lv_at hl 1 rfl) ?_
  refine lv_aload_n hx hb dX1_turn_6 rfl (lv_at hl 1 rfl) ?_
  refine va_get (D := (dC, dI)) (ci := 1) (v := .ref a2) (C := RX1) (T := TX1) (N := 7) hx hb hts hiX1 hown hK hP 0 rfl rfl 5 (by decide) hf30 (fun _ h9 => h9) rfl dX1_turn_7 ?_
  refine va_put (D := (dC, dI)) (ci := 1) (v := .ref a2) (ty := .object "AddressTexts$Address") (C := RX1) (T := TX1) (N := 7) hx hb hts hiX1 tyX1 tyX1_ok nmX1 hown hK hP hD hS 0 rfl rfl 4 (by decide) hf26 (fun _ h9 => h9) rfl (by decide +kernel) rfl rfl (Nat.le_of_ble_eq_true rfl) dX1_turn_10 (fun H locs hP hD hS => ?_)
  have hP : va_P (dC, dI) azCl [(h0, .inr (1, [.ref ht, .int (nI n), .ref hw, .int (nI w), .ref a2, .ref a2, .ref a3]))] H := hP
  have hD : va_D A [(h0, .inr (1, [.ref ht, .int (nI n), .ref hw, .int (nI w), .ref a2, .ref a2, .ref a3]))] := hD
  refine lv_aload_n hx hb dX1_turn_13 rfl (lv_at hl 1 rfl) ?_
  refine lv_aload_n hx hb dX1_turn_14 rfl (lv_at hl 0 rfl) ?_
  refine va_put (D := (dC, dI)) (ci := 1) (v := .ref a1) (ty := .object "AddressTexts$Address") (C := RX1) (T := TX1) (N := 7) hx hb hts hiX1 tyX1 tyX1_ok nmX1 hown hK hP hD hS 0 rfl rfl 5 (by decide) hf30 (fun _ h9 => h9) rfl (by decide +kernel) rfl rfl (Nat.le_of_ble_eq_true rfl) dX1_turn_15 (fun H locs hP hD hS => ?_)
  have hP : va_P (dC, dI) azCl [(h0, .inr (1, [.ref ht, .int (nI n), .ref hw, .int (nI w), .ref a2, .ref a1, .ref a3]))] H := hP
  have hD : va_D A [(h0, .inr (1, [.ref ht, .int (nI n), .ref hw, .int (nI w), .ref a2, .ref a1, .ref a3]))] := hD
  exact wt_v hx hb hr (()) (trivial) (hP.sub [0] rfl) hK (hD.sub [0] (by decide) rfl) hS dX1_turn_18 hlocks
set_option maxRecDepth 100000 in
set_option maxHeartbeats 4000000 in
/-- end(x) -/
theorem ct_end (l : Launch) (dC : Nat → ClassId) (dI : Nat → Nat → Nat) (sz : Nat) (h0 ht hw a1 a2 a3 n w : Nat) (x : Int32) (hn : n ≤ 60) : Met l yX1_end wsX1_end ({ frames := 0, cells := 0, slots := 0, locals := 0 }) (wr_P (dC, dI) azCl [(h0, .inr (1, [.ref ht, .int (nI n), .ref hw, .int (nI w), .ref a1, .ref a2, .ref a3]))] [] sz [.ref h0, .int x]) (va_Qi (fun r u => u ≤ n ∧ (((x < 0 ∨ ¬ x ≤ nI n) ∧ r = nI 0 ∧ u = n) ∨ (¬ x < 0 ∧ x ≤ nI n ∧ r = nI 1 ∧ x = nI u))) (wr_B (dC, dI) azCl [] (va_A [(h0, .inr (1, [.ref ht, .int (nI n), .ref hw, .int (nI w), .ref a1, .ref a2, .ref a3]))] sz) (fun u : Nat => [(h0, .inr (1, [.ref ht, .int (nI u), .ref hw, .int (nI w), .ref a1, .ref a2, .ref a3]))])) (va_A [(h0, .inr (1, [.ref ht, .int (nI n), .ref hw, .int (nI w), .ref a1, .ref a2, .ref a3]))] sz)) 0 0 (va_A [(h0, .inr (1, [.ref ht, .int (nI n), .ref hw, .int (nI w), .ref a1, .ref a2, .ref a3]))] sz) := by
  refine Met.ofW (cc := cX1_end) (maxL := 2) (ret := (some .boolean)) (by decide) rfl ?_
  intro p e s m args below meth c s₁ Bd hml hv
  obtain ⟨rfl, hsz, hP, hK, hD0⟩ := hv
  have hx := Bd.exec
  have hb := Bd.bytes
  have hr := Bd.returns
  have hts := atoms_spec (ws := wsX1_end) Bd.pre
  have hown : s.vm.findClass RX1 = some m.cls := findClass_of_methodNamed Bd.named
  have hlocks := Bd.notSynchronized
  subst hsz
  have hD := hD0.self (sz := s.heap.size)
  generalize hAe : va_A [(h0, .inr (1, [.ref ht, .int (nI n), .ref hw, .int (nI w), .ref a1, .ref a2, .ref a3]))] s.heap.size = A at hD ⊢
  have hA : ∀ q : Nat, s.heap.size ≤ q → A q := fun q h => by rw [← hAe]; exact Or.inr h
  have hS : va_S A s.heap s.heap [] := va_S.rf
  have hP : va_P (dC, dI) azCl [(h0, .inr (1, [.ref ht, .int (nI n), .ref hw, .int (nI w), .ref a1, .ref a2, .ref a3]))] s.heap := hP
  have hiX1 : ∀ w ∈ wsX10, w ∈ wsX1_end := by decide +kernel
  have hf13 := hts (.fieldLink RX1 13 "AddressTexts" "tapeCount" "I") (by decide +kernel)
  have hl := lv_entry ([.ref h0, .int x]) (n := 2) (Nat.le_of_ble_eq_true rfl)
  rw [lg_entry_eq]
  generalize (lg_sl ([.ref h0, .int x]) ++ List.replicate (2 - (lg_sl ([.ref h0, .int x])).length) Slot.unset).toArray = ls at hl ⊢
  have hl : lv_has ls 2 [(0, .ref h0), (1, .int x)] := hl
  refine lv_iload_n hx hb dX1_end_0 rfl (lv_at hl 1 rfl) ?_
  refine lv_if_lt (tgt := 12) hx hb dX1_end_1 (by decide) (fun c1 => ?_) (fun c1 => ?_)
  · refine lv_iconst (v := nI 0) hx hb dX1_end_12 (by decide) ?_
    exact wt_z hx hb hr (rfl) (n) (⟨by omega, Or.inl ⟨by first | exact Or.inl c1 | exact Or.inr c9, rfl, rfl⟩⟩) (hP.sub [0] rfl) hK (hD.sub [0] (by decide) rfl) hS dX1_end_13 hlocks
  · refine lv_iload_n hx hb dX1_end_4 rfl (lv_at hl 1 rfl) ?_
    refine lv_aload_n hx hb dX1_end_5 rfl (lv_at hl 0 rfl) ?_
    refine va_get (D := (dC, dI)) (ci := 1) (v := .int (nI n)) (C := RX1) (T := TX1) (N := 7) hx hb hts hiX1 hown hK hP 0 rfl rfl 1 (by decide) hf13 (fun _ h9 => h9) rfl dX1_end_6 ?_
    refine lv_icmp_le (tgt := 14) hx hb dX1_end_9 (by decide) (fun c9 => ?_) (fun c9 => ?_)
    · obtain ⟨k, hk31, rfl⟩ := nI_of c1
      have hkn : k ≤ n := (nI_leI hk31 (by omega)).mp c9
      refine lv_aload_n hx hb dX1_end_14 rfl (lv_at hl 0 rfl) ?_
      refine lv_iload_n hx hb dX1_end_15 rfl (lv_at hl 1 rfl) ?_
      refine va_put (D := (dC, dI)) (ci := 1) (v := .int (nI k)) (ty := .int) (C := RX1) (T := TX1) (N := 7) hx hb hts hiX1 tyX1 tyX1_ok nmX1 hown hK hP hD hS 0 rfl rfl 1 (by decide) hf13 (fun _ h9 => h9) rfl (by decide +kernel) rfl rfl (Nat.le_of_ble_eq_true rfl) dX1_end_16 (fun H locs hP hD hS => ?_)
      have hP : va_P (dC, dI) azCl [(h0, .inr (1, [.ref ht, .int (nI k), .ref hw, .int (nI w), .ref a1, .ref a2, .ref a3]))] H := hP
      have hD : va_D A [(h0, .inr (1, [.ref ht, .int (nI k), .ref hw, .int (nI w), .ref a1, .ref a2, .ref a3]))] := hD
      refine lv_iconst (v := nI 1) hx hb dX1_end_19 (by decide) ?_
      exact wt_z hx hb hr (rfl) (k) (⟨hkn, Or.inr ⟨c1, c9, rfl, rfl⟩⟩) (hP.sub [0] rfl) hK (hD.sub [0] (by decide) rfl) hS dX1_end_20 hlocks
    · refine lv_iconst (v := nI 0) hx hb dX1_end_12 (by decide) ?_
      exact wt_z hx hb hr (rfl) (n) (⟨by omega, Or.inl ⟨by first | exact Or.inl c1 | exact Or.inr c9, rfl, rfl⟩⟩) (hP.sub [0] rfl) hK (hD.sub [0] (by decide) rfl) hS dX1_end_13 hlocks
set_option maxRecDepth 100000 in
set_option maxHeartbeats 4000000 in
/-- feed(a, b, c, d, e) -/
theorem ct_feed (l : Launch) (dC : Nat → ClassId) (dI : Nat → Nat → Nat) (sz : Nat) (h0 ht hw a1 a2 a3 n w : Nat) (cT : ClassId) (f : Nat → Int32) (T : Nat → Nat) (hT : az_tp f T n) (hn : n ≤ 60) (a b c_ d_ e_ : Int32) : Met l yX1_feed wsX1_feed ({ frames := 2, cells := 0, slots := 0, locals := 43 }) (wr_P (dC, dI) azCl [(h0, .inr (1, [.ref ht, .int (nI n), .ref hw, .int (nI w), .ref a1, .ref a2, .ref a3])), (ht, .inl (cT, 60, .inl f))] [(cT, .byte)] sz [.ref h0, .int a, .int b, .int c_, .int d_, .int e_]) (va_Qi (fun r u => (60 < n + 20 ∧ r = nI 0 ∧ az_tp u.1 u.2.2 u.2.1 ∧ u.2.1 = n ∧ u.2.2 = T) ∨ (n + 20 ≤ 60 ∧ r = nI 1 ∧ az_tp u.1 u.2.2 u.2.1 ∧ u.2.1 = n + 20 ∧ u.2.2 = az_a20 T n a b c_ d_ e_)) (wr_B (dC, dI) azCl [(cT, .byte)] (va_A [(h0, .inr (1, [.ref ht, .int (nI n), .ref hw, .int (nI w), .ref a1, .ref a2, .ref a3])), (ht, .inl (cT, 60, .inl f))] sz) (fun u : (Nat → Int32) × Nat × (Nat → Nat) => [(h0, .inr (1, [.ref ht, .int (nI u.2.1), .ref hw, .int (nI w), .ref a1, .ref a2, .ref a3])), (ht, .inl (cT, 60, .inl u.1))])) (va_A [(h0, .inr (1, [.ref ht, .int (nI n), .ref hw, .int (nI w), .ref a1, .ref a2, .ref a3])), (ht, .inl (cT, 60, .inl f))] sz)) 0 0 (va_A [(h0, .inr (1, [.ref ht, .int (nI n), .ref hw, .int (nI w), .ref a1, .ref a2, .ref a3])), (ht, .inl (cT, 60, .inl f))] sz) := by
  refine Met.ofW (cc := cX1_feed) (maxL := 6) (ret := (some .boolean)) (by decide) rfl ?_
  intro p e s m args below meth c s₁ Bd hml hv
  obtain ⟨rfl, hsz, hP, hK, hD0⟩ := hv
  have hx := Bd.exec
  have hb := Bd.bytes
  have hr := Bd.returns
  have hts := atoms_spec (ws := wsX1_feed) Bd.pre
  have hown : s.vm.findClass RX1 = some m.cls := findClass_of_methodNamed Bd.named
  have hlocks := Bd.notSynchronized
  subst hsz
  have hD := hD0.self (sz := s.heap.size)
  generalize hAe : va_A [(h0, .inr (1, [.ref ht, .int (nI n), .ref hw, .int (nI w), .ref a1, .ref a2, .ref a3])), (ht, .inl (cT, 60, .inl f))] s.heap.size = A at hD ⊢
  have hA : ∀ q : Nat, s.heap.size ≤ q → A q := fun q h => by rw [← hAe]; exact Or.inr h
  have hS : va_S A s.heap s.heap [] := va_S.rf
  have hP : va_P (dC, dI) azCl [(h0, .inr (1, [.ref ht, .int (nI n), .ref hw, .int (nI w), .ref a1, .ref a2, .ref a3])), (ht, .inl (cT, 60, .inl f))] s.heap := hP
  have hiX1 : ∀ w ∈ wsX10, w ∈ wsX1_feed := by decide +kernel
  have hf13 := hts (.fieldLink RX1 13 "AddressTexts" "tapeCount" "I") (by decide +kernel)
  have hl := lv_entry ([.ref h0, .int a, .int b, .int c_, .int d_, .int e_]) (n := 6) (Nat.le_of_ble_eq_true rfl)
  rw [lg_entry_eq]
  generalize (lg_sl ([.ref h0, .int a, .int b, .int c_, .int d_, .int e_]) ++ List.replicate (6 - (lg_sl ([.ref h0, .int a, .int b, .int c_, .int d_, .int e_])).length) Slot.unset).toArray = ls at hl ⊢
  have hl : lv_has ls 6 [(0, .ref h0), (1, .int a), (2, .int b), (3, .int c_), (4, .int d_), (5, .int e_)] := hl
  refine lv_aload_n hx hb dX1_feed_0 rfl (lv_at hl 0 rfl) ?_
  refine va_get (D := (dC, dI)) (ci := 1) (v := .int (nI n)) (C := RX1) (T := TX1) (N := 7) hx hb hts hiX1 hown hK hP 0 rfl rfl 1 (by decide) hf13 (fun _ h9 => h9) rfl dX1_feed_1 ?_
  refine lv_bipush (v := nI 20) hx hb dX1_feed_4 (by decide) ?_
  refine lv_iadd hx hb dX1_feed_6 ?_
  refine tp_i (nI (n + 20)) (nI_add _ _) ?_
  refine lv_bipush (v := nI 60) hx hb dX1_feed_7 (by decide) ?_
  refine bn_le (tgt := 14) hx hb dX1_feed_9 (by decide) (by omega) (by omega) (fun c9 => ?_) (fun c9 => ?_)
  · refine lv_aload_n hx hb dX1_feed_14 rfl (lv_at hl 0 rfl) ?_
    refine lv_iload_n hx hb dX1_feed_15 rfl (lv_at hl 1 rfl) ?_
    refine wc_Vv (As := [.int a]) (rest := []) (wr := []) ⟨hx, hb, hml, hown, hts⟩ (ct_tapeNumber l dC dI s.heap.size h0 ht hw a1 a2 a3 n w cT f T hT a (by omega)) (cwV 1 hts gX1_feed_X1_tapeNumber rfl rfl rfl (by decide +kernel) ⟨Nat.le_of_ble_eq_true rfl, Nat.le_of_ble_eq_true rfl⟩) hP hD hK hS hA [0, 1] [] [0] rfl rfl (by decide) (by decide) (by decide) rfl 0 rfl rfl rfl hl.1 rfl (Nat.le_of_ble_eq_true rfl) dX1_feed_16 ⟨(Nat.zero_le _), (Nat.zero_le _)⟩ (fun u1 H locs hT1 hP hD hS => ?_)
    try dsimp only at hT1
    have hP : va_P (dC, dI) azCl [(h0, .inr (1, [.ref ht, .int (nI (n + 4)), .ref hw, .int (nI w), .ref a1, .ref a2, .ref a3])), (ht, .inl (cT, 60, .inl u1))] H := hP
    have hD : va_D A [(h0, .inr (1, [.ref ht, .int (nI (n + 4)), .ref hw, .int (nI w), .ref a1, .ref a2, .ref a3])), (ht, .inl (cT, 60, .inl u1))] := hD
    refine lv_aload_n hx hb dX1_feed_19 rfl (lv_at hl 0 rfl) ?_
    refine lv_iload_n hx hb dX1_feed_20 rfl (lv_at hl 2 rfl) ?_
    refine wc_Vv (As := [.int b]) (rest := []) (wr := []) ⟨hx, hb, hml, hown, hts⟩ (ct_tapeNumber l dC dI H.size h0 ht hw a1 a2 a3 (n + 4) w cT u1 (az_a4 T n a) hT1 b (by omega)) (cwV 1 hts gX1_feed_X1_tapeNumber rfl rfl rfl (by decide +kernel) ⟨Nat.le_of_ble_eq_true rfl, Nat.le_of_ble_eq_true rfl⟩) hP hD hK hS hA [0, 1] [] [0] rfl rfl (by decide) (by decide) (by decide) rfl 0 rfl rfl rfl hl.1 rfl (Nat.le_of_ble_eq_true rfl) dX1_feed_21 ⟨(Nat.zero_le _), (Nat.zero_le _)⟩ (fun u2 H locs hT2 hP hD hS => ?_)
    try dsimp only at hT2
    have hP : va_P (dC, dI) azCl [(h0, .inr (1, [.ref ht, .int (nI (n + 4 + 4)), .ref hw, .int (nI w), .ref a1, .ref a2, .ref a3])), (ht, .inl (cT, 60, .inl u2))] H := hP
    have hD : va_D A [(h0, .inr (1, [.ref ht, .int (nI (n + 4 + 4)), .ref hw, .int (nI w), .ref a1, .ref a2, .ref a3])), (ht, .inl (cT, 60, .inl u2))] := hD
    refine lv_aload_n hx hb dX1_feed_24 rfl (lv_at hl 0 rfl) ?_
    refine lv_iload_n hx hb dX1_feed_25 rfl (lv_at hl 3 rfl) ?_
    refine wc_Vv (As := [.int c_]) (rest := []) (wr := []) ⟨hx, hb, hml, hown, hts⟩ (ct_tapeNumber l dC dI H.size h0 ht hw a1 a2 a3 (n + 4 + 4) w cT u2 (az_a4 (az_a4 T n a) (n + 4) b) hT2 c_ (by omega)) (cwV 1 hts gX1_feed_X1_tapeNumber rfl rfl rfl (by decide +kernel) ⟨Nat.le_of_ble_eq_true rfl, Nat.le_of_ble_eq_true rfl⟩) hP hD hK hS hA [0, 1] [] [0] rfl rfl (by decide) (by decide) (by decide) rfl 0 rfl rfl rfl hl.1 rfl (Nat.le_of_ble_eq_true rfl) dX1_feed_26 ⟨(Nat.zero_le _), (Nat.zero_le _)⟩ (fun u3 H locs hT3 hP hD hS => ?_)
    try dsimp only at hT3
    have hP : va_P (dC, dI) azCl [(h0, .inr (1, [.ref ht, .int (nI (n + 4 + 4 + 4)), .ref hw, .int (nI w), .ref a1, .ref a2, .ref a3])), (ht, .inl (cT, 60, .inl u3))] H := hP
    have hD : va_D A [(h0, .inr (1, [.ref ht, .int (nI (n + 4 + 4 + 4)), .ref hw, .int (nI w), .ref a1, .ref a2, .ref a3])), (ht, .inl (cT, 60, .inl u3))] := hD
    refine lv_aload_n hx hb dX1_feed_29 rfl (lv_at hl 0 rfl) ?_
    refine lv_iload hx hb dX1_feed_30 (lv_at hl 4 rfl) ?_
    refine wc_Vv (As := [.int d_]) (rest := []) (wr := []) ⟨hx, hb, hml, hown, hts⟩ (ct_tapeNumber l dC dI H.size h0 ht hw a1 a2 a3 (n + 4 + 4 + 4) w cT u3 (az_a4 (az_a4 (az_a4 T n a) (n + 4) b) (n + 4 + 4) c_) hT3 d_ (by omega)) (cwV 1 hts gX1_feed_X1_tapeNumber rfl rfl rfl (by decide +kernel) ⟨Nat.le_of_ble_eq_true rfl, Nat.le_of_ble_eq_true rfl⟩) hP hD hK hS hA [0, 1] [] [0] rfl rfl (by decide) (by decide) (by decide) rfl 0 rfl rfl rfl hl.1 rfl (Nat.le_of_ble_eq_true rfl) dX1_feed_32 ⟨(Nat.zero_le _), (Nat.zero_le _)⟩ (fun u4 H locs hT4 hP hD hS => ?_)
    try dsimp only at hT4
    have hP : va_P (dC, dI) azCl [(h0, .inr (1, [.ref ht, .int (nI (n + 4 + 4 + 4 + 4)), .ref hw, .int (nI w), .ref a1, .ref a2, .ref a3])), (ht, .inl (cT, 60, .inl u4))] H := hP
    have hD : va_D A [(h0, .inr (1, [.ref ht, .int (nI (n + 4 + 4 + 4 + 4)), .ref hw, .int (nI w), .ref a1, .ref a2, .ref a3])), (ht, .inl (cT, 60, .inl u4))] := hD
    refine lv_aload_n hx hb dX1_feed_35 rfl (lv_at hl 0 rfl) ?_
    refine lv_iload hx hb dX1_feed_36 (lv_at hl 5 rfl) ?_
    refine wc_Vv (As := [.int e_]) (rest := []) (wr := []) ⟨hx, hb, hml, hown, hts⟩ (ct_tapeNumber l dC dI H.size h0 ht hw a1 a2 a3 (n + 4 + 4 + 4 + 4) w cT u4 (az_a4 (az_a4 (az_a4 (az_a4 T n a) (n + 4) b) (n + 4 + 4) c_) (n + 4 + 4 + 4) d_) hT4 e_ (by omega)) (cwV 1 hts gX1_feed_X1_tapeNumber rfl rfl rfl (by decide +kernel) ⟨Nat.le_of_ble_eq_true rfl, Nat.le_of_ble_eq_true rfl⟩) hP hD hK hS hA [0, 1] [] [0] rfl rfl (by decide) (by decide) (by decide) rfl 0 rfl rfl rfl hl.1 rfl (Nat.le_of_ble_eq_true rfl) dX1_feed_38 ⟨(Nat.zero_le _), (Nat.zero_le _)⟩ (fun u5 H locs hT5 hP hD hS => ?_)
    try dsimp only at hT5
    have hP : va_P (dC, dI) azCl [(h0, .inr (1, [.ref ht, .int (nI (n + 4 + 4 + 4 + 4 + 4)), .ref hw, .int (nI w), .ref a1, .ref a2, .ref a3])), (ht, .inl (cT, 60, .inl u5))] H := hP
    have hD : va_D A [(h0, .inr (1, [.ref ht, .int (nI (n + 4 + 4 + 4 + 4 + 4)), .ref hw, .int (nI w), .ref a1, .ref a2, .ref a3])), (ht, .inl (cT, 60, .inl u5))] := hD
    refine lv_iconst (v := nI 1) hx hb dX1_feed_41 (by decide) ?_
    exact wt_z hx hb hr (rfl) ((u5, n + 20, az_a20 T n a b c_ d_ e_)) (Or.inr ⟨by omega, rfl, hT5, rfl, rfl⟩) (hP.sub [0, 1] rfl) hK (hD.sub [0, 1] (by decide) rfl) hS dX1_feed_42 hlocks
  · refine lv_iconst (v := nI 0) hx hb dX1_feed_12 (by decide) ?_
    exact wt_z hx hb hr (rfl) ((f, n, T)) (Or.inl ⟨by omega, rfl, hT, rfl, rfl⟩) (hP.sub [0, 1] rfl) hK (hD.sub [0, 1] (by decide) rfl) hS dX1_feed_13 hlocks
set_option maxRecDepth 100000 in
set_option maxHeartbeats 4000000 in
/-- writtenAt(x) -/
theorem ct_writtenAt (l : Launch) (dC : Nat → ClassId) (dI : Nat → Nat → Nat) (h0 ht hw a1 a2 a3 n w : Nat) (cW : ClassId) (g : Nat → Int32) (O : List Nat) (hg : az_ou g O w) (hw2 : w ≤ 39) (x : Int32) : Met l yX1_writtenAt wsX1_writtenAt ({ frames := 0, cells := 0, slots := 0, locals := 0 }) (rd_P (dC, dI) azCl [(h0, .inr (1, [.ref ht, .int (nI n), .ref hw, .int (nI w), .ref a1, .ref a2, .ref a3])), (hw, .inl (cW, 39, .inl g))] [(cW, .byte)] [.ref h0, .int x]) (vp_Si (fun r => r = az_wat O x)) 0 0 (fun _ => False) := by
  refine Met.ofW (cc := cX1_writtenAt) (maxL := 2) (ret := (some .int)) (by decide) rfl ?_
  intro p e s m args below meth c s₁ Bd hml hv
  obtain ⟨rfl, hP, hK⟩ := hv
  have hx := Bd.exec
  have hb := Bd.bytes
  have hr := Bd.returns
  have hts := atoms_spec (ws := wsX1_writtenAt) Bd.pre
  have hown : s.vm.findClass RX1 = some m.cls := findClass_of_methodNamed Bd.named
  have hlocks := Bd.notSynchronized
  have hiX1 : ∀ w ∈ wsX10, w ∈ wsX1_writtenAt := by decide +kernel
  have hf20 := hts (.fieldLink RX1 20 "AddressTexts" "writtenCount" "I") (by decide +kernel)
  have hf17 := hts (.fieldLink RX1 17 "AddressTexts" "written" "[B") (by decide +kernel)
  have hl := lv_entry ([.ref h0, .int x]) (n := 2) (Nat.le_of_ble_eq_true rfl)
  rw [lg_entry_eq]
  generalize (lg_sl ([.ref h0, .int x]) ++ List.replicate (2 - (lg_sl ([.ref h0, .int x])).length) Slot.unset).toArray = ls at hl ⊢
  have hl : lv_has ls 2 [(0, .ref h0), (1, .int x)] := hl
  obtain ⟨hO, hOj⟩ := hg
  refine lv_iload_n hx hb dX1_writtenAt_0 rfl (lv_at hl 1 rfl) ?_
  refine lv_if_lt (tgt := 25) hx hb dX1_writtenAt_1 (by decide) (fun c1 => ?_) (fun c1 => ?_)
  · refine lv_iconst (v := -1) hx hb dX1_writtenAt_25 (by decide) ?_
    exact rt_i hx hb hr (by unfold az_wat; first | rw [if_pos c1] | rw [if_neg c1, hO, if_pos c9]) dX1_writtenAt_26 hlocks
  · refine lv_iload_n hx hb dX1_writtenAt_4 rfl (lv_at hl 1 rfl) ?_
    refine lv_aload_n hx hb dX1_writtenAt_5 rfl (lv_at hl 0 rfl) ?_
    refine va_get (D := (dC, dI)) (ci := 1) (v := .int (nI w)) (C := RX1) (T := TX1) (N := 7) hx hb hts hiX1 hown hK hP 0 rfl rfl 3 (by decide) hf20 (fun _ h9 => h9) rfl dX1_writtenAt_6 ?_
    refine lv_icmp_ge (tgt := 25) hx hb dX1_writtenAt_9 (by decide) (fun c9 => ?_) (fun c9 => ?_)
    · refine lv_iconst (v := -1) hx hb dX1_writtenAt_25 (by decide) ?_
      exact rt_i hx hb hr (by unfold az_wat; first | rw [if_pos c1] | rw [if_neg c1, hO, if_pos c9]) dX1_writtenAt_26 hlocks
    · obtain ⟨j, hj31, rfl⟩ := nI_of c1
      have hjw : j < w := by rcases Nat.lt_or_ge j w with q | q; exact (q); exact (absurd ((nI_leI (by omega) hj31).mpr q) c9)
      refine lv_aload_n hx hb dX1_writtenAt_12 rfl (lv_at hl 0 rfl) ?_
      refine va_get (D := (dC, dI)) (ci := 1) (v := .ref hw) (C := RX1) (T := TX1) (N := 7) hx hb hts hiX1 hown hK hP 0 rfl rfl 2 (by decide) hf17 (fun _ h9 => h9) rfl dX1_writtenAt_13 ?_
      refine lv_iload_n hx hb dX1_writtenAt_16 rfl (lv_at hl 1 rfl) ?_
      refine ld_b hx hb hK hP 1 0 rfl rfl (by omega) (by omega) dX1_writtenAt_17 ?_
      refine lv_sipush (v := nI 255) hx hb dX1_writtenAt_18 (by decide) ?_
      refine lv_iand hx hb dX1_writtenAt_21 ?_
      refine tp_i (nI (O.getD j 0)) (by rw [(hOj j hjw).1]; exact (pk_andN (by have := (hOj j hjw).2; omega) 8 (by decide)).trans (congrArg nI (by have := (hOj j hjw).2; omega))) ?_
      refine lv_goto (tgt := 26) hx hb dX1_writtenAt_22 (by decide) ?_
      exact rt_i hx hb hr (by unfold az_wat; rw [if_neg c1, hO, if_neg c9, nI_clamp hj31]) dX1_writtenAt_26 hlocks
set_option maxRecDepth 100000 in
set_option maxHeartbeats 4000000 in
/-- bits(x) -/
theorem ct_bits (l : Launch) (dC : Nat → ClassId) (dI : Nat → Nat → Nat) (h0 ht hw a1 a2 a3 n w : Nat) (f1 l1 V1 : Nat) (x : Int32) : Met l yX1_bits wsX1_bits ({ frames := 0, cells := 0, slots := 0, locals := 0 }) (rd_P (dC, dI) azCl [(h0, .inr (1, [.ref ht, .int (nI n), .ref hw, .int (nI w), .ref a1, .ref a2, .ref a3])), (a1, .inr (0, [.int (nI f1), .int (nI l1), .long (lN (V1 / 18446744073709551616)), .long (lN (V1 % 18446744073709551616))]))] [] [.ref h0, .int x]) (vp_Sl (fun r => r = az_bits V1 x)) 0 0 (fun _ => False) := by
  refine Met.ofW (cc := cX1_bits) (maxL := 2) (ret := (some .long)) (by decide) rfl ?_
  intro p e s m args below meth c s₁ Bd hml hv
  obtain ⟨rfl, hP, hK⟩ := hv
  have hx := Bd.exec
  have hb := Bd.bytes
  have hr := Bd.returns
  have hts := atoms_spec (ws := wsX1_bits) Bd.pre
  have hown : s.vm.findClass RX1 = some m.cls := findClass_of_methodNamed Bd.named
  have hlocks := Bd.notSynchronized
  have hiX1 : ∀ w ∈ wsX10, w ∈ wsX1_bits := by decide +kernel
  have hiX0 : ∀ w ∈ wsX00, w ∈ wsX1_bits := by decide +kernel
  have hf26 := hts (.fieldLink RX1 26 "AddressTexts" "one" "LAddressTexts$Address;") (by decide +kernel)
  have hf66 := hts (.fieldLink RX1 66 "AddressTexts$Address" "lower" "J") (by decide +kernel)
  have hf58 := hts (.fieldLink RX1 58 "AddressTexts$Address" "upper" "J") (by decide +kernel)
  have hl := lv_entry ([.ref h0, .int x]) (n := 2) (Nat.le_of_ble_eq_true rfl)
  rw [lg_entry_eq]
  generalize (lg_sl ([.ref h0, .int x]) ++ List.replicate (2 - (lg_sl ([.ref h0, .int x])).length) Slot.unset).toArray = ls at hl ⊢
  have hl : lv_has ls 2 [(0, .ref h0), (1, .int x)] := hl
  refine lv_iload_n hx hb dX1_bits_0 rfl (lv_at hl 1 rfl) ?_
  refine lv_if_ne (tgt := 12) hx hb dX1_bits_1 (by decide) (fun c1 => ?_) (fun c1 => ?_)
  · refine lv_iload_n hx hb dX1_bits_12 rfl (lv_at hl 1 rfl) ?_
    refine lv_iconst (v := nI 1) hx hb dX1_bits_13 (by decide) ?_
    refine lv_icmp_ne (tgt := 27) hx hb dX1_bits_14 (by decide) (fun c14 => ?_) (fun c14 => ?_)
    · refine lv_lconst (v := lN 0) hx hb dX1_bits_27 (by decide) ?_
      exact rt_l hx hb hr (by unfold az_bits; first | rw [if_neg c1, if_pos c14] | rw [if_neg c1, if_neg c14]) dX1_bits_28 hlocks
    · refine lv_aload_n hx hb dX1_bits_17 rfl (lv_at hl 0 rfl) ?_
      refine va_get (D := (dC, dI)) (ci := 1) (v := .ref a1) (C := RX1) (T := TX1) (N := 7) hx hb hts hiX1 hown hK hP 0 rfl rfl 4 (by decide) hf26 (fun _ h9 => h9) rfl dX1_bits_18 ?_
      refine va_get (D := (dC, dI)) (ci := 0) (v := .long (lN (V1 % 18446744073709551616))) (C := RX0) (T := TX0) (N := 4) hx hb hts hiX0 hown hK hP 1 rfl rfl 3 (by decide) hf66 (fun _ h9 => h9) rfl dX1_bits_21 ?_
      refine lv_goto (tgt := 28) hx hb dX1_bits_24 (by decide) ?_
      exact rt_l hx hb hr (by unfold az_bits; first | rw [if_neg c1, if_pos c14] | rw [if_neg c1, if_neg c14]) dX1_bits_28 hlocks
  · refine lv_aload_n hx hb dX1_bits_4 rfl (lv_at hl 0 rfl) ?_
    refine va_get (D := (dC, dI)) (ci := 1) (v := .ref a1) (C := RX1) (T := TX1) (N := 7) hx hb hts hiX1 hown hK hP 0 rfl rfl 4 (by decide) hf26 (fun _ h9 => h9) rfl dX1_bits_5 ?_
    refine va_get (D := (dC, dI)) (ci := 0) (v := .long (lN (V1 / 18446744073709551616))) (C := RX0) (T := TX0) (N := 4) hx hb hts hiX0 hown hK hP 1 rfl rfl 2 (by decide) hf58 (fun _ h9 => h9) rfl dX1_bits_8 ?_
    exact rt_l hx hb hr (by unfold az_bits; rw [if_pos c1]) dX1_bits_11 hlocks
set_option maxRecDepth 100000 in
set_option maxHeartbeats 4000000 in
/-- cut() -/
theorem ct_cut (l : Launch) (dC : Nat → ClassId) (dI : Nat → Nat → Nat) (sz : Nat) (h0 ht hw a1 a2 a3 n w : Nat) (f1 l1 V1 : Nat) (h1 : az_ad f1 l1 V1) : Met l yX1_cut wsX1_cut ({ frames := 3, cells := 0, slots := 0, locals := 60 }) (wr_P (dC, dI) azCl [(h0, .inr (1, [.ref ht, .int (nI n), .ref hw, .int (nI w), .ref a1, .ref a2, .ref a3])), (a1, .inr (0, [.int (nI f1), .int (nI l1), .long (lN (V1 / 18446744073709551616)), .long (lN (V1 % 18446744073709551616))]))] [] sz [.ref h0]) (va_Qi (fun r _ => r = az_b (¬ az_cut V1 (az_wl f1 - l1) = V1)) (wr_B (dC, dI) azCl [] (va_A [(h0, .inr (1, [.ref ht, .int (nI n), .ref hw, .int (nI w), .ref a1, .ref a2, .ref a3])), (a1, .inr (0, [.int (nI f1), .int (nI l1), .long (lN (V1 / 18446744073709551616)), .long (lN (V1 % 18446744073709551616))]))] sz) (fun _ : Unit => [(h0, .inr (1, [.ref ht, .int (nI n), .ref hw, .int (nI w), .ref a1, .ref a2, .ref a3])), (a1, .inr (0, [.int (nI f1), .int (nI l1), .long (lN ((az_cut V1 (az_wl f1 - l1)) / 18446744073709551616)), .long (lN ((az_cut V1 (az_wl f1 - l1)) % 18446744073709551616))]))])) (va_A [(h0, .inr (1, [.ref ht, .int (nI n), .ref hw, .int (nI w), .ref a1, .ref a2, .ref a3])), (a1, .inr (0, [.int (nI f1), .int (nI l1), .long (lN (V1 / 18446744073709551616)), .long (lN (V1 % 18446744073709551616))]))] sz)) 0 0 (va_A [(h0, .inr (1, [.ref ht, .int (nI n), .ref hw, .int (nI w), .ref a1, .ref a2, .ref a3])), (a1, .inr (0, [.int (nI f1), .int (nI l1), .long (lN (V1 / 18446744073709551616)), .long (lN (V1 % 18446744073709551616))]))] sz) := by
  refine Met.ofW (cc := cX1_cut) (maxL := 6) (ret := (some .boolean)) (by decide) rfl ?_
  intro p e s m args below meth c s₁ Bd hml hv
  obtain ⟨rfl, hsz, hP, hK, hD0⟩ := hv
  have hx := Bd.exec
  have hb := Bd.bytes
  have hr := Bd.returns
  have hts := atoms_spec (ws := wsX1_cut) Bd.pre
  have hown : s.vm.findClass RX1 = some m.cls := findClass_of_methodNamed Bd.named
  have hlocks := Bd.notSynchronized
  subst hsz
  have hD := hD0.self (sz := s.heap.size)
  generalize hAe : va_A [(h0, .inr (1, [.ref ht, .int (nI n), .ref hw, .int (nI w), .ref a1, .ref a2, .ref a3])), (a1, .inr (0, [.int (nI f1), .int (nI l1), .long (lN (V1 / 18446744073709551616)), .long (lN (V1 % 18446744073709551616))]))] s.heap.size = A at hD ⊢
  have hA : ∀ q : Nat, s.heap.size ≤ q → A q := fun q h => by rw [← hAe]; exact Or.inr h
  have hS : va_S A s.heap s.heap [] := va_S.rf
  have hP : va_P (dC, dI) azCl [(h0, .inr (1, [.ref ht, .int (nI n), .ref hw, .int (nI w), .ref a1, .ref a2, .ref a3])), (a1, .inr (0, [.int (nI f1), .int (nI l1), .long (lN (V1 / 18446744073709551616)), .long (lN (V1 % 18446744073709551616))]))] s.heap := hP
  have hiX1 : ∀ w ∈ wsX10, w ∈ wsX1_cut := by decide +kernel
  have hiX0 : ∀ w ∈ wsX00, w ∈ wsX1_cut := by decide +kernel
  have hf26 := hts (.fieldLink RX1 26 "AddressTexts" "one" "LAddressTexts$Address;") (by decide +kernel)
  have hf58 := hts (.fieldLink RX1 58 "AddressTexts$Address" "upper" "J") (by decide +kernel)
  have hf66 := hts (.fieldLink RX1 66 "AddressTexts$Address" "lower" "J") (by decide +kernel)
  have hl := lv_entry ([.ref h0]) (n := 6) (Nat.le_of_ble_eq_true rfl)
  rw [lg_entry_eq]
  generalize (lg_sl ([.ref h0]) ++ List.replicate (6 - (lg_sl ([.ref h0])).length) Slot.unset).toArray = ls at hl ⊢
  have hl : lv_has ls 6 [(0, .ref h0)] := hl
  have hV := az_ad_V h1
  have hk := az_ad_k h1
  have hm := az_ad_m h1
  have hcl := az_cut_le V1 (az_wl f1 - l1)
  refine lv_aload_n hx hb dX1_cut_0 rfl (lv_at hl 0 rfl) ?_
  refine va_get (D := (dC, dI)) (ci := 1) (v := .ref a1) (C := RX1) (T := TX1) (N := 7) hx hb hts hiX1 hown hK hP 0 rfl rfl 4 (by decide) hf26 (fun _ h9 => h9) rfl dX1_cut_1 ?_
  refine va_get (D := (dC, dI)) (ci := 0) (v := .long (lN (V1 / 18446744073709551616))) (C := RX0) (T := TX0) (N := 4) hx hb hts hiX0 hown hK hP 1 rfl rfl 2 (by decide) hf58 (fun _ h9 => h9) rfl dX1_cut_4 ?_
  refine lv_aload_n hx hb dX1_cut_7 rfl (lv_at hl 0 rfl) ?_
  refine va_get (D := (dC, dI)) (ci := 1) (v := .ref a1) (C := RX1) (T := TX1) (N := 7) hx hb hts hiX1 hown hK hP 0 rfl rfl 4 (by decide) hf26 (fun _ h9 => h9) rfl dX1_cut_8 ?_
  refine rc_Vl (As := []) (rest := [.long (lN (V1 / 18446744073709551616))]) ⟨hx, hb, hml, hown, hts⟩ (ct_upperMask l dC dI a1 f1 l1 (lN (V1 / 18446744073709551616)) (lN (V1 % 18446744073709551616)) (az_ad_6 h1)) (cwV 0 hts gX1_cut_X0_upperMask rfl rfl rfl (by decide +kernel) ⟨Nat.le_of_ble_eq_true rfl, Nat.le_of_ble_eq_true rfl⟩) (hP.sub [1] rfl) (hK.sub [] rfl) 0 rfl rfl rfl hl.1 rfl (Nat.le_of_ble_eq_true rfl) dX1_cut_11 ⟨(Nat.zero_le _), (Nat.zero_le _)⟩ ?_
  refine lv_land hx hb dX1_cut_14 ?_
  refine tp_l (lN (az_cut V1 (az_wl f1 - l1) / 18446744073709551616)) (by rw [az_cut_u hV hk, hm]) ?_
  refine lv_lstore_n (lv' := [(1, .long (lN (az_cut V1 (az_wl f1 - l1) / 18446744073709551616))), (0, .ref h0)]) hx hb dX1_cut_15 rfl hl (by decide) rfl (fun ls hl => ?_)
  refine lv_aload_n hx hb dX1_cut_16 rfl (lv_at hl 1 rfl) ?_
  refine va_get (D := (dC, dI)) (ci := 1) (v := .ref a1) (C := RX1) (T := TX1) (N := 7) hx hb hts hiX1 hown hK hP 0 rfl rfl 4 (by decide) hf26 (fun _ h9 => h9) rfl dX1_cut_17 ?_
  refine va_get (D := (dC, dI)) (ci := 0) (v := .long (lN (V1 % 18446744073709551616))) (C := RX0) (T := TX0) (N := 4) hx hb hts hiX0 hown hK hP 1 rfl rfl 3 (by decide) hf66 (fun _ h9 => h9) rfl dX1_cut_20 ?_
  refine lv_aload_n hx hb dX1_cut_23 rfl (lv_at hl 1 rfl) ?_
  refine va_get (D := (dC, dI)) (ci := 1) (v := .ref a1) (C := RX1) (T := TX1) (N := 7) hx hb hts hiX1 hown hK hP 0 rfl rfl 4 (by decide) hf26 (fun _ h9 => h9) rfl dX1_cut_24 ?_
  refine rc_Vl (As := []) (rest := [.long (lN (V1 % 18446744073709551616))]) ⟨hx, hb, hml, hown, hts⟩ (ct_lowerMask l dC dI a1 f1 l1 (lN (V1 / 18446744073709551616)) (lN (V1 % 18446744073709551616)) (az_ad_6 h1)) (cwV 0 hts gX1_cut_X0_lowerMask rfl rfl rfl (by decide +kernel) ⟨Nat.le_of_ble_eq_true rfl, Nat.le_of_ble_eq_true rfl⟩) (hP.sub [1] rfl) (hK.sub [] rfl) 0 rfl rfl rfl hl.1 rfl (Nat.le_of_ble_eq_true rfl) dX1_cut_27 ⟨(Nat.zero_le _), (Nat.zero_le _)⟩ ?_
  refine lv_land hx hb dX1_cut_30 ?_
  refine tp_l (lN (az_cut V1 (az_wl f1 - l1) % 18446744073709551616)) (by rw [az_cut_l hk, hm]) ?_
  refine lv_lstore_n (lv' := [(3, .long (lN (az_cut V1 (az_wl f1 - l1) % 18446744073709551616))), (1, .long (lN (az_cut V1 (az_wl f1 - l1) / 18446744073709551616))), (0, .ref h0)]) hx hb dX1_cut_31 rfl hl (by decide) rfl (fun ls hl => ?_)
  refine lv_lload_n hx hb dX1_cut_32 rfl (lv_at hl 1 rfl) ?_
  refine lv_aload_n hx hb dX1_cut_33 rfl (lv_at hl 2 rfl) ?_
  refine va_get (D := (dC, dI)) (ci := 1) (v := .ref a1) (C := RX1) (T := TX1) (N := 7) hx hb hts hiX1 hown hK hP 0 rfl rfl 4 (by decide) hf26 (fun _ h9 => h9) rfl dX1_cut_34 ?_
  refine va_get (D := (dC, dI)) (ci := 0) (v := .long (lN (V1 / 18446744073709551616))) (C := RX0) (T := TX0) (N := 4) hx hb hts hiX0 hown hK hP 1 rfl rfl 2 (by decide) hf58 (fun _ h9 => h9) rfl dX1_cut_37 ?_
  refine W.lcmp hx hb dX1_cut_40 ?_
  refine lv_if_ne (tgt := 56) hx hb dX1_cut_41 (by decide) (fun c41 => ?_) (fun c41 => ?_)
  · have d41 : ¬ az_cut V1 (az_wl f1 - l1) / 18446744073709551616 = V1 / 18446744073709551616 := fun q => c41 (az_cmp0.mpr (by rw [q]))
    refine lv_iconst (v := nI 1) hx hb dX1_cut_56 (by decide) ?_
    refine lv_goto (tgt := 61) hx hb dX1_cut_57 (by decide) ?_
    refine lv_istore (lv' := [(5, .int (nI 1)), (3, .long (lN (az_cut V1 (az_wl f1 - l1) % 18446744073709551616))), (1, .long (lN (az_cut V1 (az_wl f1 - l1) / 18446744073709551616))), (0, .ref h0)]) hx hb dX1_cut_61 hl (by decide) rfl (fun ls hl => ?_)
    refine lv_aload_n hx hb dX1_cut_63 rfl (lv_at hl 3 rfl) ?_
    refine va_get (D := (dC, dI)) (ci := 1) (v := .ref a1) (C := RX1) (T := TX1) (N := 7) hx hb hts hiX1 hown hK hP 0 rfl rfl 4 (by decide) hf26 (fun _ h9 => h9) rfl dX1_cut_64 ?_
    refine lv_lload_n hx hb dX1_cut_67 rfl (lv_at hl 2 rfl) ?_
    refine va_put (D := (dC, dI)) (ci := 0) (v := .long (lN (az_cut V1 (az_wl f1 - l1) / 18446744073709551616))) (ty := .long) (C := RX0) (T := TX0) (N := 4) hx hb hts hiX0 tyX0 tyX0_ok nmX0 hown hK hP hD hS 1 rfl rfl 2 (by decide) hf58 (fun _ h9 => h9) rfl (by decide +kernel) rfl rfl (Nat.le_of_ble_eq_true rfl) dX1_cut_68 (fun H locs hP hD hS => ?_)
    have hP : va_P (dC, dI) azCl [(h0, .inr (1, [.ref ht, .int (nI n), .ref hw, .int (nI w), .ref a1, .ref a2, .ref a3])), (a1, .inr (0, [.int (nI f1), .int (nI l1), .long (lN (az_cut V1 (az_wl f1 - l1) / 18446744073709551616)), .long (lN (V1 % 18446744073709551616))]))] H := hP
    have hD : va_D A [(h0, .inr (1, [.ref ht, .int (nI n), .ref hw, .int (nI w), .ref a1, .ref a2, .ref a3])), (a1, .inr (0, [.int (nI f1), .int (nI l1), .long (lN (az_cut V1 (az_wl f1 - l1) / 18446744073709551616)), .long (lN (V1 % 18446744073709551616))]))] := hD
    refine lv_aload_n hx hb dX1_cut_71 rfl (lv_at hl 3 rfl) ?_
    refine va_get (D := (dC, dI)) (ci := 1) (v := .ref a1) (C := RX1) (T := TX1) (N := 7) hx hb hts hiX1 hown hK hP 0 rfl rfl 4 (by decide) hf26 (fun _ h9 => h9) rfl dX1_cut_72 ?_
    refine lv_lload_n hx hb dX1_cut_75 rfl (lv_at hl 1 rfl) ?_
    refine va_put (D := (dC, dI)) (ci := 0) (v := .long (lN (az_cut V1 (az_wl f1 - l1) % 18446744073709551616))) (ty := .long) (C := RX0) (T := TX0) (N := 4) hx hb hts hiX0 tyX0 tyX0_ok nmX0 hown hK hP hD hS 1 rfl rfl 3 (by decide) hf66 (fun _ h9 => h9) rfl (by decide +kernel) rfl rfl (Nat.le_of_ble_eq_true rfl) dX1_cut_76 (fun H locs hP hD hS => ?_)
    have hP : va_P (dC, dI) azCl [(h0, .inr (1, [.ref ht, .int (nI n), .ref hw, .int (nI w), .ref a1, .ref a2, .ref a3])), (a1, .inr (0, [.int (nI f1), .int (nI l1), .long (lN (az_cut V1 (az_wl f1 - l1) / 18446744073709551616)), .long (lN (az_cut V1 (az_wl f1 - l1) % 18446744073709551616))]))] H := hP
    have hD : va_D A [(h0, .inr (1, [.ref ht, .int (nI n), .ref hw, .int (nI w), .ref a1, .ref a2, .ref a3])), (a1, .inr (0, [.int (nI f1), .int (nI l1), .long (lN (az_cut V1 (az_wl f1 - l1) / 18446744073709551616)), .long (lN (az_cut V1 (az_wl f1 - l1) % 18446744073709551616))]))] := hD
    refine lv_iload hx hb dX1_cut_79 (lv_at hl 0 rfl) ?_
    exact wt_z hx hb hr (rfl) (()) ((az_b_t (p := ¬ az_cut V1 (az_wl f1 - l1) = V1) (fun q => by first | exact d41 (by rw [q]) | exact d53 (by rw [q]))).symm) (hP.sub [0, 1] rfl) hK (hD.sub [0, 1] (by decide) rfl) hS dX1_cut_81 hlocks
  · have d41 : az_cut V1 (az_wl f1 - l1) / 18446744073709551616 = V1 / 18446744073709551616 := (az_lN_eq (by omega) (by omega)).mp (az_cmp0.mp c41)
    refine lv_lload_n hx hb dX1_cut_44 rfl (lv_at hl 0 rfl) ?_
    refine lv_aload_n hx hb dX1_cut_45 rfl (lv_at hl 2 rfl) ?_
    refine va_get (D := (dC, dI)) (ci := 1) (v := .ref a1) (C := RX1) (T := TX1) (N := 7) hx hb hts hiX1 hown hK hP 0 rfl rfl 4 (by decide) hf26 (fun _ h9 => h9) rfl dX1_cut_46 ?_
    refine va_get (D := (dC, dI)) (ci := 0) (v := .long (lN (V1 % 18446744073709551616))) (C := RX0) (T := TX0) (N := 4) hx hb hts hiX0 hown hK hP 1 rfl rfl 3 (by decide) hf66 (fun _ h9 => h9) rfl dX1_cut_49 ?_
    refine W.lcmp hx hb dX1_cut_52 ?_
    refine lv_if_eq (tgt := 60) hx hb dX1_cut_53 (by decide) (fun c53 => ?_) (fun c53 => ?_)
    · have d53 : az_cut V1 (az_wl f1 - l1) % 18446744073709551616 = V1 % 18446744073709551616 := (az_lN_eq (Nat.mod_lt _ (by decide)) (Nat.mod_lt _ (by decide))).mp (az_cmp0.mp c53)
      refine lv_iconst (v := nI 0) hx hb dX1_cut_60 (by decide) ?_
      refine lv_istore (lv' := [(5, .int (nI 0)), (3, .long (lN (az_cut V1 (az_wl f1 - l1) % 18446744073709551616))), (1, .long (lN (az_cut V1 (az_wl f1 - l1) / 18446744073709551616))), (0, .ref h0)]) hx hb dX1_cut_61 hl (by decide) rfl (fun ls hl => ?_)
      refine lv_aload_n hx hb dX1_cut_63 rfl (lv_at hl 3 rfl) ?_
      refine va_get (D := (dC, dI)) (ci := 1) (v := .ref a1) (C := RX1) (T := TX1) (N := 7) hx hb hts hiX1 hown hK hP 0 rfl rfl 4 (by decide) hf26 (fun _ h9 => h9) rfl dX1_cut_64 ?_
      refine lv_lload_n hx hb dX1_cut_67 rfl (lv_at hl 2 rfl) ?_
      refine va_put (D := (dC, dI)) (ci := 0) (v := .long (lN (az_cut V1 (az_wl f1 - l1) / 18446744073709551616))) (ty := .long) (C := RX0) (T := TX0) (N := 4) hx hb hts hiX0 tyX0 tyX0_ok nmX0 hown hK hP hD hS 1 rfl rfl 2 (by decide) hf58 (fun _ h9 => h9) rfl (by decide +kernel) rfl rfl (Nat.le_of_ble_eq_true rfl) dX1_cut_68 (fun H locs hP hD hS => ?_)
      have hP : va_P (dC, dI) azCl [(h0, .inr (1, [.ref ht, .int (nI n), .ref hw, .int (nI w), .ref a1, .ref a2, .ref a3])), (a1, .inr (0, [.int (nI f1), .int (nI l1), .long (lN (az_cut V1 (az_wl f1 - l1) / 18446744073709551616)), .long (lN (V1 % 18446744073709551616))]))] H := hP
      have hD : va_D A [(h0, .inr (1, [.ref ht, .int (nI n), .ref hw, .int (nI w), .ref a1, .ref a2, .ref a3])), (a1, .inr (0, [.int (nI f1), .int (nI l1), .long (lN (az_cut V1 (az_wl f1 - l1) / 18446744073709551616)), .long (lN (V1 % 18446744073709551616))]))] := hD
      refine lv_aload_n hx hb dX1_cut_71 rfl (lv_at hl 3 rfl) ?_
      refine va_get (D := (dC, dI)) (ci := 1) (v := .ref a1) (C := RX1) (T := TX1) (N := 7) hx hb hts hiX1 hown hK hP 0 rfl rfl 4 (by decide) hf26 (fun _ h9 => h9) rfl dX1_cut_72 ?_
      refine lv_lload_n hx hb dX1_cut_75 rfl (lv_at hl 1 rfl) ?_
      refine va_put (D := (dC, dI)) (ci := 0) (v := .long (lN (az_cut V1 (az_wl f1 - l1) % 18446744073709551616))) (ty := .long) (C := RX0) (T := TX0) (N := 4) hx hb hts hiX0 tyX0 tyX0_ok nmX0 hown hK hP hD hS 1 rfl rfl 3 (by decide) hf66 (fun _ h9 => h9) rfl (by decide +kernel) rfl rfl (Nat.le_of_ble_eq_true rfl) dX1_cut_76 (fun H locs hP hD hS => ?_)
      have hP : va_P (dC, dI) azCl [(h0, .inr (1, [.ref ht, .int (nI n), .ref hw, .int (nI w), .ref a1, .ref a2, .ref a3])), (a1, .inr (0, [.int (nI f1), .int (nI l1), .long (lN (az_cut V1 (az_wl f1 - l1) / 18446744073709551616)), .long (lN (az_cut V1 (az_wl f1 - l1) % 18446744073709551616))]))] H := hP
      have hD : va_D A [(h0, .inr (1, [.ref ht, .int (nI n), .ref hw, .int (nI w), .ref a1, .ref a2, .ref a3])), (a1, .inr (0, [.int (nI f1), .int (nI l1), .long (lN (az_cut V1 (az_wl f1 - l1) / 18446744073709551616)), .long (lN (az_cut V1 (az_wl f1 - l1) % 18446744073709551616))]))] := hD
      refine lv_iload hx hb dX1_cut_79 (lv_at hl 0 rfl) ?_
      exact wt_z hx hb hr (rfl) (()) ((az_b_f (p := ¬ az_cut V1 (az_wl f1 - l1) = V1) (fun q => q (az_halves d41 d53))).symm) (hP.sub [0, 1] rfl) hK (hD.sub [0, 1] (by decide) rfl) hS dX1_cut_81 hlocks
    · have d53 : ¬ az_cut V1 (az_wl f1 - l1) % 18446744073709551616 = V1 % 18446744073709551616 := fun q => c53 (az_cmp0.mpr (by rw [q]))
      refine lv_iconst (v := nI 1) hx hb dX1_cut_56 (by decide) ?_
      refine lv_goto (tgt := 61) hx hb dX1_cut_57 (by decide) ?_
      refine lv_istore (lv' := [(5, .int (nI 1)), (3, .long (lN (az_cut V1 (az_wl f1 - l1) % 18446744073709551616))), (1, .long (lN (az_cut V1 (az_wl f1 - l1) / 18446744073709551616))), (0, .ref h0)]) hx hb dX1_cut_61 hl (by decide) rfl (fun ls hl => ?_)
      refine lv_aload_n hx hb dX1_cut_63 rfl (lv_at hl 3 rfl) ?_
      refine va_get (D := (dC, dI)) (ci := 1) (v := .ref a1) (C := RX1) (T := TX1) (N := 7) hx hb hts hiX1 hown hK hP 0 rfl rfl 4 (by decide) hf26 (fun _ h9 => h9) rfl dX1_cut_64 ?_
      refine lv_lload_n hx hb dX1_cut_67 rfl (lv_at hl 2 rfl) ?_
      refine va_put (D := (dC, dI)) (ci := 0) (v := .long (lN (az_cut V1 (az_wl f1 - l1) / 18446744073709551616))) (ty := .long) (C := RX0) (T := TX0) (N := 4) hx hb hts hiX0 tyX0 tyX0_ok nmX0 hown hK hP hD hS 1 rfl rfl 2 (by decide) hf58 (fun _ h9 => h9) rfl (by decide +kernel) rfl rfl (Nat.le_of_ble_eq_true rfl) dX1_cut_68 (fun H locs hP hD hS => ?_)
      have hP : va_P (dC, dI) azCl [(h0, .inr (1, [.ref ht, .int (nI n), .ref hw, .int (nI w), .ref a1, .ref a2, .ref a3])), (a1, .inr (0, [.int (nI f1), .int (nI l1), .long (lN (az_cut V1 (az_wl f1 - l1) / 18446744073709551616)), .long (lN (V1 % 18446744073709551616))]))] H := hP
      have hD : va_D A [(h0, .inr (1, [.ref ht, .int (nI n), .ref hw, .int (nI w), .ref a1, .ref a2, .ref a3])), (a1, .inr (0, [.int (nI f1), .int (nI l1), .long (lN (az_cut V1 (az_wl f1 - l1) / 18446744073709551616)), .long (lN (V1 % 18446744073709551616))]))] := hD
      refine lv_aload_n hx hb dX1_cut_71 rfl (lv_at hl 3 rfl) ?_
      refine va_get (D := (dC, dI)) (ci := 1) (v := .ref a1) (C := RX1) (T := TX1) (N := 7) hx hb hts hiX1 hown hK hP 0 rfl rfl 4 (by decide) hf26 (fun _ h9 => h9) rfl dX1_cut_72 ?_
      refine lv_lload_n hx hb dX1_cut_75 rfl (lv_at hl 1 rfl) ?_
      refine va_put (D := (dC, dI)) (ci := 0) (v := .long (lN (az_cut V1 (az_wl f1 - l1) % 18446744073709551616))) (ty := .long) (C := RX0) (T := TX0) (N := 4) hx hb hts hiX0 tyX0 tyX0_ok nmX0 hown hK hP hD hS 1 rfl rfl 3 (by decide) hf66 (fun _ h9 => h9) rfl (by decide +kernel) rfl rfl (Nat.le_of_ble_eq_true rfl) dX1_cut_76 (fun H locs hP hD hS => ?_)
      have hP : va_P (dC, dI) azCl [(h0, .inr (1, [.ref ht, .int (nI n), .ref hw, .int (nI w), .ref a1, .ref a2, .ref a3])), (a1, .inr (0, [.int (nI f1), .int (nI l1), .long (lN (az_cut V1 (az_wl f1 - l1) / 18446744073709551616)), .long (lN (az_cut V1 (az_wl f1 - l1) % 18446744073709551616))]))] H := hP
      have hD : va_D A [(h0, .inr (1, [.ref ht, .int (nI n), .ref hw, .int (nI w), .ref a1, .ref a2, .ref a3])), (a1, .inr (0, [.int (nI f1), .int (nI l1), .long (lN (az_cut V1 (az_wl f1 - l1) / 18446744073709551616)), .long (lN (az_cut V1 (az_wl f1 - l1) % 18446744073709551616))]))] := hD
      refine lv_iload hx hb dX1_cut_79 (lv_at hl 0 rfl) ?_
      exact wt_z hx hb hr (rfl) (()) ((az_b_t (p := ¬ az_cut V1 (az_wl f1 - l1) = V1) (fun q => by first | exact d41 (by rw [q]) | exact d53 (by rw [q]))).symm) (hP.sub [0, 1] rfl) hK (hD.sub [0, 1] (by decide) rfl) hS dX1_cut_81 hlocks
set_option maxRecDepth 100000 in
set_option maxHeartbeats 4000000 in
/-- covers() -/
theorem ct_covers (l : Launch) (dC : Nat → ClassId) (dI : Nat → Nat → Nat) (h0 ht hw a1 a2 a3 n w : Nat) (f1 l1 V1 f2 l2 V2 : Nat) (h1 : az_ad f1 l1 V1) (h2 : az_ad f2 l2 V2) : Met l yX1_covers wsX1_covers ({ frames := 3, cells := 0, slots := 0, locals := 60 }) (rd_P (dC, dI) azCl [(h0, .inr (1, [.ref ht, .int (nI n), .ref hw, .int (nI w), .ref a1, .ref a2, .ref a3])), (a1, .inr (0, [.int (nI f1), .int (nI l1), .long (lN (V1 / 18446744073709551616)), .long (lN (V1 % 18446744073709551616))])), (a2, .inr (0, [.int (nI f2), .int (nI l2), .long (lN (V2 / 18446744073709551616)), .long (lN (V2 % 18446744073709551616))]))] [] [.ref h0]) (vp_Si (fun r => r = az_b (f1 = f2 ∧ l1 ≤ l2 ∧ az_cut V1 (az_wl f1 - l1) = az_cut V2 (az_wl f1 - l1)))) 0 0 (fun _ => False) := by
  refine Met.ofW (cc := cX1_covers) (maxL := 1) (ret := (some .boolean)) (by decide) rfl ?_
  intro p e s m args below meth c s₁ Bd hml hv
  obtain ⟨rfl, hP, hK⟩ := hv
  have hx := Bd.exec
  have hb := Bd.bytes
  have hr := Bd.returns
  have hts := atoms_spec (ws := wsX1_covers) Bd.pre
  have hown : s.vm.findClass RX1 = some m.cls := findClass_of_methodNamed Bd.named
  have hlocks := Bd.notSynchronized
  have hiX1 : ∀ w ∈ wsX10, w ∈ wsX1_covers := by decide +kernel
  have hiX0 : ∀ w ∈ wsX00, w ∈ wsX1_covers := by decide +kernel
  have hf26 := hts (.fieldLink RX1 26 "AddressTexts" "one" "LAddressTexts$Address;") (by decide +kernel)
  have hf44 := hts (.fieldLink RX1 44 "AddressTexts$Address" "family" "I") (by decide +kernel)
  have hf30 := hts (.fieldLink RX1 30 "AddressTexts" "two" "LAddressTexts$Address;") (by decide +kernel)
  have hf55 := hts (.fieldLink RX1 55 "AddressTexts$Address" "prefixLength" "I") (by decide +kernel)
  have hf58 := hts (.fieldLink RX1 58 "AddressTexts$Address" "upper" "J") (by decide +kernel)
  have hf66 := hts (.fieldLink RX1 66 "AddressTexts$Address" "lower" "J") (by decide +kernel)
  have hl := lv_entry ([.ref h0]) (n := 1) (Nat.le_of_ble_eq_true rfl)
  rw [lg_entry_eq]
  generalize (lg_sl ([.ref h0]) ++ List.replicate (1 - (lg_sl ([.ref h0])).length) Slot.unset).toArray = ls at hl ⊢
  have hl : lv_has ls 1 [(0, .ref h0)] := hl
  have hV := az_ad_V h1
  have hU := az_ad_V h2
  have hk := az_ad_k h1
  have hm := az_ad_m h1
  have hf1 := az_ad_6 h1
  have hf2 := az_ad_6 h2
  have hl1 := h1.2
  have hl2 := h2.2
  have hw1 := az_wl_le f1
  have hw2 := az_wl_le f2
  refine lv_aload_n hx hb dX1_covers_0 rfl (lv_at hl 0 rfl) ?_
  refine va_get (D := (dC, dI)) (ci := 1) (v := .ref a1) (C := RX1) (T := TX1) (N := 7) hx hb hts hiX1 hown hK hP 0 rfl rfl 4 (by decide) hf26 (fun _ h9 => h9) rfl dX1_covers_1 ?_
  refine va_get (D := (dC, dI)) (ci := 0) (v := .int (nI f1)) (C := RX0) (T := TX0) (N := 4) hx hb hts hiX0 hown hK hP 1 rfl rfl 0 (by decide) hf44 (fun _ h9 => h9) rfl dX1_covers_4 ?_
  refine lv_aload_n hx hb dX1_covers_7 rfl (lv_at hl 0 rfl) ?_
  refine va_get (D := (dC, dI)) (ci := 1) (v := .ref a2) (C := RX1) (T := TX1) (N := 7) hx hb hts hiX1 hown hK hP 0 rfl rfl 5 (by decide) hf30 (fun _ h9 => h9) rfl dX1_covers_8 ?_
  refine va_get (D := (dC, dI)) (ci := 0) (v := .int (nI f2)) (C := RX0) (T := TX0) (N := 4) hx hb hts hiX0 hown hK hP 2 rfl rfl 0 (by decide) hf44 (fun _ h9 => h9) rfl dX1_covers_11 ?_
  refine bn_ne (tgt := 94) hx hb dX1_covers_14 (by decide) (by omega) (by omega) (fun c14 => ?_) (fun c14 => ?_)
  · refine lv_iconst (v := nI 0) hx hb dX1_covers_94 (by decide) ?_
    exact rt_z hx hb hr (rfl) ((az_b_f (fun q => by first | exact c14 q.1 | exact absurd q.2.1 (by omega) | exact d59 (by rw [q.2.2]) | exact d87 (by rw [q.2.2]))).symm) dX1_covers_95 hlocks
  · refine lv_aload_n hx hb dX1_covers_17 rfl (lv_at hl 0 rfl) ?_
    refine va_get (D := (dC, dI)) (ci := 1) (v := .ref a1) (C := RX1) (T := TX1) (N := 7) hx hb hts hiX1 hown hK hP 0 rfl rfl 4 (by decide) hf26 (fun _ h9 => h9) rfl dX1_covers_18 ?_
    refine va_get (D := (dC, dI)) (ci := 0) (v := .int (nI l1)) (C := RX0) (T := TX0) (N := 4) hx hb hts hiX0 hown hK hP 1 rfl rfl 1 (by decide) hf55 (fun _ h9 => h9) rfl dX1_covers_21 ?_
    refine lv_aload_n hx hb dX1_covers_24 rfl (lv_at hl 0 rfl) ?_
    refine va_get (D := (dC, dI)) (ci := 1) (v := .ref a2) (C := RX1) (T := TX1) (N := 7) hx hb hts hiX1 hown hK hP 0 rfl rfl 5 (by decide) hf30 (fun _ h9 => h9) rfl dX1_covers_25 ?_
    refine va_get (D := (dC, dI)) (ci := 0) (v := .int (nI l2)) (C := RX0) (T := TX0) (N := 4) hx hb hts hiX0 hown hK hP 2 rfl rfl 1 (by decide) hf55 (fun _ h9 => h9) rfl dX1_covers_28 ?_
    refine bn_gt (tgt := 94) hx hb dX1_covers_31 (by decide) (by omega) (by omega) (fun c31 => ?_) (fun c31 => ?_)
    · refine lv_iconst (v := nI 0) hx hb dX1_covers_94 (by decide) ?_
      exact rt_z hx hb hr (rfl) ((az_b_f (fun q => by first | exact c14 q.1 | exact absurd q.2.1 (by omega) | exact d59 (by rw [q.2.2]) | exact d87 (by rw [q.2.2]))).symm) dX1_covers_95 hlocks
    · refine lv_aload_n hx hb dX1_covers_34 rfl (lv_at hl 0 rfl) ?_
      refine va_get (D := (dC, dI)) (ci := 1) (v := .ref a1) (C := RX1) (T := TX1) (N := 7) hx hb hts hiX1 hown hK hP 0 rfl rfl 4 (by decide) hf26 (fun _ h9 => h9) rfl dX1_covers_35 ?_
      refine va_get (D := (dC, dI)) (ci := 0) (v := .long (lN (V1 / 18446744073709551616))) (C := RX0) (T := TX0) (N := 4) hx hb hts hiX0 hown hK hP 1 rfl rfl 2 (by decide) hf58 (fun _ h9 => h9) rfl dX1_covers_38 ?_
      refine lv_aload_n hx hb dX1_covers_41 rfl (lv_at hl 0 rfl) ?_
      refine va_get (D := (dC, dI)) (ci := 1) (v := .ref a2) (C := RX1) (T := TX1) (N := 7) hx hb hts hiX1 hown hK hP 0 rfl rfl 5 (by decide) hf30 (fun _ h9 => h9) rfl dX1_covers_42 ?_
      refine va_get (D := (dC, dI)) (ci := 0) (v := .long (lN (V2 / 18446744073709551616))) (C := RX0) (T := TX0) (N := 4) hx hb hts hiX0 hown hK hP 2 rfl rfl 2 (by decide) hf58 (fun _ h9 => h9) rfl dX1_covers_45 ?_
      refine lv_lxor hx hb dX1_covers_48 ?_
      refine lv_aload_n hx hb dX1_covers_49 rfl (lv_at hl 0 rfl) ?_
      refine va_get (D := (dC, dI)) (ci := 1) (v := .ref a1) (C := RX1) (T := TX1) (N := 7) hx hb hts hiX1 hown hK hP 0 rfl rfl 4 (by decide) hf26 (fun _ h9 => h9) rfl dX1_covers_50 ?_
      refine rc_Vl (As := []) (rest := [.long ((lN (V1 / 18446744073709551616)) ^^^ (lN (V2 / 18446744073709551616)))]) ⟨hx, hb, hml, hown, hts⟩ (ct_upperMask l dC dI a1 f1 l1 (lN (V1 / 18446744073709551616)) (lN (V1 % 18446744073709551616)) (az_ad_6 h1)) (cwV 0 hts gX1_covers_X0_upperMask rfl rfl rfl (by decide +kernel) ⟨Nat.le_of_ble_eq_true rfl, Nat.le_of_ble_eq_true rfl⟩) (hP.sub [1] rfl) (hK.sub [] rfl) 0 rfl rfl rfl hl.1 rfl (Nat.le_of_ble_eq_true rfl) dX1_covers_53 ⟨(Nat.zero_le _), (Nat.zero_le _)⟩ ?_
      refine lv_land hx hb dX1_covers_56 ?_
      refine lv_lconst (v := lN 0) hx hb dX1_covers_57 (by decide) ?_
      refine W.lcmp hx hb dX1_covers_58 ?_
      refine lv_if_ne (tgt := 94) hx hb dX1_covers_59 (by decide) (fun c59 => ?_) (fun c59 => ?_)
      · have d59 : ¬ az_cut V1 (az_wl f1 - l1) / 18446744073709551616 = az_cut V2 (az_wl f1 - l1) / 18446744073709551616 := fun q => c59 (az_cmp0.mpr ((az_cov_u hV hU hk).mpr (by rw [hm]; exact q)))
        refine lv_iconst (v := nI 0) hx hb dX1_covers_94 (by decide) ?_
        exact rt_z hx hb hr (rfl) ((az_b_f (fun q => by first | exact c14 q.1 | exact absurd q.2.1 (by omega) | exact d59 (by rw [q.2.2]) | exact d87 (by rw [q.2.2]))).symm) dX1_covers_95 hlocks
      · have d59 : az_cut V1 (az_wl f1 - l1) / 18446744073709551616 = az_cut V2 (az_wl f1 - l1) / 18446744073709551616 := by have h := (az_cov_u hV hU hk).mp (az_cmp0.mp c59); rw [hm] at h; exact h
        refine lv_aload_n hx hb dX1_covers_62 rfl (lv_at hl 0 rfl) ?_
        refine va_get (D := (dC, dI)) (ci := 1) (v := .ref a1) (C := RX1) (T := TX1) (N := 7) hx hb hts hiX1 hown hK hP 0 rfl rfl 4 (by decide) hf26 (fun _ h9 => h9) rfl dX1_covers_63 ?_
        refine va_get (D := (dC, dI)) (ci := 0) (v := .long (lN (V1 % 18446744073709551616))) (C := RX0) (T := TX0) (N := 4) hx hb hts hiX0 hown hK hP 1 rfl rfl 3 (by decide) hf66 (fun _ h9 => h9) rfl dX1_covers_66 ?_
        refine lv_aload_n hx hb dX1_covers_69 rfl (lv_at hl 0 rfl) ?_
        refine va_get (D := (dC, dI)) (ci := 1) (v := .ref a2) (C := RX1) (T := TX1) (N := 7) hx hb hts hiX1 hown hK hP 0 rfl rfl 5 (by decide) hf30 (fun _ h9 => h9) rfl dX1_covers_70 ?_
        refine va_get (D := (dC, dI)) (ci := 0) (v := .long (lN (V2 % 18446744073709551616))) (C := RX0) (T := TX0) (N := 4) hx hb hts hiX0 hown hK hP 2 rfl rfl 3 (by decide) hf66 (fun _ h9 => h9) rfl dX1_covers_73 ?_
        refine lv_lxor hx hb dX1_covers_76 ?_
        refine lv_aload_n hx hb dX1_covers_77 rfl (lv_at hl 0 rfl) ?_
        refine va_get (D := (dC, dI)) (ci := 1) (v := .ref a1) (C := RX1) (T := TX1) (N := 7) hx hb hts hiX1 hown hK hP 0 rfl rfl 4 (by decide) hf26 (fun _ h9 => h9) rfl dX1_covers_78 ?_
        refine rc_Vl (As := []) (rest := [.long ((lN (V1 % 18446744073709551616)) ^^^ (lN (V2 % 18446744073709551616)))]) ⟨hx, hb, hml, hown, hts⟩ (ct_lowerMask l dC dI a1 f1 l1 (lN (V1 / 18446744073709551616)) (lN (V1 % 18446744073709551616)) (az_ad_6 h1)) (cwV 0 hts gX1_covers_X0_lowerMask rfl rfl rfl (by decide +kernel) ⟨Nat.le_of_ble_eq_true rfl, Nat.le_of_ble_eq_true rfl⟩) (hP.sub [1] rfl) (hK.sub [] rfl) 0 rfl rfl rfl hl.1 rfl (Nat.le_of_ble_eq_true rfl) dX1_covers_81 ⟨(Nat.zero_le _), (Nat.zero_le _)⟩ ?_
        refine lv_land hx hb dX1_covers_84 ?_
        refine lv_lconst (v := lN 0) hx hb dX1_covers_85 (by decide) ?_
        refine W.lcmp hx hb dX1_covers_86 ?_
        refine lv_if_ne (tgt := 94) hx hb dX1_covers_87 (by decide) (fun c87 => ?_) (fun c87 => ?_)
        · have d87 : ¬ az_cut V1 (az_wl f1 - l1) % 18446744073709551616 = az_cut V2 (az_wl f1 - l1) % 18446744073709551616 := fun q => c87 (az_cmp0.mpr ((az_cov_l hk).mpr (by rw [hm]; exact q)))
          refine lv_iconst (v := nI 0) hx hb dX1_covers_94 (by decide) ?_
          exact rt_z hx hb hr (rfl) ((az_b_f (fun q => by first | exact c14 q.1 | exact absurd q.2.1 (by omega) | exact d59 (by rw [q.2.2]) | exact d87 (by rw [q.2.2]))).symm) dX1_covers_95 hlocks
        · have d87 : az_cut V1 (az_wl f1 - l1) % 18446744073709551616 = az_cut V2 (az_wl f1 - l1) % 18446744073709551616 := by have h := (az_cov_l hk).mp (az_cmp0.mp c87); rw [hm] at h; exact h
          refine lv_iconst (v := nI 1) hx hb dX1_covers_90 (by decide) ?_
          refine lv_goto (tgt := 95) hx hb dX1_covers_91 (by decide) ?_
          exact rt_z hx hb hr (rfl) ((az_b_t ⟨c14, c31, az_halves d59 d87⟩).symm) dX1_covers_95 hlocks
set_option maxRecDepth 100000 in
set_option maxHeartbeats 4000000 in
/-- isBelow(a, b) -/
theorem ct_isBelow (l : Launch) (a b : Nat) (ha : a < 18446744073709551616) (hb2 : b < 18446744073709551616) : Met l yX1_isBelow wsX1_isBelow ({ frames := 0, cells := 0, slots := 0, locals := 0 }) (va_Pc [.long (lN a), .long (lN b)] (fun _ => True)) (vp_Si (fun r => r = az_b (a < b))) 0 0 (fun _ => False) := by
  refine Met.ofW (cc := cX1_isBelow) (maxL := 4) (ret := (some .boolean)) (by decide) rfl ?_
  intro p e s m args below meth c s₁ Bd hml hv
  obtain ⟨rfl, -⟩ := hv
  have hx := Bd.exec
  have hb := Bd.bytes
  have hr := Bd.returns
  have hts := atoms_spec (ws := wsX1_isBelow) Bd.pre
  have hown : s.vm.findClass RX1 = some m.cls := findClass_of_methodNamed Bd.named
  have hlocks := Bd.notSynchronized
  have hl := lv_entry ([.long (lN a), .long (lN b)]) (n := 4) (Nat.le_of_ble_eq_true rfl)
  rw [lg_entry_eq]
  generalize (lg_sl ([.long (lN a), .long (lN b)]) ++ List.replicate (4 - (lg_sl ([.long (lN a), .long (lN b)])).length) Slot.unset).toArray = ls at hl ⊢
  have hl : lv_has ls 4 [(0, .long (lN a)), (2, .long (lN b))] := hl
  refine lv_lload_n hx hb dX1_isBelow_0 rfl (lv_at hl 0 rfl) ?_
  refine lv_ldc2 (v := -9223372036854775808) hx hb hown (hts (.constantLong RX1 149 (-9223372036854775808)) (by decide +kernel)) dX1_isBelow_1 ?_
  refine lv_lxor hx hb dX1_isBelow_4 ?_
  refine lv_lload_n hx hb dX1_isBelow_5 rfl (lv_at hl 1 rfl) ?_
  refine lv_ldc2 (v := -9223372036854775808) hx hb hown (hts (.constantLong RX1 149 (-9223372036854775808)) (by decide +kernel)) dX1_isBelow_6 ?_
  refine lv_lxor hx hb dX1_isBelow_9 ?_
  refine W.lcmp hx hb dX1_isBelow_10 ?_
  refine lv_if_ge (tgt := 18) hx hb dX1_isBelow_11 (by decide) (fun c11 => ?_) (fun c11 => ?_)
  · have d11 : b ≤ a := (ultL ha hb2).mp (az_cmpge.mp c11)
    refine lv_iconst (v := nI 0) hx hb dX1_isBelow_18 (by decide) ?_
    exact rt_z hx hb hr (rfl) ((az_b_f (by omega)).symm) dX1_isBelow_19 hlocks
  · have d11 : ¬ b ≤ a := fun q => c11 (az_cmpge.mpr ((ultL ha hb2).mpr q))
    refine lv_iconst (v := nI 1) hx hb dX1_isBelow_14 (by decide) ?_
    refine lv_goto (tgt := 19) hx hb dX1_isBelow_15 (by decide) ?_
    exact rt_z hx hb hr (rfl) ((az_b_t (by omega)).symm) dX1_isBelow_19 hlocks
set_option maxRecDepth 100000 in
set_option maxHeartbeats 4000000 in
/-- order() -/
theorem ct_order (l : Launch) (dC : Nat → ClassId) (dI : Nat → Nat → Nat) (h0 ht hw a1 a2 a3 n w : Nat) (f1 l1 V1 f2 l2 V2 : Nat) (h1 : az_ad f1 l1 V1) (h2 : az_ad f2 l2 V2) : Met l yX1_order wsX1_order ({ frames := 1, cells := 0, slots := 0, locals := 23 }) (rd_P (dC, dI) azCl [(h0, .inr (1, [.ref ht, .int (nI n), .ref hw, .int (nI w), .ref a1, .ref a2, .ref a3])), (a1, .inr (0, [.int (nI f1), .int (nI l1), .long (lN (V1 / 18446744073709551616)), .long (lN (V1 % 18446744073709551616))])), (a2, .inr (0, [.int (nI f2), .int (nI l2), .long (lN (V2 / 18446744073709551616)), .long (lN (V2 % 18446744073709551616))]))] [] [.ref h0]) (vp_Si (fun r => r = az_ord f1 V1 l1 f2 V2 l2)) 0 0 (fun _ => False) := by
  refine Met.ofW (cc := cX1_order) (maxL := 1) (ret := (some .int)) (by decide) rfl ?_
  intro p e s m args below meth c s₁ Bd hml hv
  obtain ⟨rfl, hP, hK⟩ := hv
  have hx := Bd.exec
  have hb := Bd.bytes
  have hr := Bd.returns
  have hts := atoms_spec (ws := wsX1_order) Bd.pre
  have hown : s.vm.findClass RX1 = some m.cls := findClass_of_methodNamed Bd.named
  have hlocks := Bd.notSynchronized
  have hiX1 : ∀ w ∈ wsX10, w ∈ wsX1_order := by decide +kernel
  have hiX0 : ∀ w ∈ wsX00, w ∈ wsX1_order := by decide +kernel
  have hf26 := hts (.fieldLink RX1 26 "AddressTexts" "one" "LAddressTexts$Address;") (by decide +kernel)
  have hf44 := hts (.fieldLink RX1 44 "AddressTexts$Address" "family" "I") (by decide +kernel)
  have hf30 := hts (.fieldLink RX1 30 "AddressTexts" "two" "LAddressTexts$Address;") (by decide +kernel)
  have hf58 := hts (.fieldLink RX1 58 "AddressTexts$Address" "upper" "J") (by decide +kernel)
  have hf66 := hts (.fieldLink RX1 66 "AddressTexts$Address" "lower" "J") (by decide +kernel)
  have hf55 := hts (.fieldLink RX1 55 "AddressTexts$Address" "prefixLength" "I") (by decide +kernel)
  have hl := lv_entry ([.ref h0]) (n := 1) (Nat.le_of_ble_eq_true rfl)
  rw [lg_entry_eq]
  generalize (lg_sl ([.ref h0]) ++ List.replicate (1 - (lg_sl ([.ref h0])).length) Slot.unset).toArray = ls at hl ⊢
  have hl : lv_has ls 1 [(0, .ref h0)] := hl
  have hV := az_ad_V h1
  have hU := az_ad_V h2
  have hf1 := az_ad_6 h1
  have hf2 := az_ad_6 h2
  have hl1 := h1.2
  have hl2 := h2.2
  have hw1 := az_wl_le f1
  have hw2 := az_wl_le f2
  have hm1 := Nat.mod_lt V1 (show 0 < 18446744073709551616 by decide)
  have hm2 := Nat.mod_lt V2 (show 0 < 18446744073709551616 by decide)
  refine lv_aload_n hx hb dX1_order_0 rfl (lv_at hl 0 rfl) ?_
  refine va_get (D := (dC, dI)) (ci := 1) (v := .ref a1) (C := RX1) (T := TX1) (N := 7) hx hb hts hiX1 hown hK hP 0 rfl rfl 4 (by decide) hf26 (fun _ h9 => h9) rfl dX1_order_1 ?_
  refine va_get (D := (dC, dI)) (ci := 0) (v := .int (nI f1)) (C := RX0) (T := TX0) (N := 4) hx hb hts hiX0 hown hK hP 1 rfl rfl 0 (by decide) hf44 (fun _ h9 => h9) rfl dX1_order_4 ?_
  refine lv_aload_n hx hb dX1_order_7 rfl (lv_at hl 0 rfl) ?_
  refine va_get (D := (dC, dI)) (ci := 1) (v := .ref a2) (C := RX1) (T := TX1) (N := 7) hx hb hts hiX1 hown hK hP 0 rfl rfl 5 (by decide) hf30 (fun _ h9 => h9) rfl dX1_order_8 ?_
  refine va_get (D := (dC, dI)) (ci := 0) (v := .int (nI f2)) (C := RX0) (T := TX0) (N := 4) hx hb hts hiX0 hown hK hP 2 rfl rfl 0 (by decide) hf44 (fun _ h9 => h9) rfl dX1_order_11 ?_
  refine bn_eq (tgt := 34) hx hb dX1_order_14 (by decide) (by omega) (by omega) (fun c14 => ?_) (fun c14 => ?_)
  · refine lv_aload_n hx hb dX1_order_34 rfl (lv_at hl 0 rfl) ?_
    refine va_get (D := (dC, dI)) (ci := 1) (v := .ref a1) (C := RX1) (T := TX1) (N := 7) hx hb hts hiX1 hown hK hP 0 rfl rfl 4 (by decide) hf26 (fun _ h9 => h9) rfl dX1_order_35 ?_
    refine va_get (D := (dC, dI)) (ci := 0) (v := .long (lN (V1 / 18446744073709551616))) (C := RX0) (T := TX0) (N := 4) hx hb hts hiX0 hown hK hP 1 rfl rfl 2 (by decide) hf58 (fun _ h9 => h9) rfl dX1_order_38 ?_
    refine lv_aload_n hx hb dX1_order_41 rfl (lv_at hl 0 rfl) ?_
    refine va_get (D := (dC, dI)) (ci := 1) (v := .ref a2) (C := RX1) (T := TX1) (N := 7) hx hb hts hiX1 hown hK hP 0 rfl rfl 5 (by decide) hf30 (fun _ h9 => h9) rfl dX1_order_42 ?_
    refine va_get (D := (dC, dI)) (ci := 0) (v := .long (lN (V2 / 18446744073709551616))) (C := RX0) (T := TX0) (N := 4) hx hb hts hiX0 hown hK hP 2 rfl rfl 2 (by decide) hf58 (fun _ h9 => h9) rfl dX1_order_45 ?_
    refine W.lcmp hx hb dX1_order_48 ?_
    refine lv_if_eq (tgt := 78) hx hb dX1_order_49 (by decide) (fun c49 => ?_) (fun c49 => ?_)
    · have d49 : V1 / 18446744073709551616 = V2 / 18446744073709551616 := (az_lN_eq (by omega) (by omega)).mp (az_cmp0.mp c49)
      refine lv_aload_n hx hb dX1_order_78 rfl (lv_at hl 0 rfl) ?_
      refine va_get (D := (dC, dI)) (ci := 1) (v := .ref a1) (C := RX1) (T := TX1) (N := 7) hx hb hts hiX1 hown hK hP 0 rfl rfl 4 (by decide) hf26 (fun _ h9 => h9) rfl dX1_order_79 ?_
      refine va_get (D := (dC, dI)) (ci := 0) (v := .long (lN (V1 % 18446744073709551616))) (C := RX0) (T := TX0) (N := 4) hx hb hts hiX0 hown hK hP 1 rfl rfl 3 (by decide) hf66 (fun _ h9 => h9) rfl dX1_order_82 ?_
      refine lv_aload_n hx hb dX1_order_85 rfl (lv_at hl 0 rfl) ?_
      refine va_get (D := (dC, dI)) (ci := 1) (v := .ref a2) (C := RX1) (T := TX1) (N := 7) hx hb hts hiX1 hown hK hP 0 rfl rfl 5 (by decide) hf30 (fun _ h9 => h9) rfl dX1_order_86 ?_
      refine va_get (D := (dC, dI)) (ci := 0) (v := .long (lN (V2 % 18446744073709551616))) (C := RX0) (T := TX0) (N := 4) hx hb hts hiX0 hown hK hP 2 rfl rfl 3 (by decide) hf66 (fun _ h9 => h9) rfl dX1_order_89 ?_
      refine W.lcmp hx hb dX1_order_92 ?_
      refine lv_if_eq (tgt := 122) hx hb dX1_order_93 (by decide) (fun c93 => ?_) (fun c93 => ?_)
      · have d93 : V1 % 18446744073709551616 = V2 % 18446744073709551616 := (az_lN_eq hm1 hm2).mp (az_cmp0.mp c93)
        refine lv_aload_n hx hb dX1_order_122 rfl (lv_at hl 0 rfl) ?_
        refine va_get (D := (dC, dI)) (ci := 1) (v := .ref a1) (C := RX1) (T := TX1) (N := 7) hx hb hts hiX1 hown hK hP 0 rfl rfl 4 (by decide) hf26 (fun _ h9 => h9) rfl dX1_order_123 ?_
        refine va_get (D := (dC, dI)) (ci := 0) (v := .int (nI l1)) (C := RX0) (T := TX0) (N := 4) hx hb hts hiX0 hown hK hP 1 rfl rfl 1 (by decide) hf55 (fun _ h9 => h9) rfl dX1_order_126 ?_
        refine lv_aload_n hx hb dX1_order_129 rfl (lv_at hl 0 rfl) ?_
        refine va_get (D := (dC, dI)) (ci := 1) (v := .ref a2) (C := RX1) (T := TX1) (N := 7) hx hb hts hiX1 hown hK hP 0 rfl rfl 5 (by decide) hf30 (fun _ h9 => h9) rfl dX1_order_130 ?_
        refine va_get (D := (dC, dI)) (ci := 0) (v := .int (nI l2)) (C := RX0) (T := TX0) (N := 4) hx hb hts hiX0 hown hK hP 2 rfl rfl 1 (by decide) hf55 (fun _ h9 => h9) rfl dX1_order_133 ?_
        refine bn_eq (tgt := 162) hx hb dX1_order_136 (by decide) (by omega) (by omega) (fun c136 => ?_) (fun c136 => ?_)
        · refine lv_iconst (v := nI 0) hx hb dX1_order_162 (by decide) ?_
          exact rt_i hx hb hr (by unfold az_ord; rw [if_neg (fun q => q c14), if_neg (fun q => q (az_halves d49 d93)), if_neg (fun q => q c136)]) dX1_order_163 hlocks
        · refine lv_aload_n hx hb dX1_order_139 rfl (lv_at hl 0 rfl) ?_
          refine va_get (D := (dC, dI)) (ci := 1) (v := .ref a1) (C := RX1) (T := TX1) (N := 7) hx hb hts hiX1 hown hK hP 0 rfl rfl 4 (by decide) hf26 (fun _ h9 => h9) rfl dX1_order_140 ?_
          refine va_get (D := (dC, dI)) (ci := 0) (v := .int (nI l1)) (C := RX0) (T := TX0) (N := 4) hx hb hts hiX0 hown hK hP 1 rfl rfl 1 (by decide) hf55 (fun _ h9 => h9) rfl dX1_order_143 ?_
          refine lv_aload_n hx hb dX1_order_146 rfl (lv_at hl 0 rfl) ?_
          refine va_get (D := (dC, dI)) (ci := 1) (v := .ref a2) (C := RX1) (T := TX1) (N := 7) hx hb hts hiX1 hown hK hP 0 rfl rfl 5 (by decide) hf30 (fun _ h9 => h9) rfl dX1_order_147 ?_
          refine va_get (D := (dC, dI)) (ci := 0) (v := .int (nI l2)) (C := RX0) (T := TX0) (N := 4) hx hb hts hiX0 hown hK hP 2 rfl rfl 1 (by decide) hf55 (fun _ h9 => h9) rfl dX1_order_150 ?_
          refine bn_ge (tgt := 160) hx hb dX1_order_153 (by decide) (by omega) (by omega) (fun c153 => ?_) (fun c153 => ?_)
          · refine lv_iconst (v := nI 1) hx hb dX1_order_160 (by decide) ?_
            exact rt_i hx hb hr (by unfold az_ord; rw [if_neg (fun q => q c14), if_neg (fun q => q (az_halves d49 d93)), if_pos c136]; first | rw [if_pos c153] | rw [if_neg (Nat.not_lt.mpr c153)]) dX1_order_161 hlocks
          · refine lv_iconst (v := -1) hx hb dX1_order_156 (by decide) ?_
            refine lv_goto (tgt := 161) hx hb dX1_order_157 (by decide) ?_
            exact rt_i hx hb hr (by unfold az_ord; rw [if_neg (fun q => q c14), if_neg (fun q => q (az_halves d49 d93)), if_pos c136]; first | rw [if_pos c153] | rw [if_neg (Nat.not_lt.mpr c153)]) dX1_order_161 hlocks
      · have d93 : ¬ V1 % 18446744073709551616 = V2 % 18446744073709551616 := fun q => c93 (az_cmp0.mpr (by rw [q]))
        refine lv_aload_n hx hb dX1_order_96 rfl (lv_at hl 0 rfl) ?_
        refine va_get (D := (dC, dI)) (ci := 1) (v := .ref a1) (C := RX1) (T := TX1) (N := 7) hx hb hts hiX1 hown hK hP 0 rfl rfl 4 (by decide) hf26 (fun _ h9 => h9) rfl dX1_order_97 ?_
        refine va_get (D := (dC, dI)) (ci := 0) (v := .long (lN (V1 % 18446744073709551616))) (C := RX0) (T := TX0) (N := 4) hx hb hts hiX0 hown hK hP 1 rfl rfl 3 (by decide) hf66 (fun _ h9 => h9) rfl dX1_order_100 ?_
        refine lv_aload_n hx hb dX1_order_103 rfl (lv_at hl 0 rfl) ?_
        refine va_get (D := (dC, dI)) (ci := 1) (v := .ref a2) (C := RX1) (T := TX1) (N := 7) hx hb hts hiX1 hown hK hP 0 rfl rfl 5 (by decide) hf30 (fun _ h9 => h9) rfl dX1_order_104 ?_
        refine va_get (D := (dC, dI)) (ci := 0) (v := .long (lN (V2 % 18446744073709551616))) (C := RX0) (T := TX0) (N := 4) hx hb hts hiX0 hown hK hP 2 rfl rfl 3 (by decide) hf66 (fun _ h9 => h9) rfl dX1_order_107 ?_
        refine rc_Si (As := [.long (lN (V1 % 18446744073709551616)), .long (lN (V2 % 18446744073709551616))]) (rest := []) ⟨hx, hb, hml, hown, hts⟩ (ct_isBelow l (V1 % 18446744073709551616) (V2 % 18446744073709551616) hm1 hm2) (cwS 2 hts gX1_order_X1_isBelow rfl rfl rfl (by decide +kernel) ⟨Nat.le_of_ble_eq_true rfl, Nat.le_of_ble_eq_true rfl⟩) rfl hl.1 rfl (Nat.le_of_ble_eq_true rfl) dX1_order_110 ⟨(Nat.zero_le _), (Nat.zero_le _)⟩ ?_
        by_cases hlt : V1 % 18446744073709551616 < V2 % 18446744073709551616
        · refine tp_i (nI 1) (az_b_t hlt) ?_
          refine lv_if_eq (tgt := 120) hx hb dX1_order_113 (by decide) (fun c => absurd c (by decide)) (fun _ => ?_)
          refine lv_iconst (v := -1) hx hb dX1_order_116 (by decide) ?_
          refine lv_goto (tgt := 121) hx hb dX1_order_117 (by decide) ?_
          exact rt_i hx hb hr (by unfold az_ord; rw [if_neg (fun q => q c14), if_pos (show V1 ≠ V2 from fun q => d93 (by rw [q]))]; first | rw [if_pos ((az_vlt2 d49).mpr hlt)] | rw [if_neg (fun q => hlt ((az_vlt2 d49).mp q))]) dX1_order_121 hlocks
        · refine tp_i (nI 0) (az_b_f hlt) ?_
          refine lv_if_eq (tgt := 120) hx hb dX1_order_113 (by decide) (fun _ => ?_) (fun c => absurd c (by decide))
          refine lv_iconst (v := nI 1) hx hb dX1_order_120 (by decide) ?_
          exact rt_i hx hb hr (by unfold az_ord; rw [if_neg (fun q => q c14), if_pos (show V1 ≠ V2 from fun q => d93 (by rw [q]))]; first | rw [if_pos ((az_vlt2 d49).mpr hlt)] | rw [if_neg (fun q => hlt ((az_vlt2 d49).mp q))]) dX1_order_121 hlocks
    · have d49 : ¬ V1 / 18446744073709551616 = V2 / 18446744073709551616 := fun q => c49 (az_cmp0.mpr (by rw [q]))
      refine lv_aload_n hx hb dX1_order_52 rfl (lv_at hl 0 rfl) ?_
      refine va_get (D := (dC, dI)) (ci := 1) (v := .ref a1) (C := RX1) (T := TX1) (N := 7) hx hb hts hiX1 hown hK hP 0 rfl rfl 4 (by decide) hf26 (fun _ h9 => h9) rfl dX1_order_53 ?_
      refine va_get (D := (dC, dI)) (ci := 0) (v := .long (lN (V1 / 18446744073709551616))) (C := RX0) (T := TX0) (N := 4) hx hb hts hiX0 hown hK hP 1 rfl rfl 2 (by decide) hf58 (fun _ h9 => h9) rfl dX1_order_56 ?_
      refine lv_aload_n hx hb dX1_order_59 rfl (lv_at hl 0 rfl) ?_
      refine va_get (D := (dC, dI)) (ci := 1) (v := .ref a2) (C := RX1) (T := TX1) (N := 7) hx hb hts hiX1 hown hK hP 0 rfl rfl 5 (by decide) hf30 (fun _ h9 => h9) rfl dX1_order_60 ?_
      refine va_get (D := (dC, dI)) (ci := 0) (v := .long (lN (V2 / 18446744073709551616))) (C := RX0) (T := TX0) (N := 4) hx hb hts hiX0 hown hK hP 2 rfl rfl 2 (by decide) hf58 (fun _ h9 => h9) rfl dX1_order_63 ?_
      refine rc_Si (As := [.long (lN (V1 / 18446744073709551616)), .long (lN (V2 / 18446744073709551616))]) (rest := []) ⟨hx, hb, hml, hown, hts⟩ (ct_isBelow l (V1 / 18446744073709551616) (V2 / 18446744073709551616) (by omega) (by omega)) (cwS 2 hts gX1_order_X1_isBelow rfl rfl rfl (by decide +kernel) ⟨Nat.le_of_ble_eq_true rfl, Nat.le_of_ble_eq_true rfl⟩) rfl hl.1 rfl (Nat.le_of_ble_eq_true rfl) dX1_order_66 ⟨(Nat.zero_le _), (Nat.zero_le _)⟩ ?_
      by_cases hlt : V1 / 18446744073709551616 < V2 / 18446744073709551616
      · refine tp_i (nI 1) (az_b_t hlt) ?_
        refine lv_if_eq (tgt := 76) hx hb dX1_order_69 (by decide) (fun c => absurd c (by decide)) (fun _ => ?_)
        refine lv_iconst (v := -1) hx hb dX1_order_72 (by decide) ?_
        refine lv_goto (tgt := 77) hx hb dX1_order_73 (by decide) ?_
        exact rt_i hx hb hr (by unfold az_ord; rw [if_neg (fun q => q c14), if_pos (show V1 ≠ V2 from fun q => d49 (by rw [q]))]; first | rw [if_pos ((az_vlt d49).mpr hlt)] | rw [if_neg (fun q => hlt ((az_vlt d49).mp q))]) dX1_order_77 hlocks
      · refine tp_i (nI 0) (az_b_f hlt) ?_
        refine lv_if_eq (tgt := 76) hx hb dX1_order_69 (by decide) (fun _ => ?_) (fun c => absurd c (by decide))
        refine lv_iconst (v := nI 1) hx hb dX1_order_76 (by decide) ?_
        exact rt_i hx hb hr (by unfold az_ord; rw [if_neg (fun q => q c14), if_pos (show V1 ≠ V2 from fun q => d49 (by rw [q]))]; first | rw [if_pos ((az_vlt d49).mpr hlt)] | rw [if_neg (fun q => hlt ((az_vlt d49).mp q))]) dX1_order_77 hlocks
  · refine lv_aload_n hx hb dX1_order_17 rfl (lv_at hl 0 rfl) ?_
    refine va_get (D := (dC, dI)) (ci := 1) (v := .ref a1) (C := RX1) (T := TX1) (N := 7) hx hb hts hiX1 hown hK hP 0 rfl rfl 4 (by decide) hf26 (fun _ h9 => h9) rfl dX1_order_18 ?_
    refine va_get (D := (dC, dI)) (ci := 0) (v := .int (nI f1)) (C := RX0) (T := TX0) (N := 4) hx hb hts hiX0 hown hK hP 1 rfl rfl 0 (by decide) hf44 (fun _ h9 => h9) rfl dX1_order_21 ?_
    refine lv_iconst (v := nI 4) hx hb dX1_order_24 (by decide) ?_
    refine bn_ne (tgt := 32) hx hb dX1_order_25 (by decide) (by omega) (by omega) (fun c25 => ?_) (fun c25 => ?_)
    · refine lv_iconst (v := nI 1) hx hb dX1_order_32 (by decide) ?_
      exact rt_i hx hb hr (by unfold az_ord; rw [if_pos c14]; first | rw [if_pos c25] | rw [if_neg c25]) dX1_order_33 hlocks
    · refine lv_iconst (v := -1) hx hb dX1_order_28 (by decide) ?_
      refine lv_goto (tgt := 33) hx hb dX1_order_29 (by decide) ?_
      exact rt_i hx hb hr (by unfold az_ord; rw [if_pos c14]; first | rw [if_pos c25] | rw [if_neg c25]) dX1_order_33 hlocks
set_option maxRecDepth 100000 in
set_option maxHeartbeats 4000000 in
/-- length() -/
theorem ct_length (l : Launch) (dC : Nat → ClassId) (dI : Nat → Nat → Nat) (sz : Nat) (h0 ht hw a1 a2 a3 n w : Nat) (cT : ClassId) (f : Nat → Int32) (T : Nat → Nat) (hT : az_tp f T n) (hn : n ≤ 60) (f1 l1 V1 : Nat) (h1 : az_ad f1 l1 V1) : Met l yX1_length wsX1_length ({ frames := 3, cells := 0, slots := 0, locals := 70 }) (wr_P (dC, dI) azCl [(h0, .inr (1, [.ref ht, .int (nI n), .ref hw, .int (nI w), .ref a1, .ref a2, .ref a3])), (ht, .inl (cT, 60, .inl f)), (a1, .inr (0, [.int (nI f1), .int (nI l1), .long (lN (V1 / 18446744073709551616)), .long (lN (V1 % 18446744073709551616))]))] [(cT, .byte)] sz [.ref h0]) (va_Qi (fun r u => (az_dc T 0 n (az_wl f1) = none ∧ r = -1 ∧ u = l1) ∨ (az_dc T 0 n (az_wl f1) = some u ∧ r = nI u ∧ u ≤ az_wl f1)) (wr_B (dC, dI) azCl [(cT, .byte)] (va_A [(h0, .inr (1, [.ref ht, .int (nI n), .ref hw, .int (nI w), .ref a1, .ref a2, .ref a3])), (ht, .inl (cT, 60, .inl f)), (a1, .inr (0, [.int (nI f1), .int (nI l1), .long (lN (V1 / 18446744073709551616)), .long (lN (V1 % 18446744073709551616))]))] sz) (fun u : Nat => [(h0, .inr (1, [.ref ht, .int (nI 0), .ref hw, .int (nI w), .ref a1, .ref a2, .ref a3])), (ht, .inl (cT, 60, .inl f)), (a1, .inr (0, [.int (nI f1), .int (nI u), .long (lN (V1 / 18446744073709551616)), .long (lN (V1 % 18446744073709551616))]))])) (va_A [(h0, .inr (1, [.ref ht, .int (nI n), .ref hw, .int (nI w), .ref a1, .ref a2, .ref a3])), (ht, .inl (cT, 60, .inl f)), (a1, .inr (0, [.int (nI f1), .int (nI l1), .long (lN (V1 / 18446744073709551616)), .long (lN (V1 % 18446744073709551616))]))] sz)) 0 0 (va_A [(h0, .inr (1, [.ref ht, .int (nI n), .ref hw, .int (nI w), .ref a1, .ref a2, .ref a3])), (ht, .inl (cT, 60, .inl f)), (a1, .inr (0, [.int (nI f1), .int (nI l1), .long (lN (V1 / 18446744073709551616)), .long (lN (V1 % 18446744073709551616))]))] sz) := by
  refine Met.ofW (cc := cX1_length) (maxL := 2) (ret := (some .int)) (by decide) rfl ?_
  intro p e s m args below meth c s₁ Bd hml hv
  obtain ⟨rfl, hsz, hP, hK, hD0⟩ := hv
  have hx := Bd.exec
  have hb := Bd.bytes
  have hr := Bd.returns
  have hts := atoms_spec (ws := wsX1_length) Bd.pre
  have hown : s.vm.findClass RX1 = some m.cls := findClass_of_methodNamed Bd.named
  have hlocks := Bd.notSynchronized
  subst hsz
  have hD := hD0.self (sz := s.heap.size)
  generalize hAe : va_A [(h0, .inr (1, [.ref ht, .int (nI n), .ref hw, .int (nI w), .ref a1, .ref a2, .ref a3])), (ht, .inl (cT, 60, .inl f)), (a1, .inr (0, [.int (nI f1), .int (nI l1), .long (lN (V1 / 18446744073709551616)), .long (lN (V1 % 18446744073709551616))]))] s.heap.size = A at hD ⊢
  have hA : ∀ q : Nat, s.heap.size ≤ q → A q := fun q h => by rw [← hAe]; exact Or.inr h
  have hS : va_S A s.heap s.heap [] := va_S.rf
  have hP : va_P (dC, dI) azCl [(h0, .inr (1, [.ref ht, .int (nI n), .ref hw, .int (nI w), .ref a1, .ref a2, .ref a3])), (ht, .inl (cT, 60, .inl f)), (a1, .inr (0, [.int (nI f1), .int (nI l1), .long (lN (V1 / 18446744073709551616)), .long (lN (V1 % 18446744073709551616))]))] s.heap := hP
  have hiX1 : ∀ w ∈ wsX10, w ∈ wsX1_length := by decide +kernel
  have hiX0 : ∀ w ∈ wsX00, w ∈ wsX1_length := by decide +kernel
  have hf13 := hts (.fieldLink RX1 13 "AddressTexts" "tapeCount" "I") (by decide +kernel)
  have hf26 := hts (.fieldLink RX1 26 "AddressTexts" "one" "LAddressTexts$Address;") (by decide +kernel)
  have hf55 := hts (.fieldLink RX1 55 "AddressTexts$Address" "prefixLength" "I") (by decide +kernel)
  have hl := lv_entry ([.ref h0]) (n := 2) (Nat.le_of_ble_eq_true rfl)
  rw [lg_entry_eq]
  generalize (lg_sl ([.ref h0]) ++ List.replicate (2 - (lg_sl ([.ref h0])).length) Slot.unset).toArray = ls at hl ⊢
  have hl : lv_has ls 2 [(0, .ref h0)] := hl
  have hwl := az_wl_le f1
  refine lv_aload_n hx hb dX1_length_0 rfl (lv_at hl 0 rfl) ?_
  refine lv_iconst (v := nI 0) hx hb dX1_length_1 (by decide) ?_
  refine lv_aload_n hx hb dX1_length_2 rfl (lv_at hl 0 rfl) ?_
  refine va_get (D := (dC, dI)) (ci := 1) (v := .int (nI n)) (C := RX1) (T := TX1) (N := 7) hx hb hts hiX1 hown hK hP 0 rfl rfl 1 (by decide) hf13 (fun _ h9 => h9) rfl dX1_length_3 ?_
  refine lv_aload_n hx hb dX1_length_6 rfl (lv_at hl 0 rfl) ?_
  refine va_get (D := (dC, dI)) (ci := 1) (v := .ref a1) (C := RX1) (T := TX1) (N := 7) hx hb hts hiX1 hown hK hP 0 rfl rfl 4 (by decide) hf26 (fun _ h9 => h9) rfl dX1_length_7 ?_
  refine rc_Vi (As := []) (rest := [.int (nI n), .int (nI 0), .ref h0]) ⟨hx, hb, hml, hown, hts⟩ (ct_wholeLength l dC dI a1 f1 (nI l1) (lN (V1 / 18446744073709551616)) (lN (V1 % 18446744073709551616)) (az_ad_6 h1)) (cwV 0 hts gX1_length_X0_wholeLength rfl rfl rfl (by decide +kernel) ⟨Nat.le_of_ble_eq_true rfl, Nat.le_of_ble_eq_true rfl⟩) (hP.sub [2] rfl) (hK.sub [] rfl) 0 rfl rfl rfl hl.1 rfl (Nat.le_of_ble_eq_true rfl) dX1_length_10 ⟨(Nat.zero_le _), (Nat.zero_le _)⟩ ?_
  refine rc_Vi (As := [.int (nI 0), .int (nI n), .int (nI (az_wl f1))]) (rest := []) ⟨hx, hb, hml, hown, hts⟩ (ct_decimalIn l dC dI h0 ht hw a1 a2 a3 n w cT f T hT hn 0 n (az_wl f1) (by omega) (Nat.le_refl _) (fun q => q) (by omega)) (cwV 3 hts gX1_length_X1_decimalIn rfl rfl rfl (by decide +kernel) ⟨Nat.le_of_ble_eq_true rfl, Nat.le_of_ble_eq_true rfl⟩) (hP.sub [0, 1] rfl) (hK.sub [0] rfl) 0 rfl rfl rfl hl.1 rfl (Nat.le_of_ble_eq_true rfl) dX1_length_13 ⟨(Nat.zero_le _), (Nat.zero_le _)⟩ ?_
  rcases hd : az_dc T 0 n (az_wl f1) with _ | d
  · refine tp_i (-1) (rfl) ?_
    refine lv_istore_n (lv' := [(1, .int (-1)), (0, .ref h0)]) hx hb dX1_length_16 rfl hl (by decide) rfl (fun ls hl => ?_)
    refine lv_aload_n hx hb dX1_length_17 rfl (lv_at hl 1 rfl) ?_
    refine lv_iconst (v := nI 0) hx hb dX1_length_18 (by decide) ?_
    refine va_put (D := (dC, dI)) (ci := 1) (v := .int (nI 0)) (ty := .int) (C := RX1) (T := TX1) (N := 7) hx hb hts hiX1 tyX1 tyX1_ok nmX1 hown hK hP hD hS 0 rfl rfl 1 (by decide) hf13 (fun _ h9 => h9) rfl (by decide +kernel) rfl rfl (Nat.le_of_ble_eq_true rfl) dX1_length_19 (fun H locs hP hD hS => ?_)
    have hP : va_P (dC, dI) azCl [(h0, .inr (1, [.ref ht, .int (nI 0), .ref hw, .int (nI w), .ref a1, .ref a2, .ref a3])), (ht, .inl (cT, 60, .inl f)), (a1, .inr (0, [.int (nI f1), .int (nI l1), .long (lN (V1 / 18446744073709551616)), .long (lN (V1 % 18446744073709551616))]))] H := hP
    have hD : va_D A [(h0, .inr (1, [.ref ht, .int (nI 0), .ref hw, .int (nI w), .ref a1, .ref a2, .ref a3])), (ht, .inl (cT, 60, .inl f)), (a1, .inr (0, [.int (nI f1), .int (nI l1), .long (lN (V1 / 18446744073709551616)), .long (lN (V1 % 18446744073709551616))]))] := hD
    refine lv_iload_n hx hb dX1_length_22 rfl (lv_at hl 0 rfl) ?_
    refine lv_iconst (v := -1) hx hb dX1_length_23 (by decide) ?_
    refine lv_icmp_eq (tgt := 35) hx hb dX1_length_24 (by decide) (fun _ => ?_) (fun c => absurd c (by decide))
    refine lv_iload_n hx hb dX1_length_35 rfl (lv_at hl 0 rfl) ?_
    exact wt_i hx hb hr (l1) (Or.inl ⟨by first | rfl | exact hd, rfl, rfl⟩) (hP.sub [0, 1, 2] rfl) hK (hD.sub [0, 1, 2] (by decide) rfl) hS dX1_length_36 hlocks
  · have hdl := az_dc_le hd
    refine tp_i (nI d) (rfl) ?_
    refine lv_istore_n (lv' := [(1, .int (nI d)), (0, .ref h0)]) hx hb dX1_length_16 rfl hl (by decide) rfl (fun ls hl => ?_)
    refine lv_aload_n hx hb dX1_length_17 rfl (lv_at hl 1 rfl) ?_
    refine lv_iconst (v := nI 0) hx hb dX1_length_18 (by decide) ?_
    refine va_put (D := (dC, dI)) (ci := 1) (v := .int (nI 0)) (ty := .int) (C := RX1) (T := TX1) (N := 7) hx hb hts hiX1 tyX1 tyX1_ok nmX1 hown hK hP hD hS 0 rfl rfl 1 (by decide) hf13 (fun _ h9 => h9) rfl (by decide +kernel) rfl rfl (Nat.le_of_ble_eq_true rfl) dX1_length_19 (fun H locs hP hD hS => ?_)
    have hP : va_P (dC, dI) azCl [(h0, .inr (1, [.ref ht, .int (nI 0), .ref hw, .int (nI w), .ref a1, .ref a2, .ref a3])), (ht, .inl (cT, 60, .inl f)), (a1, .inr (0, [.int (nI f1), .int (nI l1), .long (lN (V1 / 18446744073709551616)), .long (lN (V1 % 18446744073709551616))]))] H := hP
    have hD : va_D A [(h0, .inr (1, [.ref ht, .int (nI 0), .ref hw, .int (nI w), .ref a1, .ref a2, .ref a3])), (ht, .inl (cT, 60, .inl f)), (a1, .inr (0, [.int (nI f1), .int (nI l1), .long (lN (V1 / 18446744073709551616)), .long (lN (V1 % 18446744073709551616))]))] := hD
    refine lv_iload_n hx hb dX1_length_22 rfl (lv_at hl 0 rfl) ?_
    refine lv_iconst (v := -1) hx hb dX1_length_23 (by decide) ?_
    refine lv_icmp_eq (tgt := 35) hx hb dX1_length_24 (by decide) (fun c => absurd c (nI_m1 (by omega))) (fun _ => ?_)
    refine lv_aload_n hx hb dX1_length_27 rfl (lv_at hl 1 rfl) ?_
    refine va_get (D := (dC, dI)) (ci := 1) (v := .ref a1) (C := RX1) (T := TX1) (N := 7) hx hb hts hiX1 hown hK hP 0 rfl rfl 4 (by decide) hf26 (fun _ h9 => h9) rfl dX1_length_28 ?_
    refine lv_iload_n hx hb dX1_length_31 rfl (lv_at hl 0 rfl) ?_
    refine va_put (D := (dC, dI)) (ci := 0) (v := .int (nI d)) (ty := .int) (C := RX0) (T := TX0) (N := 4) hx hb hts hiX0 tyX0 tyX0_ok nmX0 hown hK hP hD hS 2 rfl rfl 1 (by decide) hf55 (fun _ h9 => h9) rfl (by decide +kernel) rfl rfl (Nat.le_of_ble_eq_true rfl) dX1_length_32 (fun H locs hP hD hS => ?_)
    have hP : va_P (dC, dI) azCl [(h0, .inr (1, [.ref ht, .int (nI 0), .ref hw, .int (nI w), .ref a1, .ref a2, .ref a3])), (ht, .inl (cT, 60, .inl f)), (a1, .inr (0, [.int (nI f1), .int (nI d), .long (lN (V1 / 18446744073709551616)), .long (lN (V1 % 18446744073709551616))]))] H := hP
    have hD : va_D A [(h0, .inr (1, [.ref ht, .int (nI 0), .ref hw, .int (nI w), .ref a1, .ref a2, .ref a3])), (ht, .inl (cT, 60, .inl f)), (a1, .inr (0, [.int (nI f1), .int (nI d), .long (lN (V1 / 18446744073709551616)), .long (lN (V1 % 18446744073709551616))]))] := hD
    refine lv_iload_n hx hb dX1_length_35 rfl (lv_at hl 0 rfl) ?_
    exact wt_i hx hb hr (d) (Or.inr ⟨by first | rfl | exact hd, rfl, hdl⟩) (hP.sub [0, 1, 2] rfl) hK (hD.sub [0, 1, 2] (by decide) rfl) hS dX1_length_36 hlocks
set_option maxRecDepth 100000 in
set_option maxHeartbeats 4000000 in
/-- read() -/
theorem ct_read (l : Launch) (dC : Nat → ClassId) (dI : Nat → Nat → Nat) (sz : Nat) (h0 ht hw a1 a2 a3 n w : Nat) (cT : ClassId) (f : Nat → Int32) (T : Nat → Nat) (hT : az_tp f T n) (hn : n ≤ 60) (e1 e2 : Int32) (e3 e4 : Int64) : Met l yX1_read wsX1_read ({ frames := 6, cells := 0, slots := 0, locals := 140 }) (wr_P (dC, dI) azCl [(h0, .inr (1, [.ref ht, .int (nI n), .ref hw, .int (nI w), .ref a1, .ref a2, .ref a3])), (ht, .inl (cT, 60, .inl f)), (a3, .inr (0, [.int e1, .int e2, .long e3, .long e4]))] [(cT, .byte)] sz [.ref h0]) (va_Qi (fun r u => az_ok (u.2.2.2.1, u.2.2.2.2) ∧ ((az_text T n = none ∧ r = -1 ∧ u.1 = a1 ∧ u.2.1 = a2 ∧ u.2.2.1 = a3) ∨ (az_text T n = some (u.2.2.2.1, u.2.2.2.2) ∧ r = nI u.2.2.2.1 ∧ u.1 = a3 ∧ u.2.1 = a1 ∧ u.2.2.1 = a2))) (wr_B (dC, dI) azCl [(cT, .byte)] (va_A [(h0, .inr (1, [.ref ht, .int (nI n), .ref hw, .int (nI w), .ref a1, .ref a2, .ref a3])), (ht, .inl (cT, 60, .inl f)), (a3, .inr (0, [.int e1, .int e2, .long e3, .long e4]))] sz) (fun u : Nat × Nat × Nat × Nat × Nat => [(h0, .inr (1, [.ref ht, .int (nI 0), .ref hw, .int (nI w), .ref u.1, .ref u.2.1, .ref u.2.2.1])), (ht, .inl (cT, 60, .inl f)), (a3, .inr (0, [.int (nI u.2.2.2.1), .int (nI (az_wl u.2.2.2.1)), .long (lN (u.2.2.2.2 / 18446744073709551616)), .long (lN (u.2.2.2.2 % 18446744073709551616))]))])) (va_A [(h0, .inr (1, [.ref ht, .int (nI n), .ref hw, .int (nI w), .ref a1, .ref a2, .ref a3])), (ht, .inl (cT, 60, .inl f)), (a3, .inr (0, [.int e1, .int e2, .long e3, .long e4]))] sz)) 0 0 (va_A [(h0, .inr (1, [.ref ht, .int (nI n), .ref hw, .int (nI w), .ref a1, .ref a2, .ref a3])), (ht, .inl (cT, 60, .inl f)), (a3, .inr (0, [.int e1, .int e2, .long e3, .long e4]))] sz) := by
  refine Met.ofW (cc := cX1_read) (maxL := 3) (ret := (some .int)) (by decide) rfl ?_
  intro p e s m args below meth c s₁ Bd hml hv
  obtain ⟨rfl, hsz, hP, hK, hD0⟩ := hv
  have hx := Bd.exec
  have hb := Bd.bytes
  have hr := Bd.returns
  have hts := atoms_spec (ws := wsX1_read) Bd.pre
  have hown : s.vm.findClass RX1 = some m.cls := findClass_of_methodNamed Bd.named
  have hlocks := Bd.notSynchronized
  subst hsz
  have hD := hD0.self (sz := s.heap.size)
  generalize hAe : va_A [(h0, .inr (1, [.ref ht, .int (nI n), .ref hw, .int (nI w), .ref a1, .ref a2, .ref a3])), (ht, .inl (cT, 60, .inl f)), (a3, .inr (0, [.int e1, .int e2, .long e3, .long e4]))] s.heap.size = A at hD ⊢
  have hA : ∀ q : Nat, s.heap.size ≤ q → A q := fun q h => by rw [← hAe]; exact Or.inr h
  have hS : va_S A s.heap s.heap [] := va_S.rf
  have hP : va_P (dC, dI) azCl [(h0, .inr (1, [.ref ht, .int (nI n), .ref hw, .int (nI w), .ref a1, .ref a2, .ref a3])), (ht, .inl (cT, 60, .inl f)), (a3, .inr (0, [.int e1, .int e2, .long e3, .long e4]))] s.heap := hP
  have hiX1 : ∀ w ∈ wsX10, w ∈ wsX1_read := by decide +kernel
  have hiX0 : ∀ w ∈ wsX00, w ∈ wsX1_read := by decide +kernel
  have hf13 := hts (.fieldLink RX1 13 "AddressTexts" "tapeCount" "I") (by decide +kernel)
  have hf30 := hts (.fieldLink RX1 30 "AddressTexts" "two" "LAddressTexts$Address;") (by decide +kernel)
  have hf26 := hts (.fieldLink RX1 26 "AddressTexts" "one" "LAddressTexts$Address;") (by decide +kernel)
  have hf33 := hts (.fieldLink RX1 33 "AddressTexts" "spare" "LAddressTexts$Address;") (by decide +kernel)
  have hf44 := hts (.fieldLink RX1 44 "AddressTexts$Address" "family" "I") (by decide +kernel)
  have hl := lv_entry ([.ref h0]) (n := 3) (Nat.le_of_ble_eq_true rfl)
  rw [lg_entry_eq]
  generalize (lg_sl ([.ref h0]) ++ List.replicate (3 - (lg_sl ([.ref h0])).length) Slot.unset).toArray = ls at hl ⊢
  have hl : lv_has ls 3 [(0, .ref h0)] := hl
  refine lv_aload_n hx hb dX1_read_0 rfl (lv_at hl 0 rfl) ?_
  refine wc_Vi (As := []) (rest := []) (wr := []) ⟨hx, hb, hml, hown, hts⟩ (ct_readText l dC dI s.heap.size h0 ht hw a1 a2 a3 n w cT f T hT hn e1 e2 e3 e4) (cwV 0 hts gX1_read_X1_readText rfl rfl rfl (by decide +kernel) ⟨Nat.le_of_ble_eq_true rfl, Nat.le_of_ble_eq_true rfl⟩) hP hD hK hS hA [0, 1, 2] [] [0] rfl rfl (by decide) (by decide) (by decide) rfl 0 rfl rfl rfl hl.1 rfl (Nat.le_of_ble_eq_true rfl) dX1_read_1 ⟨(Nat.zero_le _), (Nat.zero_le _)⟩ (fun r1 u1 H locs hp1 hP hD hS => ?_)
  obtain ⟨fm, V⟩ := u1
  try dsimp only at hp1
  have hP : va_P (dC, dI) azCl [(h0, .inr (1, [.ref ht, .int (nI n), .ref hw, .int (nI w), .ref a1, .ref a2, .ref a3])), (ht, .inl (cT, 60, .inl f)), (a3, .inr (0, [.int (nI fm), .int (nI (az_wl fm)), .long (lN (V / 18446744073709551616)), .long (lN (V % 18446744073709551616))]))] H := hP
  have hD : va_D A [(h0, .inr (1, [.ref ht, .int (nI n), .ref hw, .int (nI w), .ref a1, .ref a2, .ref a3])), (ht, .inl (cT, 60, .inl f)), (a3, .inr (0, [.int (nI fm), .int (nI (az_wl fm)), .long (lN (V / 18446744073709551616)), .long (lN (V % 18446744073709551616))]))] := hD
  obtain ⟨hu, ⟨ea, er⟩ | ⟨ea, er⟩⟩ := hp1
  · subst er
    refine lv_istore_n (lv' := [(1, .int (nI 0)), (0, .ref h0)]) hx hb dX1_read_4 rfl hl (by decide) rfl (fun ls hl => ?_)
    refine lv_aload_n hx hb dX1_read_5 rfl (lv_at hl 1 rfl) ?_
    refine lv_iconst (v := nI 0) hx hb dX1_read_6 (by decide) ?_
    refine va_put (D := (dC, dI)) (ci := 1) (v := .int (nI 0)) (ty := .int) (C := RX1) (T := TX1) (N := 7) hx hb hts hiX1 tyX1 tyX1_ok nmX1 hown hK hP hD hS 0 rfl rfl 1 (by decide) hf13 (fun _ h9 => h9) rfl (by decide +kernel) rfl rfl (Nat.le_of_ble_eq_true rfl) dX1_read_7 (fun H locs hP hD hS => ?_)
    have hP : va_P (dC, dI) azCl [(h0, .inr (1, [.ref ht, .int (nI 0), .ref hw, .int (nI w), .ref a1, .ref a2, .ref a3])), (ht, .inl (cT, 60, .inl f)), (a3, .inr (0, [.int (nI fm), .int (nI (az_wl fm)), .long (lN (V / 18446744073709551616)), .long (lN (V % 18446744073709551616))]))] H := hP
    have hD : va_D A [(h0, .inr (1, [.ref ht, .int (nI 0), .ref hw, .int (nI w), .ref a1, .ref a2, .ref a3])), (ht, .inl (cT, 60, .inl f)), (a3, .inr (0, [.int (nI fm), .int (nI (az_wl fm)), .long (lN (V / 18446744073709551616)), .long (lN (V % 18446744073709551616))]))] := hD
    refine lv_iload_n hx hb dX1_read_10 rfl (lv_at hl 0 rfl) ?_
    refine lv_if_ne (tgt := 16) hx hb dX1_read_11 (by decide) (fun c => absurd c (by decide)) (fun _ => ?_)
    refine lv_iconst (v := -1) hx hb dX1_read_14 (by decide) ?_
    exact wt_i hx hb hr ((a1, a2, a3, fm, V)) (⟨hu, Or.inl ⟨ea, rfl, rfl, rfl, rfl⟩⟩) (hP.sub [0, 1, 2] rfl) hK (hD.sub [0, 1, 2] (by decide) rfl) hS dX1_read_15 hlocks
  · subst er
    refine lv_istore_n (lv' := [(1, .int (nI 1)), (0, .ref h0)]) hx hb dX1_read_4 rfl hl (by decide) rfl (fun ls hl => ?_)
    refine lv_aload_n hx hb dX1_read_5 rfl (lv_at hl 1 rfl) ?_
    refine lv_iconst (v := nI 0) hx hb dX1_read_6 (by decide) ?_
    refine va_put (D := (dC, dI)) (ci := 1) (v := .int (nI 0)) (ty := .int) (C := RX1) (T := TX1) (N := 7) hx hb hts hiX1 tyX1 tyX1_ok nmX1 hown hK hP hD hS 0 rfl rfl 1 (by decide) hf13 (fun _ h9 => h9) rfl (by decide +kernel) rfl rfl (Nat.le_of_ble_eq_true rfl) dX1_read_7 (fun H locs hP hD hS => ?_)
    have hP : va_P (dC, dI) azCl [(h0, .inr (1, [.ref ht, .int (nI 0), .ref hw, .int (nI w), .ref a1, .ref a2, .ref a3])), (ht, .inl (cT, 60, .inl f)), (a3, .inr (0, [.int (nI fm), .int (nI (az_wl fm)), .long (lN (V / 18446744073709551616)), .long (lN (V % 18446744073709551616))]))] H := hP
    have hD : va_D A [(h0, .inr (1, [.ref ht, .int (nI 0), .ref hw, .int (nI w), .ref a1, .ref a2, .ref a3])), (ht, .inl (cT, 60, .inl f)), (a3, .inr (0, [.int (nI fm), .int (nI (az_wl fm)), .long (lN (V / 18446744073709551616)), .long (lN (V % 18446744073709551616))]))] := hD
    refine lv_iload_n hx hb dX1_read_10 rfl (lv_at hl 0 rfl) ?_
    refine lv_if_ne (tgt := 16) hx hb dX1_read_11 (by decide) (fun _ => ?_) (fun c => absurd c (by decide))
    refine lv_aload_n hx hb dX1_read_16 rfl (lv_at hl 1 rfl) ?_
    refine va_get (D := (dC, dI)) (ci := 1) (v := .ref a2) (C := RX1) (T := TX1) (N := 7) hx hb hts hiX1 hown hK hP 0 rfl rfl 5 (by decide) hf30 (fun _ h9 => h9) rfl dX1_read_17 ?_
    refine lv_astore_n (lv' := [(2, .ref a2), (1, .int (nI 1)), (0, .ref h0)]) hx hb dX1_read_20 rfl hl (by decide) rfl (fun ls hl => ?_)
    refine lv_aload_n hx hb dX1_read_21 rfl (lv_at hl 2 rfl) ?_
    refine lv_aload_n hx hb dX1_read_22 rfl (lv_at hl 2 rfl) ?_
    refine va_get (D := (dC, dI)) (ci := 1) (v := .ref a1) (C := RX1) (T := TX1) (N := 7) hx hb hts hiX1 hown hK hP 0 rfl rfl 4 (by decide) hf26 (fun _ h9 => h9) rfl dX1_read_23 ?_
    refine va_put (D := (dC, dI)) (ci := 1) (v := .ref a1) (ty := .object "AddressTexts$Address") (C := RX1) (T := TX1) (N := 7) hx hb hts hiX1 tyX1 tyX1_ok nmX1 hown hK hP hD hS 0 rfl rfl 5 (by decide) hf30 (fun _ h9 => h9) rfl (by decide +kernel) rfl rfl (Nat.le_of_ble_eq_true rfl) dX1_read_26 (fun H locs hP hD hS => ?_)
    have hP : va_P (dC, dI) azCl [(h0, .inr (1, [.ref ht, .int (nI 0), .ref hw, .int (nI w), .ref a1, .ref a1, .ref a3])), (ht, .inl (cT, 60, .inl f)), (a3, .inr (0, [.int (nI fm), .int (nI (az_wl fm)), .long (lN (V / 18446744073709551616)), .long (lN (V % 18446744073709551616))]))] H := hP
    have hD : va_D A [(h0, .inr (1, [.ref ht, .int (nI 0), .ref hw, .int (nI w), .ref a1, .ref a1, .ref a3])), (ht, .inl (cT, 60, .inl f)), (a3, .inr (0, [.int (nI fm), .int (nI (az_wl fm)), .long (lN (V / 18446744073709551616)), .long (lN (V % 18446744073709551616))]))] := hD
    refine lv_aload_n hx hb dX1_read_29 rfl (lv_at hl 2 rfl) ?_
    refine lv_aload_n hx hb dX1_read_30 rfl (lv_at hl 2 rfl) ?_
    refine va_get (D := (dC, dI)) (ci := 1) (v := .ref a3) (C := RX1) (T := TX1) (N := 7) hx hb hts hiX1 hown hK hP 0 rfl rfl 6 (by decide) hf33 (fun _ h9 => h9) rfl dX1_read_31 ?_
    refine va_put (D := (dC, dI)) (ci := 1) (v := .ref a3) (ty := .object "AddressTexts$Address") (C := RX1) (T := TX1) (N := 7) hx hb hts hiX1 tyX1 tyX1_ok nmX1 hown hK hP hD hS 0 rfl rfl 4 (by decide) hf26 (fun _ h9 => h9) rfl (by decide +kernel) rfl rfl (Nat.le_of_ble_eq_true rfl) dX1_read_34 (fun H locs hP hD hS => ?_)
    have hP : va_P (dC, dI) azCl [(h0, .inr (1, [.ref ht, .int (nI 0), .ref hw, .int (nI w), .ref a3, .ref a1, .ref a3])), (ht, .inl (cT, 60, .inl f)), (a3, .inr (0, [.int (nI fm), .int (nI (az_wl fm)), .long (lN (V / 18446744073709551616)), .long (lN (V % 18446744073709551616))]))] H := hP
    have hD : va_D A [(h0, .inr (1, [.ref ht, .int (nI 0), .ref hw, .int (nI w), .ref a3, .ref a1, .ref a3])), (ht, .inl (cT, 60, .inl f)), (a3, .inr (0, [.int (nI fm), .int (nI (az_wl fm)), .long (lN (V / 18446744073709551616)), .long (lN (V % 18446744073709551616))]))] := hD
    refine lv_aload_n hx hb dX1_read_37 rfl (lv_at hl 2 rfl) ?_
    refine lv_aload_n hx hb dX1_read_38 rfl (lv_at hl 0 rfl) ?_
    refine va_put (D := (dC, dI)) (ci := 1) (v := .ref a2) (ty := .object "AddressTexts$Address") (C := RX1) (T := TX1) (N := 7) hx hb hts hiX1 tyX1 tyX1_ok nmX1 hown hK hP hD hS 0 rfl rfl 6 (by decide) hf33 (fun _ h9 => h9) rfl (by decide +kernel) rfl rfl (Nat.le_of_ble_eq_true rfl) dX1_read_39 (fun H locs hP hD hS => ?_)
    have hP : va_P (dC, dI) azCl [(h0, .inr (1, [.ref ht, .int (nI 0), .ref hw, .int (nI w), .ref a3, .ref a1, .ref a2])), (ht, .inl (cT, 60, .inl f)), (a3, .inr (0, [.int (nI fm), .int (nI (az_wl fm)), .long (lN (V / 18446744073709551616)), .long (lN (V % 18446744073709551616))]))] H := hP
    have hD : va_D A [(h0, .inr (1, [.ref ht, .int (nI 0), .ref hw, .int (nI w), .ref a3, .ref a1, .ref a2])), (ht, .inl (cT, 60, .inl f)), (a3, .inr (0, [.int (nI fm), .int (nI (az_wl fm)), .long (lN (V / 18446744073709551616)), .long (lN (V % 18446744073709551616))]))] := hD
    refine lv_aload_n hx hb dX1_read_42 rfl (lv_at hl 2 rfl) ?_
    refine va_get (D := (dC, dI)) (ci := 1) (v := .ref a3) (C := RX1) (T := TX1) (N := 7) hx hb hts hiX1 hown hK hP 0 rfl rfl 4 (by decide) hf26 (fun _ h9 => h9) rfl dX1_read_43 ?_
    refine va_get (D := (dC, dI)) (ci := 0) (v := .int (nI fm)) (C := RX0) (T := TX0) (N := 4) hx hb hts hiX0 hown hK hP 2 rfl rfl 0 (by decide) hf44 (fun _ h9 => h9) rfl dX1_read_46 ?_
    exact wt_i hx hb hr ((a3, a1, a2, fm, V)) (⟨hu, Or.inr ⟨ea, rfl, rfl, rfl, rfl⟩⟩) (hP.sub [0, 1, 2] rfl) hK (hD.sub [0, 1, 2] (by decide) rfl) hS dX1_read_49 hlocks
set_option maxRecDepth 100000 in
set_option maxHeartbeats 4000000 in
/-- write() -/
theorem ct_write (l : Launch) (dC : Nat → ClassId) (dI : Nat → Nat → Nat) (sz : Nat) (h0 ht hw a1 a2 a3 n w : Nat) (cW : ClassId) (g : Nat → Int32) (f1 l1 V1 : Nat) (h1 : az_ad f1 l1 V1) : Met l yX1_write wsX1_write ({ frames := 5, cells := 0, slots := 0, locals := 112 }) (wr_P (dC, dI) azCl [(h0, .inr (1, [.ref ht, .int (nI n), .ref hw, .int (nI w), .ref a1, .ref a2, .ref a3])), (hw, .inl (cW, 39, .inl g)), (a1, .inr (0, [.int (nI f1), .int (nI l1), .long (lN (V1 / 18446744073709551616)), .long (lN (V1 % 18446744073709551616))]))] [(cW, .byte)] sz [.ref h0]) (va_Qi (fun r u => r = nI u.2 ∧ az_ou u.1 (az_out f1 V1) u.2 ∧ u.2 ≤ 39) (wr_B (dC, dI) azCl [(cW, .byte)] (va_A [(h0, .inr (1, [.ref ht, .int (nI n), .ref hw, .int (nI w), .ref a1, .ref a2, .ref a3])), (hw, .inl (cW, 39, .inl g)), (a1, .inr (0, [.int (nI f1), .int (nI l1), .long (lN (V1 / 18446744073709551616)), .long (lN (V1 % 18446744073709551616))]))] sz) (fun u : (Nat → Int32) × Nat => [(h0, .inr (1, [.ref ht, .int (nI n), .ref hw, .int (nI u.2), .ref a1, .ref a2, .ref a3])), (hw, .inl (cW, 39, .inl u.1)), (a1, .inr (0, [.int (nI f1), .int (nI l1), .long (lN (V1 / 18446744073709551616)), .long (lN (V1 % 18446744073709551616))]))])) (va_A [(h0, .inr (1, [.ref ht, .int (nI n), .ref hw, .int (nI w), .ref a1, .ref a2, .ref a3])), (hw, .inl (cW, 39, .inl g)), (a1, .inr (0, [.int (nI f1), .int (nI l1), .long (lN (V1 / 18446744073709551616)), .long (lN (V1 % 18446744073709551616))]))] sz)) 0 0 (va_A [(h0, .inr (1, [.ref ht, .int (nI n), .ref hw, .int (nI w), .ref a1, .ref a2, .ref a3])), (hw, .inl (cW, 39, .inl g)), (a1, .inr (0, [.int (nI f1), .int (nI l1), .long (lN (V1 / 18446744073709551616)), .long (lN (V1 % 18446744073709551616))]))] sz) := by
  refine Met.ofW (cc := cX1_write) (maxL := 1) (ret := (some .int)) (by decide) rfl ?_
  intro p e s m args below meth c s₁ Bd hml hv
  obtain ⟨rfl, hsz, hP, hK, hD0⟩ := hv
  have hx := Bd.exec
  have hb := Bd.bytes
  have hr := Bd.returns
  have hts := atoms_spec (ws := wsX1_write) Bd.pre
  have hown : s.vm.findClass RX1 = some m.cls := findClass_of_methodNamed Bd.named
  have hlocks := Bd.notSynchronized
  subst hsz
  have hD := hD0.self (sz := s.heap.size)
  generalize hAe : va_A [(h0, .inr (1, [.ref ht, .int (nI n), .ref hw, .int (nI w), .ref a1, .ref a2, .ref a3])), (hw, .inl (cW, 39, .inl g)), (a1, .inr (0, [.int (nI f1), .int (nI l1), .long (lN (V1 / 18446744073709551616)), .long (lN (V1 % 18446744073709551616))]))] s.heap.size = A at hD ⊢
  have hA : ∀ q : Nat, s.heap.size ≤ q → A q := fun q h => by rw [← hAe]; exact Or.inr h
  have hS : va_S A s.heap s.heap [] := va_S.rf
  have hP : va_P (dC, dI) azCl [(h0, .inr (1, [.ref ht, .int (nI n), .ref hw, .int (nI w), .ref a1, .ref a2, .ref a3])), (hw, .inl (cW, 39, .inl g)), (a1, .inr (0, [.int (nI f1), .int (nI l1), .long (lN (V1 / 18446744073709551616)), .long (lN (V1 % 18446744073709551616))]))] s.heap := hP
  have hiX1 : ∀ w ∈ wsX10, w ∈ wsX1_write := by decide +kernel
  have hiX0 : ∀ w ∈ wsX00, w ∈ wsX1_write := by decide +kernel
  have hf20 := hts (.fieldLink RX1 20 "AddressTexts" "writtenCount" "I") (by decide +kernel)
  have hf26 := hts (.fieldLink RX1 26 "AddressTexts" "one" "LAddressTexts$Address;") (by decide +kernel)
  have hf44 := hts (.fieldLink RX1 44 "AddressTexts$Address" "family" "I") (by decide +kernel)
  have hl := lv_entry ([.ref h0]) (n := 1) (Nat.le_of_ble_eq_true rfl)
  rw [lg_entry_eq]
  generalize (lg_sl ([.ref h0]) ++ List.replicate (1 - (lg_sl ([.ref h0])).length) Slot.unset).toArray = ls at hl ⊢
  have hl : lv_has ls 1 [(0, .ref h0)] := hl
  have hf1 := az_ad_6 h1
  refine lv_aload_n hx hb dX1_write_0 rfl (lv_at hl 0 rfl) ?_
  refine lv_iconst (v := nI 0) hx hb dX1_write_1 (by decide) ?_
  refine va_put (D := (dC, dI)) (ci := 1) (v := .int (nI 0)) (ty := .int) (C := RX1) (T := TX1) (N := 7) hx hb hts hiX1 tyX1 tyX1_ok nmX1 hown hK hP hD hS 0 rfl rfl 3 (by decide) hf20 (fun _ h9 => h9) rfl (by decide +kernel) rfl rfl (Nat.le_of_ble_eq_true rfl) dX1_write_2 (fun H locs hP hD hS => ?_)
  have hP : va_P (dC, dI) azCl [(h0, .inr (1, [.ref ht, .int (nI n), .ref hw, .int (nI 0), .ref a1, .ref a2, .ref a3])), (hw, .inl (cW, 39, .inl g)), (a1, .inr (0, [.int (nI f1), .int (nI l1), .long (lN (V1 / 18446744073709551616)), .long (lN (V1 % 18446744073709551616))]))] H := hP
  have hD : va_D A [(h0, .inr (1, [.ref ht, .int (nI n), .ref hw, .int (nI 0), .ref a1, .ref a2, .ref a3])), (hw, .inl (cW, 39, .inl g)), (a1, .inr (0, [.int (nI f1), .int (nI l1), .long (lN (V1 / 18446744073709551616)), .long (lN (V1 % 18446744073709551616))]))] := hD
  refine lv_aload_n hx hb dX1_write_5 rfl (lv_at hl 0 rfl) ?_
  refine va_get (D := (dC, dI)) (ci := 1) (v := .ref a1) (C := RX1) (T := TX1) (N := 7) hx hb hts hiX1 hown hK hP 0 rfl rfl 4 (by decide) hf26 (fun _ h9 => h9) rfl dX1_write_6 ?_
  refine va_get (D := (dC, dI)) (ci := 0) (v := .int (nI f1)) (C := RX0) (T := TX0) (N := 4) hx hb hts hiX0 hown hK hP 2 rfl rfl 0 (by decide) hf44 (fun _ h9 => h9) rfl dX1_write_9 ?_
  refine lv_iconst (v := nI 4) hx hb dX1_write_12 (by decide) ?_
  refine bn_ne (tgt := 23) hx hb dX1_write_13 (by decide) (by omega) (by omega) (fun c13 => ?_) (fun c13 => ?_)
  · refine lv_aload_n hx hb dX1_write_23 rfl (lv_at hl 0 rfl) ?_
    refine wc_Vv (As := []) (rest := []) (wr := []) ⟨hx, hb, hml, hown, hts⟩ (ct_writeParts l dC dI H.size h0 ht hw a1 a2 a3 n cW g f1 l1 V1 (az_ad_V h1)) (cwV 0 hts gX1_write_X1_writeParts rfl rfl rfl (by decide +kernel) ⟨Nat.le_of_ble_eq_true rfl, Nat.le_of_ble_eq_true rfl⟩) hP hD hK hS hA [0, 1, 2] [] [0] rfl rfl (by decide) (by decide) (by decide) rfl 0 rfl rfl rfl hl.1 rfl (Nat.le_of_ble_eq_true rfl) dX1_write_24 ⟨(Nat.zero_le _), (Nat.zero_le _)⟩ (fun u H locs hg1 hP hD hS => ?_)
    obtain ⟨u1, w1⟩ := u
    try dsimp only at hg1
    have hP : va_P (dC, dI) azCl [(h0, .inr (1, [.ref ht, .int (nI n), .ref hw, .int (nI w1), .ref a1, .ref a2, .ref a3])), (hw, .inl (cW, 39, .inl u1)), (a1, .inr (0, [.int (nI f1), .int (nI l1), .long (lN (V1 / 18446744073709551616)), .long (lN (V1 % 18446744073709551616))]))] H := hP
    have hD : va_D A [(h0, .inr (1, [.ref ht, .int (nI n), .ref hw, .int (nI w1), .ref a1, .ref a2, .ref a3])), (hw, .inl (cW, 39, .inl u1)), (a1, .inr (0, [.int (nI f1), .int (nI l1), .long (lN (V1 / 18446744073709551616)), .long (lN (V1 % 18446744073709551616))]))] := hD
    refine lv_aload_n hx hb dX1_write_27 rfl (lv_at hl 0 rfl) ?_
    refine va_get (D := (dC, dI)) (ci := 1) (v := .int (nI w1)) (C := RX1) (T := TX1) (N := 7) hx hb hts hiX1 hown hK hP 0 rfl rfl 3 (by decide) hf20 (fun _ h9 => h9) rfl dX1_write_28 ?_
    exact wt_i hx hb hr ((u1, w1)) (⟨rfl, by unfold az_out; first | (rw [if_pos c13]; exact hg1.1) | (rw [if_neg c13]; exact hg1.1), hg1.2⟩) (hP.sub [0, 1, 2] rfl) hK (hD.sub [0, 1, 2] (by decide) rfl) hS dX1_write_31 hlocks
  · refine lv_aload_n hx hb dX1_write_16 rfl (lv_at hl 0 rfl) ?_
    refine wc_Vv (As := []) (rest := []) (wr := []) ⟨hx, hb, hml, hown, hts⟩ (ct_writeNumbers l dC dI H.size h0 ht hw a1 a2 a3 n cW g f1 l1 V1 (by subst c13; exact az_ad_4 h1)) (cwV 0 hts gX1_write_X1_writeNumbers rfl rfl rfl (by decide +kernel) ⟨Nat.le_of_ble_eq_true rfl, Nat.le_of_ble_eq_true rfl⟩) hP hD hK hS hA [0, 1, 2] [] [0] rfl rfl (by decide) (by decide) (by decide) rfl 0 rfl rfl rfl hl.1 rfl (Nat.le_of_ble_eq_true rfl) dX1_write_17 ⟨(Nat.zero_le _), (Nat.zero_le _)⟩ (fun u H locs hg1 hP hD hS => ?_)
    obtain ⟨u1, w1⟩ := u
    try dsimp only at hg1
    have hP : va_P (dC, dI) azCl [(h0, .inr (1, [.ref ht, .int (nI n), .ref hw, .int (nI w1), .ref a1, .ref a2, .ref a3])), (hw, .inl (cW, 39, .inl u1)), (a1, .inr (0, [.int (nI f1), .int (nI l1), .long (lN (V1 / 18446744073709551616)), .long (lN (V1 % 18446744073709551616))]))] H := hP
    have hD : va_D A [(h0, .inr (1, [.ref ht, .int (nI n), .ref hw, .int (nI w1), .ref a1, .ref a2, .ref a3])), (hw, .inl (cW, 39, .inl u1)), (a1, .inr (0, [.int (nI f1), .int (nI l1), .long (lN (V1 / 18446744073709551616)), .long (lN (V1 % 18446744073709551616))]))] := hD
    refine lv_goto (tgt := 27) hx hb dX1_write_20 (by decide) ?_
    refine lv_aload_n hx hb dX1_write_27 rfl (lv_at hl 0 rfl) ?_
    refine va_get (D := (dC, dI)) (ci := 1) (v := .int (nI w1)) (C := RX1) (T := TX1) (N := 7) hx hb hts hiX1 hown hK hP 0 rfl rfl 3 (by decide) hf20 (fun _ h9 => h9) rfl dX1_write_28 ?_
    exact wt_i hx hb hr ((u1, w1)) (⟨rfl, by unfold az_out; first | (rw [if_pos c13]; exact hg1.1) | (rw [if_neg c13]; exact hg1.1), hg1.2⟩) (hP.sub [0, 1, 2] rfl) hK (hD.sub [0, 1, 2] (by decide) rfl) hS dX1_write_31 hlocks
