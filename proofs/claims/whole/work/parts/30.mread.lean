set_option maxRecDepth 100000 in
set_option maxHeartbeats 4000000 in
/-- read() -/
theorem ct_m_read (l : Launch) (dC : Nat → ClassId) (dI : Nat → Nat → Nat) (sz : Nat) (m0 mt mb mf ml mp mo n w : Nat) (xm xg : Int32) (dT : ClassId) (F : Nat → Int32) (T : Nat → Nat) (hF : az_mt F T n) (hn : n ≤ 60) (dB : ClassId) (B : Nat → Int32) (dF : ClassId) (Fm : Nat → Int32) (dL : ClassId) (Ln : Nat → Int32) (dP : ClassId) (P : Nat → Int32) (f1 l1 V1 : Nat) (hF0 : Fm 0 = nI f1) (hL0 : Ln 0 = nI l1) (hB0 : az_by B 0 V1) : Met l yXM_read wsXM_read ({ frames := 3, cells := 0, slots := 0, locals := 68 }) (wr_P (dC, dI) azCl [(m0, .inr (2, [.ref mt, .int (nI n), .ref mb, .ref mf, .ref ml, .ref mp, .int xm, .int xg, .ref mo, .int (nI w)])), (mt, .inl (dT, 60, .inl F)), (mb, .inl (dB, 32, .inl B)), (mf, .inl (dF, 2, .inl Fm)), (ml, .inl (dL, 2, .inl Ln)), (mp, .inl (dP, 8, .inl P))] [(dT, .int), (dB, .int), (dF, .int), (dL, .int), (dP, .int)] sz [.ref m0]) (va_Qi (fun r u => (az_text T n = none ∧ r = -1 ∧ u.1 = B ∧ u.2.1 = Fm ∧ u.2.2.1 = Ln) ∨ (∃ fm V, az_text T n = some (fm, V) ∧ r = nI fm ∧ az_by u.1 0 V ∧ az_by u.1 16 V1 ∧ u.2.1 0 = nI fm ∧ u.2.1 1 = nI f1 ∧ u.2.2.1 0 = nI (az_wl fm) ∧ u.2.2.1 1 = nI l1)) (wr_B (dC, dI) azCl [(dT, .int), (dB, .int), (dF, .int), (dL, .int), (dP, .int)] (va_A [(m0, .inr (2, [.ref mt, .int (nI n), .ref mb, .ref mf, .ref ml, .ref mp, .int xm, .int xg, .ref mo, .int (nI w)])), (mt, .inl (dT, 60, .inl F)), (mb, .inl (dB, 32, .inl B)), (mf, .inl (dF, 2, .inl Fm)), (ml, .inl (dL, 2, .inl Ln)), (mp, .inl (dP, 8, .inl P))] sz) (fun u : (Nat → Int32) × (Nat → Int32) × (Nat → Int32) × (Nat → Int32) × Int32 × Int32 => [(m0, .inr (2, [.ref mt, .int (nI 0), .ref mb, .ref mf, .ref ml, .ref mp, .int u.2.2.2.2.1, .int u.2.2.2.2.2, .ref mo, .int (nI w)])), (mt, .inl (dT, 60, .inl F)), (mb, .inl (dB, 32, .inl u.1)), (mf, .inl (dF, 2, .inl u.2.1)), (ml, .inl (dL, 2, .inl u.2.2.1)), (mp, .inl (dP, 8, .inl u.2.2.2.1))])) (va_A [(m0, .inr (2, [.ref mt, .int (nI n), .ref mb, .ref mf, .ref ml, .ref mp, .int xm, .int xg, .ref mo, .int (nI w)])), (mt, .inl (dT, 60, .inl F)), (mb, .inl (dB, 32, .inl B)), (mf, .inl (dF, 2, .inl Fm)), (ml, .inl (dL, 2, .inl Ln)), (mp, .inl (dP, 8, .inl P))] sz)) 0 0 (va_A [(m0, .inr (2, [.ref mt, .int (nI n), .ref mb, .ref mf, .ref ml, .ref mp, .int xm, .int xg, .ref mo, .int (nI w)])), (mt, .inl (dT, 60, .inl F)), (mb, .inl (dB, 32, .inl B)), (mf, .inl (dF, 2, .inl Fm)), (ml, .inl (dL, 2, .inl Ln)), (mp, .inl (dP, 8, .inl P))] sz) := by
  refine Met.ofW (cc := cXM_read) (maxL := 5) (ret := (some .int)) (by decide) rfl ?_
  intro p e s m args below meth c s₁ Bd hml hv
  obtain ⟨rfl, hsz, hP, hK, hD0⟩ := hv
  have hx := Bd.exec
  have hb := Bd.bytes
  have hr := Bd.returns
  have hts := atoms_spec (ws := wsXM_read) Bd.pre
  have hown : s.vm.findClass RXM = some m.cls := findClass_of_methodNamed Bd.named
  have hlocks := Bd.notSynchronized
  subst hsz
  have hD := hD0.self (sz := s.heap.size)
  generalize hAe : va_A [(m0, .inr (2, [.ref mt, .int (nI n), .ref mb, .ref mf, .ref ml, .ref mp, .int xm, .int xg, .ref mo, .int (nI w)])), (mt, .inl (dT, 60, .inl F)), (mb, .inl (dB, 32, .inl B)), (mf, .inl (dF, 2, .inl Fm)), (ml, .inl (dL, 2, .inl Ln)), (mp, .inl (dP, 8, .inl P))] s.heap.size = A at hD ⊢
  have hA : ∀ q : Nat, s.heap.size ≤ q → A q := fun q h => by rw [← hAe]; exact Or.inr h
  have hS : va_S A s.heap s.heap [] := va_S.rf
  have hP : va_P (dC, dI) azCl [(m0, .inr (2, [.ref mt, .int (nI n), .ref mb, .ref mf, .ref ml, .ref mp, .int xm, .int xg, .ref mo, .int (nI w)])), (mt, .inl (dT, 60, .inl F)), (mb, .inl (dB, 32, .inl B)), (mf, .inl (dF, 2, .inl Fm)), (ml, .inl (dL, 2, .inl Ln)), (mp, .inl (dP, 8, .inl P))] s.heap := hP
  have hiXM : ∀ w ∈ wsXM0, w ∈ wsXM_read := by decide +kernel
  have hf28 := hts (.fieldLink RXM 28 "AddressTextsModel" "size" "I") (by decide +kernel)
  have hf16 := hts (.fieldLink RXM 16 "AddressTextsModel" "family" "[I") (by decide +kernel)
  have hf19 := hts (.fieldLink RXM 19 "AddressTextsModel" "length" "[I") (by decide +kernel)
  have hf40 := hts (.fieldLink RXM 40 "AddressTextsModel" "many" "I") (by decide +kernel)
  have hf13 := hts (.fieldLink RXM 13 "AddressTextsModel" "bytes" "[I") (by decide +kernel)
  have hf22 := hts (.fieldLink RXM 22 "AddressTextsModel" "parts" "[I") (by decide +kernel)
  have hf47 := hts (.fieldLink RXM 47 "AddressTextsModel" "gap" "I") (by decide +kernel)
  have hf7 := hts (.fieldLink RXM 7 "AddressTextsModel" "tape" "[I") (by decide +kernel)
  have hl := lv_entry ([.ref m0]) (n := 5) (Nat.le_of_ble_eq_true rfl)
  rw [lg_entry_eq]
  generalize (lg_sl ([.ref m0]) ++ List.replicate (5 - (lg_sl ([.ref m0])).length) Slot.unset).toArray = ls at hl ⊢
  have hl : lv_has ls 5 [(0, .ref m0)] := hl
  have hB0x : ∀ j, j < 16 → B j = nI (az_byte V1 j) := fun j hj => by have h := hB0 j hj; rw [Nat.zero_add] at h; exact h
  refine lv_iconst (v := nI 0) hx hb dXM_read_0 (by decide) ?_
  refine lv_istore_n (lv' := [(1, .int (nI 0)), (0, .ref m0)]) hx hb dXM_read_1 rfl hl (by decide) rfl (fun ls hl => ?_)
  refine lv_iconst (v := nI 0) hx hb dXM_read_2 (by decide) ?_
  refine lv_istore_n (lv' := [(2, .int (nI 0)), (1, .int (nI 0)), (0, .ref m0)]) hx hb dXM_read_3 rfl hl (by decide) rfl (fun ls hl => ?_)
  have lp4 : ∀ (N : Nat) (k : Nat) (sx : Nat), (k ≤ n) → (sx ≤ 1) → ((sx = 0 ∧ ∀ j, j < k → T j ≠ 58) ∨ (sx = 1 ∧ az_pl T n 58 0 < n)) → (n - k) < N → ∀ (H : Heap) (locs : List Loc), va_P (dC, dI) azCl [(m0, .inr (2, [.ref mt, .int (nI n), .ref mb, .ref mf, .ref ml, .ref mp, .int xm, .int xg, .ref mo, .int (nI w)])), (mt, .inl (dT, 60, .inl F)), (mb, .inl (dB, 32, .inl B)), (mf, .inl (dF, 2, .inl Fm)), (ml, .inl (dL, 2, .inl Ln)), (mp, .inl (dP, 8, .inl P))] H → va_D A [(m0, .inr (2, [.ref mt, .int (nI n), .ref mb, .ref mf, .ref ml, .ref mp, .int xm, .int xg, .ref mo, .int (nI w)])), (mt, .inl (dT, 60, .inl F)), (mb, .inl (dB, 32, .inl B)), (mf, .inl (dF, 2, .inl Fm)), (ml, .inl (dL, 2, .inl Ln)), (mp, .inl (dP, 8, .inl P))] → va_S A s.heap H locs → ∀ (ls : Array Slot), lv_has ls 5 [(0, .ref m0), (1, .int (nI sx)), (2, .int (nI k))] → W p l e (headSpec wsXM_read ({ frames := 3, cells := 0, slots := 0, locals := 68 })).room s m ([.ref m0] : List Value).toArray below meth c H locs 0 0 (MQ below (va_Qi (fun r u => (az_text T n = none ∧ r = -1 ∧ u.1 = B ∧ u.2.1 = Fm ∧ u.2.2.1 = Ln) ∨ (∃ fm V, az_text T n = some (fm, V) ∧ r = nI fm ∧ az_by u.1 0 V ∧ az_by u.1 16 V1 ∧ u.2.1 0 = nI fm ∧ u.2.1 1 = nI f1 ∧ u.2.2.1 0 = nI (az_wl fm) ∧ u.2.2.1 1 = nI l1)) (wr_B (dC, dI) azCl [(dT, .int), (dB, .int), (dF, .int), (dL, .int), (dP, .int)] A (fun u : (Nat → Int32) × (Nat → Int32) × (Nat → Int32) × (Nat → Int32) × Int32 × Int32 => [(m0, .inr (2, [.ref mt, .int (nI 0), .ref mb, .ref mf, .ref ml, .ref mp, .int u.2.2.2.2.1, .int u.2.2.2.2.2, .ref mo, .int (nI w)])), (mt, .inl (dT, 60, .inl F)), (mb, .inl (dB, 32, .inl u.1)), (mf, .inl (dF, 2, .inl u.2.1)), (ml, .inl (dL, 2, .inl u.2.2.1)), (mp, .inl (dP, 8, .inl u.2.2.2.1))])) A) ([.ref m0] : List Value).toArray s 0 0 A) (F0 m 4 ls []) := by
    intro N
    induction N with
    | zero => intro k sx hk hs1 hs hN; exact absurd hN (Nat.not_lt_zero _)
    | succ N ih =>
      intro k sx hk hs1 hs hN H locs hP hD hS ls hl
      refine lv_iload_n hx hb dXM_read_4 rfl (lv_at hl 2 rfl) ?_
      refine lv_aload_n hx hb dXM_read_5 rfl (lv_at hl 0 rfl) ?_
      refine va_get (D := (dC, dI)) (ci := 2) (v := .int (nI n)) (C := RXM) (T := TXM) (N := 10) hx hb hts hiXM hown hK hP 0 rfl rfl 1 (by decide) hf28 (fun _ h9 => h9) rfl dXM_read_6 ?_
      refine bn_ge (tgt := 39) hx hb dXM_read_9 (by decide) (by omega) (by omega) (fun c9 => ?_) (fun c9 => ?_)
      · refine lv_iload_n hx hb dXM_read_39 rfl (lv_at hl 1 rfl) ?_
        refine bz_eq (tgt := 50) hx hb dXM_read_40 (by decide) (by omega) (fun c40 => ?_) (fun c40 => ?_)
        · refine lv_aload_n hx hb dXM_read_50 rfl (lv_at hl 0 rfl) ?_
          have hpl : ¬ az_pl T n 58 0 < n := by (rcases hs with ⟨_, h⟩ | ⟨h, _⟩); exact (az_pl_none (fun j hj => h j (by omega))); exact (by omega)
          have hsx : sx = 0 := c40
          subst hsx
          refine wc_Vi (As := []) (rest := []) (wr := [(mb, .inl (dB, 32, .inl B)), (mf, .inl (dF, 2, .inl Fm)), (ml, .inl (dL, 2, .inl Ln))]) ⟨hx, hb, hml, hown, hts⟩ (ct_m_isFour l dC dI H.size m0 mt mb mf ml mp mo n w xm xg dT F T hF hn dP P) (cwV 0 hts gXM_read_XM_isFour rfl rfl rfl (by decide +kernel) ⟨Nat.le_of_ble_eq_true rfl, Nat.le_of_ble_eq_true rfl⟩) hP hD hK hS hA [0, 1, 5] [2, 3, 4] [0, 4] rfl rfl (by decide) (by decide) (by decide) rfl 0 rfl rfl rfl hl.1 rfl (Nat.le_of_ble_eq_true rfl) dXM_read_51 ⟨(Nat.zero_le _), (Nat.zero_le _)⟩ (fun r1 u1 H locs hp1 hP hD hS => ?_)
          obtain ⟨P1, xm1, xg1⟩ := u1
          try dsimp only at hp1
          have hP : va_P (dC, dI) azCl [(mb, .inl (dB, 32, .inl B)), (mf, .inl (dF, 2, .inl Fm)), (ml, .inl (dL, 2, .inl Ln)), (m0, .inr (2, [.ref mt, .int (nI n), .ref mb, .ref mf, .ref ml, .ref mp, .int xm1, .int xg1, .ref mo, .int (nI w)])), (mt, .inl (dT, 60, .inl F)), (mp, .inl (dP, 8, .inl P1))] H := hP
          have hD : va_D A [(mb, .inl (dB, 32, .inl B)), (mf, .inl (dF, 2, .inl Fm)), (ml, .inl (dL, 2, .inl Ln)), (m0, .inr (2, [.ref mt, .int (nI n), .ref mb, .ref mf, .ref ml, .ref mp, .int xm1, .int xg1, .ref mo, .int (nI w)])), (mt, .inl (dT, 60, .inl F)), (mp, .inl (dP, 8, .inl P1))] := hD
          obtain ⟨ea, er⟩ | ⟨vv, ea, er, em, hfp⟩ := hp1
          · subst er
            refine lv_istore_n (lv' := [(2, .int (nI 0)), (0, .ref m0), (1, .int (nI 0))]) hx hb dXM_read_54 rfl hl (by decide) rfl (fun ls hl => ?_)
            refine lv_aload_n hx hb dXM_read_55 rfl (lv_at hl 1 rfl) ?_
            refine lv_iconst (v := nI 0) hx hb dXM_read_56 (by decide) ?_
            refine va_put (D := (dC, dI)) (ci := 2) (v := .int (nI 0)) (ty := .int) (C := RXM) (T := TXM) (N := 10) hx hb hts hiXM tyXM tyXM_ok nmXM hown hK hP hD hS 3 rfl rfl 1 (by decide) hf28 (fun _ h9 => h9) rfl (by decide +kernel) rfl rfl (Nat.le_of_ble_eq_true rfl) dXM_read_57 (fun H locs hP hD hS => ?_)
            have hP : va_P (dC, dI) azCl [(mb, .inl (dB, 32, .inl B)), (mf, .inl (dF, 2, .inl Fm)), (ml, .inl (dL, 2, .inl Ln)), (m0, .inr (2, [.ref mt, .int (nI 0), .ref mb, .ref mf, .ref ml, .ref mp, .int xm1, .int xg1, .ref mo, .int (nI w)])), (mt, .inl (dT, 60, .inl F)), (mp, .inl (dP, 8, .inl P1))] H := hP
            have hD : va_D A [(mb, .inl (dB, 32, .inl B)), (mf, .inl (dF, 2, .inl Fm)), (ml, .inl (dL, 2, .inl Ln)), (m0, .inr (2, [.ref mt, .int (nI 0), .ref mb, .ref mf, .ref ml, .ref mp, .int xm1, .int xg1, .ref mo, .int (nI w)])), (mt, .inl (dT, 60, .inl F)), (mp, .inl (dP, 8, .inl P1))] := hD
            refine lv_iload_n hx hb dXM_read_60 rfl (lv_at hl 0 rfl) ?_
            refine lv_if_ne (tgt := 66) hx hb dXM_read_61 (by decide) (fun c => absurd c (by decide)) (fun _ => ?_)
            refine lv_iconst (v := -1) hx hb dXM_read_64 (by decide) ?_
            exact wt_i hx hb hr ((B, Fm, Ln, P1, xm1, xg1)) (Or.inl ⟨by unfold az_text; rw [if_neg hpl, ea]; rfl, rfl, rfl, rfl, rfl⟩) (hP.sub [3, 4, 0, 1, 2, 5] rfl) hK (hD.sub [3, 4, 0, 1, 2, 5] (by decide) rfl) hS dXM_read_65 hlocks
          · subst er
            subst em
            have hP : va_P (dC, dI) azCl [(mb, .inl (dB, 32, .inl B)), (mf, .inl (dF, 2, .inl Fm)), (ml, .inl (dL, 2, .inl Ln)), (m0, .inr (2, [.ref mt, .int (nI n), .ref mb, .ref mf, .ref ml, .ref mp, .int (nI 4), .int xg1, .ref mo, .int (nI w)])), (mt, .inl (dT, 60, .inl F)), (mp, .inl (dP, 8, .inl P1))] H := hP
            have hD : va_D A [(mb, .inl (dB, 32, .inl B)), (mf, .inl (dF, 2, .inl Fm)), (ml, .inl (dL, 2, .inl Ln)), (m0, .inr (2, [.ref mt, .int (nI n), .ref mb, .ref mf, .ref ml, .ref mp, .int (nI 4), .int xg1, .ref mo, .int (nI w)])), (mt, .inl (dT, 60, .inl F)), (mp, .inl (dP, 8, .inl P1))] := hD
            refine lv_istore_n (lv' := [(2, .int (nI 1)), (0, .ref m0), (1, .int (nI 0))]) hx hb dXM_read_54 rfl hl (by decide) rfl (fun ls hl => ?_)
            refine lv_aload_n hx hb dXM_read_55 rfl (lv_at hl 1 rfl) ?_
            refine lv_iconst (v := nI 0) hx hb dXM_read_56 (by decide) ?_
            refine va_put (D := (dC, dI)) (ci := 2) (v := .int (nI 0)) (ty := .int) (C := RXM) (T := TXM) (N := 10) hx hb hts hiXM tyXM tyXM_ok nmXM hown hK hP hD hS 3 rfl rfl 1 (by decide) hf28 (fun _ h9 => h9) rfl (by decide +kernel) rfl rfl (Nat.le_of_ble_eq_true rfl) dXM_read_57 (fun H locs hP hD hS => ?_)
            have hP : va_P (dC, dI) azCl [(mb, .inl (dB, 32, .inl B)), (mf, .inl (dF, 2, .inl Fm)), (ml, .inl (dL, 2, .inl Ln)), (m0, .inr (2, [.ref mt, .int (nI 0), .ref mb, .ref mf, .ref ml, .ref mp, .int (nI 4), .int xg1, .ref mo, .int (nI w)])), (mt, .inl (dT, 60, .inl F)), (mp, .inl (dP, 8, .inl P1))] H := hP
            have hD : va_D A [(mb, .inl (dB, 32, .inl B)), (mf, .inl (dF, 2, .inl Fm)), (ml, .inl (dL, 2, .inl Ln)), (m0, .inr (2, [.ref mt, .int (nI 0), .ref mb, .ref mf, .ref ml, .ref mp, .int (nI 4), .int xg1, .ref mo, .int (nI w)])), (mt, .inl (dT, 60, .inl F)), (mp, .inl (dP, 8, .inl P1))] := hD
            refine lv_iload_n hx hb dXM_read_60 rfl (lv_at hl 0 rfl) ?_
            refine lv_if_ne (tgt := 66) hx hb dXM_read_61 (by decide) (fun _ => ?_) (fun c => absurd c (by decide))
            refine lv_iconst (v := nI 0) hx hb dXM_read_66 (by decide) ?_
            refine lv_istore_n (lv' := [(3, .int (nI 0)), (2, .int (nI 1)), (0, .ref m0), (1, .int (nI 0))]) hx hb dXM_read_67 rfl hl (by decide) rfl (fun ls hl => ?_)
            have lp68 : ∀ (N : Nat) (k3 : Nat) (E : Nat → Int32), (k3 ≤ 16) → (∀ j, j < 16 → (j < k3 → E (16 + j) = B j ∧ E j = nI 0) ∧ (k3 ≤ j → E j = B j)) → (16 - k3) < N → ∀ (H : Heap) (locs : List Loc), va_P (dC, dI) azCl [(m0, .inr (2, [.ref mt, .int (nI 0), .ref mb, .ref mf, .ref ml, .ref mp, .int (nI 4), .int xg1, .ref mo, .int (nI w)])), (mt, .inl (dT, 60, .inl F)), (mb, .inl (dB, 32, .inl E)), (mf, .inl (dF, 2, .inl Fm)), (ml, .inl (dL, 2, .inl Ln)), (mp, .inl (dP, 8, .inl P1))] H → va_D A [(m0, .inr (2, [.ref mt, .int (nI 0), .ref mb, .ref mf, .ref ml, .ref mp, .int (nI 4), .int xg1, .ref mo, .int (nI w)])), (mt, .inl (dT, 60, .inl F)), (mb, .inl (dB, 32, .inl E)), (mf, .inl (dF, 2, .inl Fm)), (ml, .inl (dL, 2, .inl Ln)), (mp, .inl (dP, 8, .inl P1))] → va_S A s.heap H locs → ∀ (ls : Array Slot), lv_has ls 5 [(0, .ref m0), (1, .int (nI 0)), (3, .int (nI k3))] → W p l e (headSpec wsXM_read ({ frames := 3, cells := 0, slots := 0, locals := 68 })).room s m ([.ref m0] : List Value).toArray below meth c H locs 0 0 (MQ below (va_Qi (fun r u => (az_text T n = none ∧ r = -1 ∧ u.1 = B ∧ u.2.1 = Fm ∧ u.2.2.1 = Ln) ∨ (∃ fm V, az_text T n = some (fm, V) ∧ r = nI fm ∧ az_by u.1 0 V ∧ az_by u.1 16 V1 ∧ u.2.1 0 = nI fm ∧ u.2.1 1 = nI f1 ∧ u.2.2.1 0 = nI (az_wl fm) ∧ u.2.2.1 1 = nI l1)) (wr_B (dC, dI) azCl [(dT, .int), (dB, .int), (dF, .int), (dL, .int), (dP, .int)] A (fun u : (Nat → Int32) × (Nat → Int32) × (Nat → Int32) × (Nat → Int32) × Int32 × Int32 => [(m0, .inr (2, [.ref mt, .int (nI 0), .ref mb, .ref mf, .ref ml, .ref mp, .int u.2.2.2.2.1, .int u.2.2.2.2.2, .ref mo, .int (nI w)])), (mt, .inl (dT, 60, .inl F)), (mb, .inl (dB, 32, .inl u.1)), (mf, .inl (dF, 2, .inl u.2.1)), (ml, .inl (dL, 2, .inl u.2.2.1)), (mp, .inl (dP, 8, .inl u.2.2.2.1))])) A) ([.ref m0] : List Value).toArray s 0 0 A) (F0 m 68 ls []) := by
              intro N
              induction N with
              | zero => intro k3 E hk3 hE hN; exact absurd hN (Nat.not_lt_zero _)
              | succ N ih =>
                intro k3 E hk3 hE hN H locs hP hD hS ls hl
                refine lv_iload_n hx hb dXM_read_68 rfl (lv_at hl 2 rfl) ?_
                refine lv_bipush (v := nI 16) hx hb dXM_read_69 (by decide) ?_
                refine bn_ge (tgt := 102) hx hb dXM_read_71 (by decide) (by omega) (by omega) (fun c71 => ?_) (fun c71 => ?_)
                · have hE0 : ∀ j, j < 16 → E j = nI 0 := fun j hj => ((hE j hj).1 (by omega)).2
                  have hE16 : ∀ j, j < 16 → E (16 + j) = B j := fun j hj => ((hE j hj).1 (by omega)).1
                  refine lv_aload_n hx hb dXM_read_102 rfl (lv_at hl 0 rfl) ?_
                  refine va_get (D := (dC, dI)) (ci := 2) (v := .ref mf) (C := RXM) (T := TXM) (N := 10) hx hb hts hiXM hown hK hP 0 rfl rfl 3 (by decide) hf16 (fun _ h9 => h9) rfl dXM_read_103 ?_
                  refine lv_iconst (v := nI 1) hx hb dXM_read_106 (by decide) ?_
                  refine lv_aload_n hx hb dXM_read_107 rfl (lv_at hl 0 rfl) ?_
                  refine va_get (D := (dC, dI)) (ci := 2) (v := .ref mf) (C := RXM) (T := TXM) (N := 10) hx hb hts hiXM hown hK hP 0 rfl rfl 3 (by decide) hf16 (fun _ h9 => h9) rfl dXM_read_108 ?_
                  refine lv_iconst (v := nI 0) hx hb dXM_read_111 (by decide) ?_
                  refine ld_i hx hb hK hP 3 2 rfl rfl (by omega) (by omega) dXM_read_112 ?_
                  refine tp_i (nI f1) (hF0) ?_
                  refine st_i hx hb hK hP hD hS 3 2 rfl rfl (by omega) (by omega) dXM_read_113 (fun H locs hP hD hS => ?_)
                  have hP : va_P (dC, dI) azCl [(m0, .inr (2, [.ref mt, .int (nI 0), .ref mb, .ref mf, .ref ml, .ref mp, .int (nI 4), .int xg1, .ref mo, .int (nI w)])), (mt, .inl (dT, 60, .inl F)), (mb, .inl (dB, 32, .inl E)), (mf, .inl (dF, 2, .inl (upd Fm 1 (nI f1)))), (ml, .inl (dL, 2, .inl Ln)), (mp, .inl (dP, 8, .inl P1))] H := hP
                  have hD : va_D A [(m0, .inr (2, [.ref mt, .int (nI 0), .ref mb, .ref mf, .ref ml, .ref mp, .int (nI 4), .int xg1, .ref mo, .int (nI w)])), (mt, .inl (dT, 60, .inl F)), (mb, .inl (dB, 32, .inl E)), (mf, .inl (dF, 2, .inl (upd Fm 1 (nI f1)))), (ml, .inl (dL, 2, .inl Ln)), (mp, .inl (dP, 8, .inl P1))] := hD
                  refine lv_aload_n hx hb dXM_read_114 rfl (lv_at hl 0 rfl) ?_
                  refine va_get (D := (dC, dI)) (ci := 2) (v := .ref ml) (C := RXM) (T := TXM) (N := 10) hx hb hts hiXM hown hK hP 0 rfl rfl 4 (by decide) hf19 (fun _ h9 => h9) rfl dXM_read_115 ?_
                  refine lv_iconst (v := nI 1) hx hb dXM_read_118 (by decide) ?_
                  refine lv_aload_n hx hb dXM_read_119 rfl (lv_at hl 0 rfl) ?_
                  refine va_get (D := (dC, dI)) (ci := 2) (v := .ref ml) (C := RXM) (T := TXM) (N := 10) hx hb hts hiXM hown hK hP 0 rfl rfl 4 (by decide) hf19 (fun _ h9 => h9) rfl dXM_read_120 ?_
                  refine lv_iconst (v := nI 0) hx hb dXM_read_123 (by decide) ?_
                  refine ld_i hx hb hK hP 4 3 rfl rfl (by omega) (by omega) dXM_read_124 ?_
                  refine tp_i (nI l1) (hL0) ?_
                  refine st_i hx hb hK hP hD hS 4 3 rfl rfl (by omega) (by omega) dXM_read_125 (fun H locs hP hD hS => ?_)
                  have hP : va_P (dC, dI) azCl [(m0, .inr (2, [.ref mt, .int (nI 0), .ref mb, .ref mf, .ref ml, .ref mp, .int (nI 4), .int xg1, .ref mo, .int (nI w)])), (mt, .inl (dT, 60, .inl F)), (mb, .inl (dB, 32, .inl E)), (mf, .inl (dF, 2, .inl (upd Fm 1 (nI f1)))), (ml, .inl (dL, 2, .inl (upd Ln 1 (nI l1)))), (mp, .inl (dP, 8, .inl P1))] H := hP
                  have hD : va_D A [(m0, .inr (2, [.ref mt, .int (nI 0), .ref mb, .ref mf, .ref ml, .ref mp, .int (nI 4), .int xg1, .ref mo, .int (nI w)])), (mt, .inl (dT, 60, .inl F)), (mb, .inl (dB, 32, .inl E)), (mf, .inl (dF, 2, .inl (upd Fm 1 (nI f1)))), (ml, .inl (dL, 2, .inl (upd Ln 1 (nI l1)))), (mp, .inl (dP, 8, .inl P1))] := hD
                  refine lv_aload_n hx hb dXM_read_126 rfl (lv_at hl 0 rfl) ?_
                  refine va_get (D := (dC, dI)) (ci := 2) (v := .ref mf) (C := RXM) (T := TXM) (N := 10) hx hb hts hiXM hown hK hP 0 rfl rfl 3 (by decide) hf16 (fun _ h9 => h9) rfl dXM_read_127 ?_
                  refine lv_iconst (v := nI 0) hx hb dXM_read_130 (by decide) ?_
                  refine lv_iload_n hx hb dXM_read_131 rfl (lv_at hl 1 rfl) ?_
                  refine lv_if_eq (tgt := 140) hx hb dXM_read_132 (by decide) (fun _ => ?_) (fun c => absurd c (by decide))
                  refine lv_iconst (v := nI 4) hx hb dXM_read_140 (by decide) ?_
                  refine st_i hx hb hK hP hD hS 3 2 rfl rfl (by omega) (by omega) dXM_read_141 (fun H locs hP hD hS => ?_)
                  have hP : va_P (dC, dI) azCl [(m0, .inr (2, [.ref mt, .int (nI 0), .ref mb, .ref mf, .ref ml, .ref mp, .int (nI 4), .int xg1, .ref mo, .int (nI w)])), (mt, .inl (dT, 60, .inl F)), (mb, .inl (dB, 32, .inl E)), (mf, .inl (dF, 2, .inl (upd (upd Fm 1 (nI f1)) 0 (nI 4)))), (ml, .inl (dL, 2, .inl (upd Ln 1 (nI l1)))), (mp, .inl (dP, 8, .inl P1))] H := hP
                  have hD : va_D A [(m0, .inr (2, [.ref mt, .int (nI 0), .ref mb, .ref mf, .ref ml, .ref mp, .int (nI 4), .int xg1, .ref mo, .int (nI w)])), (mt, .inl (dT, 60, .inl F)), (mb, .inl (dB, 32, .inl E)), (mf, .inl (dF, 2, .inl (upd (upd Fm 1 (nI f1)) 0 (nI 4)))), (ml, .inl (dL, 2, .inl (upd Ln 1 (nI l1)))), (mp, .inl (dP, 8, .inl P1))] := hD
                  refine lv_aload_n hx hb dXM_read_142 rfl (lv_at hl 0 rfl) ?_
                  refine va_get (D := (dC, dI)) (ci := 2) (v := .ref ml) (C := RXM) (T := TXM) (N := 10) hx hb hts hiXM hown hK hP 0 rfl rfl 4 (by decide) hf19 (fun _ h9 => h9) rfl dXM_read_143 ?_
                  refine lv_iconst (v := nI 0) hx hb dXM_read_146 (by decide) ?_
                  refine lv_iload_n hx hb dXM_read_147 rfl (lv_at hl 1 rfl) ?_
                  refine lv_if_eq (tgt := 157) hx hb dXM_read_148 (by decide) (fun _ => ?_) (fun c => absurd c (by decide))
                  refine lv_bipush (v := nI 32) hx hb dXM_read_157 (by decide) ?_
                  refine st_i hx hb hK hP hD hS 4 3 rfl rfl (by omega) (by omega) dXM_read_159 (fun H locs hP hD hS => ?_)
                  have hP : va_P (dC, dI) azCl [(m0, .inr (2, [.ref mt, .int (nI 0), .ref mb, .ref mf, .ref ml, .ref mp, .int (nI 4), .int xg1, .ref mo, .int (nI w)])), (mt, .inl (dT, 60, .inl F)), (mb, .inl (dB, 32, .inl E)), (mf, .inl (dF, 2, .inl (upd (upd Fm 1 (nI f1)) 0 (nI 4)))), (ml, .inl (dL, 2, .inl (upd (upd Ln 1 (nI l1)) 0 (nI 32)))), (mp, .inl (dP, 8, .inl P1))] H := hP
                  have hD : va_D A [(m0, .inr (2, [.ref mt, .int (nI 0), .ref mb, .ref mf, .ref ml, .ref mp, .int (nI 4), .int xg1, .ref mo, .int (nI w)])), (mt, .inl (dT, 60, .inl F)), (mb, .inl (dB, 32, .inl E)), (mf, .inl (dF, 2, .inl (upd (upd Fm 1 (nI f1)) 0 (nI 4)))), (ml, .inl (dL, 2, .inl (upd (upd Ln 1 (nI l1)) 0 (nI 32)))), (mp, .inl (dP, 8, .inl P1))] := hD
                  refine lv_iconst (v := nI 0) hx hb dXM_read_160 (by decide) ?_
                  refine lv_istore_n (lv' := [(3, .int (nI 0)), (0, .ref m0), (1, .int (nI 0))]) hx hb dXM_read_161 rfl hl (by decide) rfl (fun ls hl => ?_)
                  refine lv_iload_n hx hb dXM_read_162 rfl (lv_at hl 0 rfl) ?_
                  refine lv_aload_n hx hb dXM_read_163 rfl (lv_at hl 1 rfl) ?_
                  refine va_get (D := (dC, dI)) (ci := 2) (v := .int (nI 4)) (C := RXM) (T := TXM) (N := 10) hx hb hts hiXM hown hK hP 0 rfl rfl 6 (by decide) hf40 (fun _ h9 => h9) rfl dXM_read_164 ?_
                  refine lv_icmp_ge (tgt := 267) hx hb dXM_read_167 (by decide) (fun c => absurd c (by decide)) (fun _ => ?_)
                  refine lv_iload_n hx hb dXM_read_170 rfl (lv_at hl 2 rfl) ?_
                  refine lv_if_ne (tgt := 192) hx hb dXM_read_171 (by decide) (fun c => absurd c (by decide)) (fun _ => ?_)
                  obtain ⟨d, hd, hvd⟩ := hfp
                  refine lv_aload_n hx hb dXM_read_174 rfl (lv_at hl 1 rfl) ?_
                  refine va_get (D := (dC, dI)) (ci := 2) (v := .ref mb) (C := RXM) (T := TXM) (N := 10) hx hb hts hiXM hown hK hP 0 rfl rfl 2 (by decide) hf13 (fun _ h9 => h9) rfl dXM_read_175 ?_
                  refine lv_bipush (v := nI 12) hx hb dXM_read_178 (by decide) ?_
                  refine lv_iload_n hx hb dXM_read_180 rfl (lv_at hl 0 rfl) ?_
                  refine lv_iadd hx hb dXM_read_181 ?_
                  refine tp_i (nI 12) (by decide) ?_
                  refine lv_aload_n hx hb dXM_read_182 rfl (lv_at hl 1 rfl) ?_
                  refine va_get (D := (dC, dI)) (ci := 2) (v := .ref mp) (C := RXM) (T := TXM) (N := 10) hx hb hts hiXM hown hK hP 0 rfl rfl 5 (by decide) hf22 (fun _ h9 => h9) rfl dXM_read_183 ?_
                  refine lv_iload_n hx hb dXM_read_186 rfl (lv_at hl 0 rfl) ?_
                  refine ld_i hx hb hK hP 5 4 rfl rfl (by omega) (by omega) dXM_read_187 ?_
                  refine tp_i (nI (d 0)) ((hd 0 (by omega)).1) ?_
                  refine st_i hx hb hK hP hD hS 2 1 rfl rfl (by omega) (by omega) dXM_read_188 (fun H locs hP hD hS => ?_)
                  have hP : va_P (dC, dI) azCl [(m0, .inr (2, [.ref mt, .int (nI 0), .ref mb, .ref mf, .ref ml, .ref mp, .int (nI 4), .int xg1, .ref mo, .int (nI w)])), (mt, .inl (dT, 60, .inl F)), (mb, .inl (dB, 32, .inl (upd E 12 (nI (d 0))))), (mf, .inl (dF, 2, .inl (upd (upd Fm 1 (nI f1)) 0 (nI 4)))), (ml, .inl (dL, 2, .inl (upd (upd Ln 1 (nI l1)) 0 (nI 32)))), (mp, .inl (dP, 8, .inl P1))] H := hP
                  have hD : va_D A [(m0, .inr (2, [.ref mt, .int (nI 0), .ref mb, .ref mf, .ref ml, .ref mp, .int (nI 4), .int xg1, .ref mo, .int (nI w)])), (mt, .inl (dT, 60, .inl F)), (mb, .inl (dB, 32, .inl (upd E 12 (nI (d 0))))), (mf, .inl (dF, 2, .inl (upd (upd Fm 1 (nI f1)) 0 (nI 4)))), (ml, .inl (dL, 2, .inl (upd (upd Ln 1 (nI l1)) 0 (nI 32)))), (mp, .inl (dP, 8, .inl P1))] := hD
                  refine lv_goto (tgt := 261) hx hb dXM_read_189 (by decide) ?_
                  refine lv_iinc (v := nI 1) (lv' := [(3, .int (nI 1)), (0, .ref m0), (1, .int (nI 0))]) hx hb dXM_read_261 hl (k := 0) rfl (by decide) (by decide) rfl (fun ls hl => ?_)
                  refine lv_goto (tgt := 162) hx hb dXM_read_264 (by decide) ?_
                  refine lv_iload_n hx hb dXM_read_162 rfl (lv_at hl 0 rfl) ?_
                  refine lv_aload_n hx hb dXM_read_163 rfl (lv_at hl 1 rfl) ?_
                  refine va_get (D := (dC, dI)) (ci := 2) (v := .int (nI 4)) (C := RXM) (T := TXM) (N := 10) hx hb hts hiXM hown hK hP 0 rfl rfl 6 (by decide) hf40 (fun _ h9 => h9) rfl dXM_read_164 ?_
                  refine lv_icmp_ge (tgt := 267) hx hb dXM_read_167 (by decide) (fun c => absurd c (by decide)) (fun _ => ?_)
                  refine lv_iload_n hx hb dXM_read_170 rfl (lv_at hl 2 rfl) ?_
                  refine lv_if_ne (tgt := 192) hx hb dXM_read_171 (by decide) (fun c => absurd c (by decide)) (fun _ => ?_)
                  refine lv_aload_n hx hb dXM_read_174 rfl (lv_at hl 1 rfl) ?_
                  refine va_get (D := (dC, dI)) (ci := 2) (v := .ref mb) (C := RXM) (T := TXM) (N := 10) hx hb hts hiXM hown hK hP 0 rfl rfl 2 (by decide) hf13 (fun _ h9 => h9) rfl dXM_read_175 ?_
                  refine lv_bipush (v := nI 12) hx hb dXM_read_178 (by decide) ?_
                  refine lv_iload_n hx hb dXM_read_180 rfl (lv_at hl 0 rfl) ?_
                  refine lv_iadd hx hb dXM_read_181 ?_
                  refine tp_i (nI 13) (by decide) ?_
                  refine lv_aload_n hx hb dXM_read_182 rfl (lv_at hl 1 rfl) ?_
                  refine va_get (D := (dC, dI)) (ci := 2) (v := .ref mp) (C := RXM) (T := TXM) (N := 10) hx hb hts hiXM hown hK hP 0 rfl rfl 5 (by decide) hf22 (fun _ h9 => h9) rfl dXM_read_183 ?_
                  refine lv_iload_n hx hb dXM_read_186 rfl (lv_at hl 0 rfl) ?_
                  refine ld_i hx hb hK hP 5 4 rfl rfl (by omega) (by omega) dXM_read_187 ?_
                  refine tp_i (nI (d 1)) ((hd 1 (by omega)).1) ?_
                  refine st_i hx hb hK hP hD hS 2 1 rfl rfl (by omega) (by omega) dXM_read_188 (fun H locs hP hD hS => ?_)
                  have hP : va_P (dC, dI) azCl [(m0, .inr (2, [.ref mt, .int (nI 0), .ref mb, .ref mf, .ref ml, .ref mp, .int (nI 4), .int xg1, .ref mo, .int (nI w)])), (mt, .inl (dT, 60, .inl F)), (mb, .inl (dB, 32, .inl (upd (upd E 12 (nI (d 0))) 13 (nI (d 1))))), (mf, .inl (dF, 2, .inl (upd (upd Fm 1 (nI f1)) 0 (nI 4)))), (ml, .inl (dL, 2, .inl (upd (upd Ln 1 (nI l1)) 0 (nI 32)))), (mp, .inl (dP, 8, .inl P1))] H := hP
                  have hD : va_D A [(m0, .inr (2, [.ref mt, .int (nI 0), .ref mb, .ref mf, .ref ml, .ref mp, .int (nI 4), .int xg1, .ref mo, .int (nI w)])), (mt, .inl (dT, 60, .inl F)), (mb, .inl (dB, 32, .inl (upd (upd E 12 (nI (d 0))) 13 (nI (d 1))))), (mf, .inl (dF, 2, .inl (upd (upd Fm 1 (nI f1)) 0 (nI 4)))), (ml, .inl (dL, 2, .inl (upd (upd Ln 1 (nI l1)) 0 (nI 32)))), (mp, .inl (dP, 8, .inl P1))] := hD
                  refine lv_goto (tgt := 261) hx hb dXM_read_189 (by decide) ?_
                  refine lv_iinc (v := nI 2) (lv' := [(3, .int (nI 2)), (0, .ref m0), (1, .int (nI 0))]) hx hb dXM_read_261 hl (k := 0) rfl (by decide) (by decide) rfl (fun ls hl => ?_)
                  refine lv_goto (tgt := 162) hx hb dXM_read_264 (by decide) ?_
                  refine lv_iload_n hx hb dXM_read_162 rfl (lv_at hl 0 rfl) ?_
                  refine lv_aload_n hx hb dXM_read_163 rfl (lv_at hl 1 rfl) ?_
                  refine va_get (D := (dC, dI)) (ci := 2) (v := .int (nI 4)) (C := RXM) (T := TXM) (N := 10) hx hb hts hiXM hown hK hP 0 rfl rfl 6 (by decide) hf40 (fun _ h9 => h9) rfl dXM_read_164 ?_
                  refine lv_icmp_ge (tgt := 267) hx hb dXM_read_167 (by decide) (fun c => absurd c (by decide)) (fun _ => ?_)
                  refine lv_iload_n hx hb dXM_read_170 rfl (lv_at hl 2 rfl) ?_
                  refine lv_if_ne (tgt := 192) hx hb dXM_read_171 (by decide) (fun c => absurd c (by decide)) (fun _ => ?_)
                  refine lv_aload_n hx hb dXM_read_174 rfl (lv_at hl 1 rfl) ?_
                  refine va_get (D := (dC, dI)) (ci := 2) (v := .ref mb) (C := RXM) (T := TXM) (N := 10) hx hb hts hiXM hown hK hP 0 rfl rfl 2 (by decide) hf13 (fun _ h9 => h9) rfl dXM_read_175 ?_
                  refine lv_bipush (v := nI 12) hx hb dXM_read_178 (by decide) ?_
                  refine lv_iload_n hx hb dXM_read_180 rfl (lv_at hl 0 rfl) ?_
                  refine lv_iadd hx hb dXM_read_181 ?_
                  refine tp_i (nI 14) (by decide) ?_
                  refine lv_aload_n hx hb dXM_read_182 rfl (lv_at hl 1 rfl) ?_
                  refine va_get (D := (dC, dI)) (ci := 2) (v := .ref mp) (C := RXM) (T := TXM) (N := 10) hx hb hts hiXM hown hK hP 0 rfl rfl 5 (by decide) hf22 (fun _ h9 => h9) rfl dXM_read_183 ?_
                  refine lv_iload_n hx hb dXM_read_186 rfl (lv_at hl 0 rfl) ?_
                  refine ld_i hx hb hK hP 5 4 rfl rfl (by omega) (by omega) dXM_read_187 ?_
                  refine tp_i (nI (d 2)) ((hd 2 (by omega)).1) ?_
                  refine st_i hx hb hK hP hD hS 2 1 rfl rfl (by omega) (by omega) dXM_read_188 (fun H locs hP hD hS => ?_)
                  have hP : va_P (dC, dI) azCl [(m0, .inr (2, [.ref mt, .int (nI 0), .ref mb, .ref mf, .ref ml, .ref mp, .int (nI 4), .int xg1, .ref mo, .int (nI w)])), (mt, .inl (dT, 60, .inl F)), (mb, .inl (dB, 32, .inl (upd (upd (upd E 12 (nI (d 0))) 13 (nI (d 1))) 14 (nI (d 2))))), (mf, .inl (dF, 2, .inl (upd (upd Fm 1 (nI f1)) 0 (nI 4)))), (ml, .inl (dL, 2, .inl (upd (upd Ln 1 (nI l1)) 0 (nI 32)))), (mp, .inl (dP, 8, .inl P1))] H := hP
                  have hD : va_D A [(m0, .inr (2, [.ref mt, .int (nI 0), .ref mb, .ref mf, .ref ml, .ref mp, .int (nI 4), .int xg1, .ref mo, .int (nI w)])), (mt, .inl (dT, 60, .inl F)), (mb, .inl (dB, 32, .inl (upd (upd (upd E 12 (nI (d 0))) 13 (nI (d 1))) 14 (nI (d 2))))), (mf, .inl (dF, 2, .inl (upd (upd Fm 1 (nI f1)) 0 (nI 4)))), (ml, .inl (dL, 2, .inl (upd (upd Ln 1 (nI l1)) 0 (nI 32)))), (mp, .inl (dP, 8, .inl P1))] := hD
                  refine lv_goto (tgt := 261) hx hb dXM_read_189 (by decide) ?_
                  refine lv_iinc (v := nI 3) (lv' := [(3, .int (nI 3)), (0, .ref m0), (1, .int (nI 0))]) hx hb dXM_read_261 hl (k := 0) rfl (by decide) (by decide) rfl (fun ls hl => ?_)
                  refine lv_goto (tgt := 162) hx hb dXM_read_264 (by decide) ?_
                  refine lv_iload_n hx hb dXM_read_162 rfl (lv_at hl 0 rfl) ?_
                  refine lv_aload_n hx hb dXM_read_163 rfl (lv_at hl 1 rfl) ?_
                  refine va_get (D := (dC, dI)) (ci := 2) (v := .int (nI 4)) (C := RXM) (T := TXM) (N := 10) hx hb hts hiXM hown hK hP 0 rfl rfl 6 (by decide) hf40 (fun _ h9 => h9) rfl dXM_read_164 ?_
                  refine lv_icmp_ge (tgt := 267) hx hb dXM_read_167 (by decide) (fun c => absurd c (by decide)) (fun _ => ?_)
                  refine lv_iload_n hx hb dXM_read_170 rfl (lv_at hl 2 rfl) ?_
                  refine lv_if_ne (tgt := 192) hx hb dXM_read_171 (by decide) (fun c => absurd c (by decide)) (fun _ => ?_)
                  refine lv_aload_n hx hb dXM_read_174 rfl (lv_at hl 1 rfl) ?_
                  refine va_get (D := (dC, dI)) (ci := 2) (v := .ref mb) (C := RXM) (T := TXM) (N := 10) hx hb hts hiXM hown hK hP 0 rfl rfl 2 (by decide) hf13 (fun _ h9 => h9) rfl dXM_read_175 ?_
                  refine lv_bipush (v := nI 12) hx hb dXM_read_178 (by decide) ?_
                  refine lv_iload_n hx hb dXM_read_180 rfl (lv_at hl 0 rfl) ?_
                  refine lv_iadd hx hb dXM_read_181 ?_
                  refine tp_i (nI 15) (by decide) ?_
                  refine lv_aload_n hx hb dXM_read_182 rfl (lv_at hl 1 rfl) ?_
                  refine va_get (D := (dC, dI)) (ci := 2) (v := .ref mp) (C := RXM) (T := TXM) (N := 10) hx hb hts hiXM hown hK hP 0 rfl rfl 5 (by decide) hf22 (fun _ h9 => h9) rfl dXM_read_183 ?_
                  refine lv_iload_n hx hb dXM_read_186 rfl (lv_at hl 0 rfl) ?_
                  refine ld_i hx hb hK hP 5 4 rfl rfl (by omega) (by omega) dXM_read_187 ?_
                  refine tp_i (nI (d 3)) ((hd 3 (by omega)).1) ?_
                  refine st_i hx hb hK hP hD hS 2 1 rfl rfl (by omega) (by omega) dXM_read_188 (fun H locs hP hD hS => ?_)
                  have hP : va_P (dC, dI) azCl [(m0, .inr (2, [.ref mt, .int (nI 0), .ref mb, .ref mf, .ref ml, .ref mp, .int (nI 4), .int xg1, .ref mo, .int (nI w)])), (mt, .inl (dT, 60, .inl F)), (mb, .inl (dB, 32, .inl (upd (upd (upd (upd E 12 (nI (d 0))) 13 (nI (d 1))) 14 (nI (d 2))) 15 (nI (d 3))))), (mf, .inl (dF, 2, .inl (upd (upd Fm 1 (nI f1)) 0 (nI 4)))), (ml, .inl (dL, 2, .inl (upd (upd Ln 1 (nI l1)) 0 (nI 32)))), (mp, .inl (dP, 8, .inl P1))] H := hP
                  have hD : va_D A [(m0, .inr (2, [.ref mt, .int (nI 0), .ref mb, .ref mf, .ref ml, .ref mp, .int (nI 4), .int xg1, .ref mo, .int (nI w)])), (mt, .inl (dT, 60, .inl F)), (mb, .inl (dB, 32, .inl (upd (upd (upd (upd E 12 (nI (d 0))) 13 (nI (d 1))) 14 (nI (d 2))) 15 (nI (d 3))))), (mf, .inl (dF, 2, .inl (upd (upd Fm 1 (nI f1)) 0 (nI 4)))), (ml, .inl (dL, 2, .inl (upd (upd Ln 1 (nI l1)) 0 (nI 32)))), (mp, .inl (dP, 8, .inl P1))] := hD
                  refine lv_goto (tgt := 261) hx hb dXM_read_189 (by decide) ?_
                  refine lv_iinc (v := nI 4) (lv' := [(3, .int (nI 4)), (0, .ref m0), (1, .int (nI 0))]) hx hb dXM_read_261 hl (k := 0) rfl (by decide) (by decide) rfl (fun ls hl => ?_)
                  refine lv_goto (tgt := 162) hx hb dXM_read_264 (by decide) ?_
                  refine lv_iload_n hx hb dXM_read_162 rfl (lv_at hl 0 rfl) ?_
                  refine lv_aload_n hx hb dXM_read_163 rfl (lv_at hl 1 rfl) ?_
                  refine va_get (D := (dC, dI)) (ci := 2) (v := .int (nI 4)) (C := RXM) (T := TXM) (N := 10) hx hb hts hiXM hown hK hP 0 rfl rfl 6 (by decide) hf40 (fun _ h9 => h9) rfl dXM_read_164 ?_
                  refine lv_icmp_ge (tgt := 267) hx hb dXM_read_167 (by decide) (fun _ => ?_) (fun c => absurd c (by decide))
                  refine lv_aload_n hx hb dXM_read_267 rfl (lv_at hl 1 rfl) ?_
                  refine va_get (D := (dC, dI)) (ci := 2) (v := .ref mf) (C := RXM) (T := TXM) (N := 10) hx hb hts hiXM hown hK hP 0 rfl rfl 3 (by decide) hf16 (fun _ h9 => h9) rfl dXM_read_268 ?_
                  refine lv_iconst (v := nI 0) hx hb dXM_read_271 (by decide) ?_
                  refine ld_i hx hb hK hP 3 2 rfl rfl (by omega) (by omega) dXM_read_272 ?_
                  refine tp_i (nI 4) (pk_us) ?_
                  have hb9 : ∀ j, j < 16 → (upd (upd (upd (upd E 12 (nI (d 0))) 13 (nI (d 1))) 14 (nI (d 2))) 15 (nI (d 3))) (16 + j) = nI (az_byte V1 j) := fun j hj => by rw [pk_un (by omega), pk_un (by omega), pk_un (by omega), pk_un (by omega), hE16 j hj]; exact (hB0x j hj)
                  have hf90 : (upd (upd Fm 1 (nI f1)) 0 (nI 4)) 0 = nI 4 := pk_us
                  have hf91 : (upd (upd Fm 1 (nI f1)) 0 (nI 4)) 1 = nI f1 := by rw [pk_un (by decide)]; exact pk_us
                  have hl90 : (upd (upd Ln 1 (nI l1)) 0 (nI 32)) 0 = nI (az_wl 4) := by rw [pk_us]; rfl
                  have hl91 : (upd (upd Ln 1 (nI l1)) 0 (nI 32)) 1 = nI l1 := by rw [pk_un (by decide)]; exact pk_us
                  exact wt_i hx hb hr ((upd (upd (upd (upd E 12 (nI (d 0))) 13 (nI (d 1))) 14 (nI (d 2))) 15 (nI (d 3)), upd (upd Fm 1 (nI f1)) 0 (nI 4), upd (upd Ln 1 (nI l1)) 0 (nI 32), P1, nI 4, xg1)) (Or.inr ⟨4, vv, by unfold az_text; rw [if_neg hpl, ea]; rfl, rfl, by rw [hvd]; exact az_by_4 hE0 (fun j hj => (hd j hj).2), hb9, hf90, hf91, hl90, hl91⟩) (hP.sub [0, 1, 2, 3, 4, 5] rfl) hK (hD.sub [0, 1, 2, 3, 4, 5] (by decide) rfl) hS dXM_read_273 hlocks
                · refine lv_aload_n hx hb dXM_read_74 rfl (lv_at hl 0 rfl) ?_
                  refine va_get (D := (dC, dI)) (ci := 2) (v := .ref mb) (C := RXM) (T := TXM) (N := 10) hx hb hts hiXM hown hK hP 0 rfl rfl 2 (by decide) hf13 (fun _ h9 => h9) rfl dXM_read_75 ?_
                  refine lv_bipush (v := nI 16) hx hb dXM_read_78 (by decide) ?_
                  refine lv_iload_n hx hb dXM_read_80 rfl (lv_at hl 2 rfl) ?_
                  refine lv_iadd hx hb dXM_read_81 ?_
                  refine tp_i (nI (16 + k3)) (nI_add _ _) ?_
                  refine lv_aload_n hx hb dXM_read_82 rfl (lv_at hl 0 rfl) ?_
                  refine va_get (D := (dC, dI)) (ci := 2) (v := .ref mb) (C := RXM) (T := TXM) (N := 10) hx hb hts hiXM hown hK hP 0 rfl rfl 2 (by decide) hf13 (fun _ h9 => h9) rfl dXM_read_83 ?_
                  refine lv_iload_n hx hb dXM_read_86 rfl (lv_at hl 2 rfl) ?_
                  refine ld_i hx hb hK hP 2 1 rfl rfl (by omega) (by omega) dXM_read_87 ?_
                  refine st_i hx hb hK hP hD hS 2 1 rfl rfl (by omega) (by omega) dXM_read_88 (fun H locs hP hD hS => ?_)
                  have hP : va_P (dC, dI) azCl [(m0, .inr (2, [.ref mt, .int (nI 0), .ref mb, .ref mf, .ref ml, .ref mp, .int (nI 4), .int xg1, .ref mo, .int (nI w)])), (mt, .inl (dT, 60, .inl F)), (mb, .inl (dB, 32, .inl (upd E (16 + k3) (E k3)))), (mf, .inl (dF, 2, .inl Fm)), (ml, .inl (dL, 2, .inl Ln)), (mp, .inl (dP, 8, .inl P1))] H := hP
                  have hD : va_D A [(m0, .inr (2, [.ref mt, .int (nI 0), .ref mb, .ref mf, .ref ml, .ref mp, .int (nI 4), .int xg1, .ref mo, .int (nI w)])), (mt, .inl (dT, 60, .inl F)), (mb, .inl (dB, 32, .inl (upd E (16 + k3) (E k3)))), (mf, .inl (dF, 2, .inl Fm)), (ml, .inl (dL, 2, .inl Ln)), (mp, .inl (dP, 8, .inl P1))] := hD
                  refine lv_aload_n hx hb dXM_read_89 rfl (lv_at hl 0 rfl) ?_
                  refine va_get (D := (dC, dI)) (ci := 2) (v := .ref mb) (C := RXM) (T := TXM) (N := 10) hx hb hts hiXM hown hK hP 0 rfl rfl 2 (by decide) hf13 (fun _ h9 => h9) rfl dXM_read_90 ?_
                  refine lv_iload_n hx hb dXM_read_93 rfl (lv_at hl 2 rfl) ?_
                  refine lv_iconst (v := nI 0) hx hb dXM_read_94 (by decide) ?_
                  refine st_i hx hb hK hP hD hS 2 1 rfl rfl (by omega) (by omega) dXM_read_95 (fun H locs hP hD hS => ?_)
                  have hP : va_P (dC, dI) azCl [(m0, .inr (2, [.ref mt, .int (nI 0), .ref mb, .ref mf, .ref ml, .ref mp, .int (nI 4), .int xg1, .ref mo, .int (nI w)])), (mt, .inl (dT, 60, .inl F)), (mb, .inl (dB, 32, .inl (upd (upd E (16 + k3) (E k3)) k3 (nI 0)))), (mf, .inl (dF, 2, .inl Fm)), (ml, .inl (dL, 2, .inl Ln)), (mp, .inl (dP, 8, .inl P1))] H := hP
                  have hD : va_D A [(m0, .inr (2, [.ref mt, .int (nI 0), .ref mb, .ref mf, .ref ml, .ref mp, .int (nI 4), .int xg1, .ref mo, .int (nI w)])), (mt, .inl (dT, 60, .inl F)), (mb, .inl (dB, 32, .inl (upd (upd E (16 + k3) (E k3)) k3 (nI 0)))), (mf, .inl (dF, 2, .inl Fm)), (ml, .inl (dL, 2, .inl Ln)), (mp, .inl (dP, 8, .inl P1))] := hD
                  refine lv_iinc (v := nI (k3 + 1)) (lv' := [(3, .int (nI (k3 + 1))), (0, .ref m0), (1, .int (nI 0))]) hx hb dXM_read_96 hl (k := 2) rfl (nI_add _ 1) (by decide) rfl (fun ls hl => ?_)
                  refine lv_goto (tgt := 68) hx hb dXM_read_99 (by decide) ?_
                  exact ih (k3 + 1) (upd (upd E (16 + k3) (E k3)) k3 (nI 0)) (by omega) (az_shift_s c71 hE) (by omega) _ _ (hP.sub [0, 1, 2, 3, 4, 5] rfl) (hD.sub [0, 1, 2, 3, 4, 5] (by decide) rfl) hS ls (lv_sub hl [1, 2, 0] rfl)
            exact lp68 _ 0 B (Nat.zero_le _) (fun j hj => ⟨fun h => absurd h (Nat.not_lt_zero j), fun _ => rfl⟩) (Nat.lt_succ_self _) _ _ (hP.sub [3, 4, 0, 1, 2, 5] rfl) (hD.sub [3, 4, 0, 1, 2, 5] (by decide) rfl) hS ls (lv_sub hl [2, 3, 0] rfl)
        · refine lv_aload_n hx hb dXM_read_43 rfl (lv_at hl 0 rfl) ?_
          have hpl : az_pl T n 58 0 < n := by (rcases hs with ⟨h, _⟩ | ⟨_, h⟩); exact (absurd h c40); exact (h)
          have hsx : sx = 1 := by omega
          subst hsx
          refine wc_Vi (As := []) (rest := []) (wr := [(mb, .inl (dB, 32, .inl B)), (mf, .inl (dF, 2, .inl Fm)), (ml, .inl (dL, 2, .inl Ln))]) ⟨hx, hb, hml, hown, hts⟩ (ct_m_isSix l dC dI H.size m0 mt mb mf ml mp mo n w xm xg dT F T hF hn dP P (by omega)) (cwV 0 hts gXM_read_XM_isSix rfl rfl rfl (by decide +kernel) ⟨Nat.le_of_ble_eq_true rfl, Nat.le_of_ble_eq_true rfl⟩) hP hD hK hS hA [0, 1, 5] [2, 3, 4] [0, 4] rfl rfl (by decide) (by decide) (by decide) rfl 0 rfl rfl rfl hl.1 rfl (Nat.le_of_ble_eq_true rfl) dXM_read_44 ⟨(Nat.zero_le _), (Nat.zero_le _)⟩ (fun r1 u1 H locs hp1 hP hD hS => ?_)
          obtain ⟨P1, xm1, xg1⟩ := u1
          try dsimp only at hp1
          have hP : va_P (dC, dI) azCl [(mb, .inl (dB, 32, .inl B)), (mf, .inl (dF, 2, .inl Fm)), (ml, .inl (dL, 2, .inl Ln)), (m0, .inr (2, [.ref mt, .int (nI n), .ref mb, .ref mf, .ref ml, .ref mp, .int xm1, .int xg1, .ref mo, .int (nI w)])), (mt, .inl (dT, 60, .inl F)), (mp, .inl (dP, 8, .inl P1))] H := hP
          have hD : va_D A [(mb, .inl (dB, 32, .inl B)), (mf, .inl (dF, 2, .inl Fm)), (ml, .inl (dL, 2, .inl Ln)), (m0, .inr (2, [.ref mt, .int (nI n), .ref mb, .ref mf, .ref ml, .ref mp, .int xm1, .int xg1, .ref mo, .int (nI w)])), (mt, .inl (dT, 60, .inl F)), (mp, .inl (dP, 8, .inl P1))] := hD
          obtain ⟨ea, er⟩ | ⟨L, g, ea, er, em, eg, hL8, hlp⟩ := hp1
          · subst er
            refine lv_goto (tgt := 54) hx hb dXM_read_47 (by decide) ?_
            refine lv_istore_n (lv' := [(2, .int (nI 0)), (0, .ref m0), (1, .int (nI 1))]) hx hb dXM_read_54 rfl hl (by decide) rfl (fun ls hl => ?_)
            refine lv_aload_n hx hb dXM_read_55 rfl (lv_at hl 1 rfl) ?_
            refine lv_iconst (v := nI 0) hx hb dXM_read_56 (by decide) ?_
            refine va_put (D := (dC, dI)) (ci := 2) (v := .int (nI 0)) (ty := .int) (C := RXM) (T := TXM) (N := 10) hx hb hts hiXM tyXM tyXM_ok nmXM hown hK hP hD hS 3 rfl rfl 1 (by decide) hf28 (fun _ h9 => h9) rfl (by decide +kernel) rfl rfl (Nat.le_of_ble_eq_true rfl) dXM_read_57 (fun H locs hP hD hS => ?_)
            have hP : va_P (dC, dI) azCl [(mb, .inl (dB, 32, .inl B)), (mf, .inl (dF, 2, .inl Fm)), (ml, .inl (dL, 2, .inl Ln)), (m0, .inr (2, [.ref mt, .int (nI 0), .ref mb, .ref mf, .ref ml, .ref mp, .int xm1, .int xg1, .ref mo, .int (nI w)])), (mt, .inl (dT, 60, .inl F)), (mp, .inl (dP, 8, .inl P1))] H := hP
            have hD : va_D A [(mb, .inl (dB, 32, .inl B)), (mf, .inl (dF, 2, .inl Fm)), (ml, .inl (dL, 2, .inl Ln)), (m0, .inr (2, [.ref mt, .int (nI 0), .ref mb, .ref mf, .ref ml, .ref mp, .int xm1, .int xg1, .ref mo, .int (nI w)])), (mt, .inl (dT, 60, .inl F)), (mp, .inl (dP, 8, .inl P1))] := hD
            refine lv_iload_n hx hb dXM_read_60 rfl (lv_at hl 0 rfl) ?_
            refine lv_if_ne (tgt := 66) hx hb dXM_read_61 (by decide) (fun c => absurd c (by decide)) (fun _ => ?_)
            refine lv_iconst (v := -1) hx hb dXM_read_64 (by decide) ?_
            exact wt_i hx hb hr ((B, Fm, Ln, P1, xm1, xg1)) (Or.inl ⟨by unfold az_text; rw [if_pos hpl, az_six_c1, ea]; rfl, rfl, rfl, rfl, rfl⟩) (hP.sub [3, 4, 0, 1, 2, 5] rfl) hK (hD.sub [3, 4, 0, 1, 2, 5] (by decide) rfl) hS dXM_read_65 hlocks
          · subst er
            subst em
            subst eg
            have hP : va_P (dC, dI) azCl [(mb, .inl (dB, 32, .inl B)), (mf, .inl (dF, 2, .inl Fm)), (ml, .inl (dL, 2, .inl Ln)), (m0, .inr (2, [.ref mt, .int (nI n), .ref mb, .ref mf, .ref ml, .ref mp, .int (nI L.length), .int (az_o g), .ref mo, .int (nI w)])), (mt, .inl (dT, 60, .inl F)), (mp, .inl (dP, 8, .inl P1))] H := hP
            have hD : va_D A [(mb, .inl (dB, 32, .inl B)), (mf, .inl (dF, 2, .inl Fm)), (ml, .inl (dL, 2, .inl Ln)), (m0, .inr (2, [.ref mt, .int (nI n), .ref mb, .ref mf, .ref ml, .ref mp, .int (nI L.length), .int (az_o g), .ref mo, .int (nI w)])), (mt, .inl (dT, 60, .inl F)), (mp, .inl (dP, 8, .inl P1))] := hD
            refine lv_goto (tgt := 54) hx hb dXM_read_47 (by decide) ?_
            refine lv_istore_n (lv' := [(2, .int (nI 1)), (0, .ref m0), (1, .int (nI 1))]) hx hb dXM_read_54 rfl hl (by decide) rfl (fun ls hl => ?_)
            refine lv_aload_n hx hb dXM_read_55 rfl (lv_at hl 1 rfl) ?_
            refine lv_iconst (v := nI 0) hx hb dXM_read_56 (by decide) ?_
            refine va_put (D := (dC, dI)) (ci := 2) (v := .int (nI 0)) (ty := .int) (C := RXM) (T := TXM) (N := 10) hx hb hts hiXM tyXM tyXM_ok nmXM hown hK hP hD hS 3 rfl rfl 1 (by decide) hf28 (fun _ h9 => h9) rfl (by decide +kernel) rfl rfl (Nat.le_of_ble_eq_true rfl) dXM_read_57 (fun H locs hP hD hS => ?_)
            have hP : va_P (dC, dI) azCl [(mb, .inl (dB, 32, .inl B)), (mf, .inl (dF, 2, .inl Fm)), (ml, .inl (dL, 2, .inl Ln)), (m0, .inr (2, [.ref mt, .int (nI 0), .ref mb, .ref mf, .ref ml, .ref mp, .int (nI L.length), .int (az_o g), .ref mo, .int (nI w)])), (mt, .inl (dT, 60, .inl F)), (mp, .inl (dP, 8, .inl P1))] H := hP
            have hD : va_D A [(mb, .inl (dB, 32, .inl B)), (mf, .inl (dF, 2, .inl Fm)), (ml, .inl (dL, 2, .inl Ln)), (m0, .inr (2, [.ref mt, .int (nI 0), .ref mb, .ref mf, .ref ml, .ref mp, .int (nI L.length), .int (az_o g), .ref mo, .int (nI w)])), (mt, .inl (dT, 60, .inl F)), (mp, .inl (dP, 8, .inl P1))] := hD
            refine lv_iload_n hx hb dXM_read_60 rfl (lv_at hl 0 rfl) ?_
            refine lv_if_ne (tgt := 66) hx hb dXM_read_61 (by decide) (fun _ => ?_) (fun c => absurd c (by decide))
            refine lv_iconst (v := nI 0) hx hb dXM_read_66 (by decide) ?_
            refine lv_istore_n (lv' := [(3, .int (nI 0)), (2, .int (nI 1)), (0, .ref m0), (1, .int (nI 1))]) hx hb dXM_read_67 rfl hl (by decide) rfl (fun ls hl => ?_)
            have lp68 : ∀ (N : Nat) (k3 : Nat) (E : Nat → Int32), (k3 ≤ 16) → (∀ j, j < 16 → (j < k3 → E (16 + j) = B j ∧ E j = nI 0) ∧ (k3 ≤ j → E j = B j)) → (16 - k3) < N → ∀ (H : Heap) (locs : List Loc), va_P (dC, dI) azCl [(m0, .inr (2, [.ref mt, .int (nI 0), .ref mb, .ref mf, .ref ml, .ref mp, .int (nI L.length), .int (az_o g), .ref mo, .int (nI w)])), (mt, .inl (dT, 60, .inl F)), (mb, .inl (dB, 32, .inl E)), (mf, .inl (dF, 2, .inl Fm)), (ml, .inl (dL, 2, .inl Ln)), (mp, .inl (dP, 8, .inl P1))] H → va_D A [(m0, .inr (2, [.ref mt, .int (nI 0), .ref mb, .ref mf, .ref ml, .ref mp, .int (nI L.length), .int (az_o g), .ref mo, .int (nI w)])), (mt, .inl (dT, 60, .inl F)), (mb, .inl (dB, 32, .inl E)), (mf, .inl (dF, 2, .inl Fm)), (ml, .inl (dL, 2, .inl Ln)), (mp, .inl (dP, 8, .inl P1))] → va_S A s.heap H locs → ∀ (ls : Array Slot), lv_has ls 5 [(0, .ref m0), (1, .int (nI 1)), (3, .int (nI k3))] → W p l e (headSpec wsXM_read ({ frames := 3, cells := 0, slots := 0, locals := 68 })).room s m ([.ref m0] : List Value).toArray below meth c H locs 0 0 (MQ below (va_Qi (fun r u => (az_text T n = none ∧ r = -1 ∧ u.1 = B ∧ u.2.1 = Fm ∧ u.2.2.1 = Ln) ∨ (∃ fm V, az_text T n = some (fm, V) ∧ r = nI fm ∧ az_by u.1 0 V ∧ az_by u.1 16 V1 ∧ u.2.1 0 = nI fm ∧ u.2.1 1 = nI f1 ∧ u.2.2.1 0 = nI (az_wl fm) ∧ u.2.2.1 1 = nI l1)) (wr_B (dC, dI) azCl [(dT, .int), (dB, .int), (dF, .int), (dL, .int), (dP, .int)] A (fun u : (Nat → Int32) × (Nat → Int32) × (Nat → Int32) × (Nat → Int32) × Int32 × Int32 => [(m0, .inr (2, [.ref mt, .int (nI 0), .ref mb, .ref mf, .ref ml, .ref mp, .int u.2.2.2.2.1, .int u.2.2.2.2.2, .ref mo, .int (nI w)])), (mt, .inl (dT, 60, .inl F)), (mb, .inl (dB, 32, .inl u.1)), (mf, .inl (dF, 2, .inl u.2.1)), (ml, .inl (dL, 2, .inl u.2.2.1)), (mp, .inl (dP, 8, .inl u.2.2.2.1))])) A) ([.ref m0] : List Value).toArray s 0 0 A) (F0 m 68 ls []) := by
              intro N
              induction N with
              | zero => intro k3 E hk3 hE hN; exact absurd hN (Nat.not_lt_zero _)
              | succ N ih =>
                intro k3 E hk3 hE hN H locs hP hD hS ls hl
                refine lv_iload_n hx hb dXM_read_68 rfl (lv_at hl 2 rfl) ?_
                refine lv_bipush (v := nI 16) hx hb dXM_read_69 (by decide) ?_
                refine bn_ge (tgt := 102) hx hb dXM_read_71 (by decide) (by omega) (by omega) (fun c71 => ?_) (fun c71 => ?_)
                · have hE0 : ∀ j, j < 16 → E j = nI 0 := fun j hj => ((hE j hj).1 (by omega)).2
                  have hE16 : ∀ j, j < 16 → E (16 + j) = B j := fun j hj => ((hE j hj).1 (by omega)).1
                  refine lv_aload_n hx hb dXM_read_102 rfl (lv_at hl 0 rfl) ?_
                  refine va_get (D := (dC, dI)) (ci := 2) (v := .ref mf) (C := RXM) (T := TXM) (N := 10) hx hb hts hiXM hown hK hP 0 rfl rfl 3 (by decide) hf16 (fun _ h9 => h9) rfl dXM_read_103 ?_
                  refine lv_iconst (v := nI 1) hx hb dXM_read_106 (by decide) ?_
                  refine lv_aload_n hx hb dXM_read_107 rfl (lv_at hl 0 rfl) ?_
                  refine va_get (D := (dC, dI)) (ci := 2) (v := .ref mf) (C := RXM) (T := TXM) (N := 10) hx hb hts hiXM hown hK hP 0 rfl rfl 3 (by decide) hf16 (fun _ h9 => h9) rfl dXM_read_108 ?_
                  refine lv_iconst (v := nI 0) hx hb dXM_read_111 (by decide) ?_
                  refine ld_i hx hb hK hP 3 2 rfl rfl (by omega) (by omega) dXM_read_112 ?_
                  refine tp_i (nI f1) (hF0) ?_
                  refine st_i hx hb hK hP hD hS 3 2 rfl rfl (by omega) (by omega) dXM_read_113 (fun H locs hP hD hS => ?_)
                  have hP : va_P (dC, dI) azCl [(m0, .inr (2, [.ref mt, .int (nI 0), .ref mb, .ref mf, .ref ml, .ref mp, .int (nI L.length), .int (az_o g), .ref mo, .int (nI w)])), (mt, .inl (dT, 60, .inl F)), (mb, .inl (dB, 32, .inl E)), (mf, .inl (dF, 2, .inl (upd Fm 1 (nI f1)))), (ml, .inl (dL, 2, .inl Ln)), (mp, .inl (dP, 8, .inl P1))] H := hP
                  have hD : va_D A [(m0, .inr (2, [.ref mt, .int (nI 0), .ref mb, .ref mf, .ref ml, .ref mp, .int (nI L.length), .int (az_o g), .ref mo, .int (nI w)])), (mt, .inl (dT, 60, .inl F)), (mb, .inl (dB, 32, .inl E)), (mf, .inl (dF, 2, .inl (upd Fm 1 (nI f1)))), (ml, .inl (dL, 2, .inl Ln)), (mp, .inl (dP, 8, .inl P1))] := hD
                  refine lv_aload_n hx hb dXM_read_114 rfl (lv_at hl 0 rfl) ?_
                  refine va_get (D := (dC, dI)) (ci := 2) (v := .ref ml) (C := RXM) (T := TXM) (N := 10) hx hb hts hiXM hown hK hP 0 rfl rfl 4 (by decide) hf19 (fun _ h9 => h9) rfl dXM_read_115 ?_
                  refine lv_iconst (v := nI 1) hx hb dXM_read_118 (by decide) ?_
                  refine lv_aload_n hx hb dXM_read_119 rfl (lv_at hl 0 rfl) ?_
                  refine va_get (D := (dC, dI)) (ci := 2) (v := .ref ml) (C := RXM) (T := TXM) (N := 10) hx hb hts hiXM hown hK hP 0 rfl rfl 4 (by decide) hf19 (fun _ h9 => h9) rfl dXM_read_120 ?_
                  refine lv_iconst (v := nI 0) hx hb dXM_read_123 (by decide) ?_
                  refine ld_i hx hb hK hP 4 3 rfl rfl (by omega) (by omega) dXM_read_124 ?_
                  refine tp_i (nI l1) (hL0) ?_
                  refine st_i hx hb hK hP hD hS 4 3 rfl rfl (by omega) (by omega) dXM_read_125 (fun H locs hP hD hS => ?_)
                  have hP : va_P (dC, dI) azCl [(m0, .inr (2, [.ref mt, .int (nI 0), .ref mb, .ref mf, .ref ml, .ref mp, .int (nI L.length), .int (az_o g), .ref mo, .int (nI w)])), (mt, .inl (dT, 60, .inl F)), (mb, .inl (dB, 32, .inl E)), (mf, .inl (dF, 2, .inl (upd Fm 1 (nI f1)))), (ml, .inl (dL, 2, .inl (upd Ln 1 (nI l1)))), (mp, .inl (dP, 8, .inl P1))] H := hP
                  have hD : va_D A [(m0, .inr (2, [.ref mt, .int (nI 0), .ref mb, .ref mf, .ref ml, .ref mp, .int (nI L.length), .int (az_o g), .ref mo, .int (nI w)])), (mt, .inl (dT, 60, .inl F)), (mb, .inl (dB, 32, .inl E)), (mf, .inl (dF, 2, .inl (upd Fm 1 (nI f1)))), (ml, .inl (dL, 2, .inl (upd Ln 1 (nI l1)))), (mp, .inl (dP, 8, .inl P1))] := hD
                  refine lv_aload_n hx hb dXM_read_126 rfl (lv_at hl 0 rfl) ?_
                  refine va_get (D := (dC, dI)) (ci := 2) (v := .ref mf) (C := RXM) (T := TXM) (N := 10) hx hb hts hiXM hown hK hP 0 rfl rfl 3 (by decide) hf16 (fun _ h9 => h9) rfl dXM_read_127 ?_
                  refine lv_iconst (v := nI 0) hx hb dXM_read_130 (by decide) ?_
                  refine lv_iload_n hx hb dXM_read_131 rfl (lv_at hl 1 rfl) ?_
                  refine lv_if_eq (tgt := 140) hx hb dXM_read_132 (by decide) (fun c => absurd c (by decide)) (fun _ => ?_)
                  refine lv_bipush (v := nI 6) hx hb dXM_read_135 (by decide) ?_
                  refine lv_goto (tgt := 141) hx hb dXM_read_137 (by decide) ?_
                  refine st_i hx hb hK hP hD hS 3 2 rfl rfl (by omega) (by omega) dXM_read_141 (fun H locs hP hD hS => ?_)
                  have hP : va_P (dC, dI) azCl [(m0, .inr (2, [.ref mt, .int (nI 0), .ref mb, .ref mf, .ref ml, .ref mp, .int (nI L.length), .int (az_o g), .ref mo, .int (nI w)])), (mt, .inl (dT, 60, .inl F)), (mb, .inl (dB, 32, .inl E)), (mf, .inl (dF, 2, .inl (upd (upd Fm 1 (nI f1)) 0 (nI 6)))), (ml, .inl (dL, 2, .inl (upd Ln 1 (nI l1)))), (mp, .inl (dP, 8, .inl P1))] H := hP
                  have hD : va_D A [(m0, .inr (2, [.ref mt, .int (nI 0), .ref mb, .ref mf, .ref ml, .ref mp, .int (nI L.length), .int (az_o g), .ref mo, .int (nI w)])), (mt, .inl (dT, 60, .inl F)), (mb, .inl (dB, 32, .inl E)), (mf, .inl (dF, 2, .inl (upd (upd Fm 1 (nI f1)) 0 (nI 6)))), (ml, .inl (dL, 2, .inl (upd Ln 1 (nI l1)))), (mp, .inl (dP, 8, .inl P1))] := hD
                  refine lv_aload_n hx hb dXM_read_142 rfl (lv_at hl 0 rfl) ?_
                  refine va_get (D := (dC, dI)) (ci := 2) (v := .ref ml) (C := RXM) (T := TXM) (N := 10) hx hb hts hiXM hown hK hP 0 rfl rfl 4 (by decide) hf19 (fun _ h9 => h9) rfl dXM_read_143 ?_
                  refine lv_iconst (v := nI 0) hx hb dXM_read_146 (by decide) ?_
                  refine lv_iload_n hx hb dXM_read_147 rfl (lv_at hl 1 rfl) ?_
                  refine lv_if_eq (tgt := 157) hx hb dXM_read_148 (by decide) (fun c => absurd c (by decide)) (fun _ => ?_)
                  refine lv_sipush (v := nI 128) hx hb dXM_read_151 (by decide) ?_
                  refine lv_goto (tgt := 159) hx hb dXM_read_154 (by decide) ?_
                  refine st_i hx hb hK hP hD hS 4 3 rfl rfl (by omega) (by omega) dXM_read_159 (fun H locs hP hD hS => ?_)
                  have hP : va_P (dC, dI) azCl [(m0, .inr (2, [.ref mt, .int (nI 0), .ref mb, .ref mf, .ref ml, .ref mp, .int (nI L.length), .int (az_o g), .ref mo, .int (nI w)])), (mt, .inl (dT, 60, .inl F)), (mb, .inl (dB, 32, .inl E)), (mf, .inl (dF, 2, .inl (upd (upd Fm 1 (nI f1)) 0 (nI 6)))), (ml, .inl (dL, 2, .inl (upd (upd Ln 1 (nI l1)) 0 (nI 128)))), (mp, .inl (dP, 8, .inl P1))] H := hP
                  have hD : va_D A [(m0, .inr (2, [.ref mt, .int (nI 0), .ref mb, .ref mf, .ref ml, .ref mp, .int (nI L.length), .int (az_o g), .ref mo, .int (nI w)])), (mt, .inl (dT, 60, .inl F)), (mb, .inl (dB, 32, .inl E)), (mf, .inl (dF, 2, .inl (upd (upd Fm 1 (nI f1)) 0 (nI 6)))), (ml, .inl (dL, 2, .inl (upd (upd Ln 1 (nI l1)) 0 (nI 128)))), (mp, .inl (dP, 8, .inl P1))] := hD
                  refine lv_iconst (v := nI 0) hx hb dXM_read_160 (by decide) ?_
                  refine lv_istore_n (lv' := [(3, .int (nI 0)), (0, .ref m0), (1, .int (nI 1))]) hx hb dXM_read_161 rfl hl (by decide) rfl (fun ls hl => ?_)
                  have lp162 : ∀ (N : Nat) (k : Nat) (E2 : Nat → Int32), (k ≤ L.length) → (az_by E2 0 (az_pw L g k)) → (∀ j, j < 16 → E2 (16 + j) = B j) → (az_pw L g k < 340282366920938463463374607431768211456) → (k < L.length → az_pw L g k % 2 ^ (16 * (8 - az_ps g L.length k)) = 0) → (L.length - k) < N → ∀ (H : Heap) (locs : List Loc), va_P (dC, dI) azCl [(m0, .inr (2, [.ref mt, .int (nI 0), .ref mb, .ref mf, .ref ml, .ref mp, .int (nI L.length), .int (az_o g), .ref mo, .int (nI w)])), (mt, .inl (dT, 60, .inl F)), (mb, .inl (dB, 32, .inl E2)), (mf, .inl (dF, 2, .inl (upd (upd Fm 1 (nI f1)) 0 (nI 6)))), (ml, .inl (dL, 2, .inl (upd (upd Ln 1 (nI l1)) 0 (nI 128)))), (mp, .inl (dP, 8, .inl P1))] H → va_D A [(m0, .inr (2, [.ref mt, .int (nI 0), .ref mb, .ref mf, .ref ml, .ref mp, .int (nI L.length), .int (az_o g), .ref mo, .int (nI w)])), (mt, .inl (dT, 60, .inl F)), (mb, .inl (dB, 32, .inl E2)), (mf, .inl (dF, 2, .inl (upd (upd Fm 1 (nI f1)) 0 (nI 6)))), (ml, .inl (dL, 2, .inl (upd (upd Ln 1 (nI l1)) 0 (nI 128)))), (mp, .inl (dP, 8, .inl P1))] → va_S A s.heap H locs → ∀ (ls : Array Slot), lv_has ls 5 [(0, .ref m0), (1, .int (nI 1)), (3, .int (nI k))] → W p l e (headSpec wsXM_read ({ frames := 3, cells := 0, slots := 0, locals := 68 })).room s m ([.ref m0] : List Value).toArray below meth c H locs 0 0 (MQ below (va_Qi (fun r u => (az_text T n = none ∧ r = -1 ∧ u.1 = B ∧ u.2.1 = Fm ∧ u.2.2.1 = Ln) ∨ (∃ fm V, az_text T n = some (fm, V) ∧ r = nI fm ∧ az_by u.1 0 V ∧ az_by u.1 16 V1 ∧ u.2.1 0 = nI fm ∧ u.2.1 1 = nI f1 ∧ u.2.2.1 0 = nI (az_wl fm) ∧ u.2.2.1 1 = nI l1)) (wr_B (dC, dI) azCl [(dT, .int), (dB, .int), (dF, .int), (dL, .int), (dP, .int)] A (fun u : (Nat → Int32) × (Nat → Int32) × (Nat → Int32) × (Nat → Int32) × Int32 × Int32 => [(m0, .inr (2, [.ref mt, .int (nI 0), .ref mb, .ref mf, .ref ml, .ref mp, .int u.2.2.2.2.1, .int u.2.2.2.2.2, .ref mo, .int (nI w)])), (mt, .inl (dT, 60, .inl F)), (mb, .inl (dB, 32, .inl u.1)), (mf, .inl (dF, 2, .inl u.2.1)), (ml, .inl (dL, 2, .inl u.2.2.1)), (mp, .inl (dP, 8, .inl u.2.2.2.1))])) A) ([.ref m0] : List Value).toArray s 0 0 A) (F0 m 162 ls []) := by
                    intro N
                    induction N with
                    | zero => intro k E2 hk4 hE2 hE3 hW hz hN; exact absurd hN (Nat.not_lt_zero _)
                    | succ N ih =>
                      intro k E2 hk4 hE2 hE3 hW hz hN H locs hP hD hS ls hl
                      refine lv_iload_n hx hb dXM_read_162 rfl (lv_at hl 2 rfl) ?_
                      refine lv_aload_n hx hb dXM_read_163 rfl (lv_at hl 0 rfl) ?_
                      refine va_get (D := (dC, dI)) (ci := 2) (v := .int (nI L.length)) (C := RXM) (T := TXM) (N := 10) hx hb hts hiXM hown hK hP 0 rfl rfl 6 (by decide) hf40 (fun _ h9 => h9) rfl dXM_read_164 ?_
                      refine bn_ge (tgt := 267) hx hb dXM_read_167 (by decide) (by omega) (by omega) (fun c167 => ?_) (fun c167 => ?_)
                      · refine lv_aload_n hx hb dXM_read_267 rfl (lv_at hl 0 rfl) ?_
                        refine va_get (D := (dC, dI)) (ci := 2) (v := .ref mf) (C := RXM) (T := TXM) (N := 10) hx hb hts hiXM hown hK hP 0 rfl rfl 3 (by decide) hf16 (fun _ h9 => h9) rfl dXM_read_268 ?_
                        refine lv_iconst (v := nI 0) hx hb dXM_read_271 (by decide) ?_
                        refine ld_i hx hb hK hP 3 2 rfl rfl (by omega) (by omega) dXM_read_272 ?_
                        refine tp_i (nI 6) (pk_us) ?_
                        have hb9 : ∀ j, j < 16 → E2 (16 + j) = nI (az_byte V1 j) := fun j hj => (hE3 j hj).trans (hB0x j hj)
                        have hf90 : (upd (upd Fm 1 (nI f1)) 0 (nI 6)) 0 = nI 6 := pk_us
                        have hf91 : (upd (upd Fm 1 (nI f1)) 0 (nI 6)) 1 = nI f1 := by rw [pk_un (by decide)]; exact pk_us
                        have hl90 : (upd (upd Ln 1 (nI l1)) 0 (nI 128)) 0 = nI (az_wl 6) := by rw [pk_us]; rfl
                        have hl91 : (upd (upd Ln 1 (nI l1)) 0 (nI 128)) 1 = nI l1 := by rw [pk_un (by decide)]; exact pk_us
                        exact wt_i hx hb hr ((E2, upd (upd Fm 1 (nI f1)) 0 (nI 6), upd (upd Ln 1 (nI l1)) 0 (nI 128), P1, nI L.length, az_o g)) (Or.inr ⟨6, az_val (L, g), by unfold az_text; rw [if_pos hpl, az_six_c1, ea]; rfl, rfl, by rw [← az_pw_val (az_c1_ok ea) hL8, show L.length = k by omega]; exact hE2, hb9, hf90, hf91, hl90, hl91⟩) (hP.sub [0, 1, 2, 3, 4, 5] rfl) hK (hD.sub [0, 1, 2, 3, 4, 5] (by decide) rfl) hS dXM_read_273 hlocks
                      · refine lv_iload_n hx hb dXM_read_170 rfl (lv_at hl 1 rfl) ?_
                        refine lv_if_ne (tgt := 192) hx hb dXM_read_171 (by decide) (fun _ => ?_) (fun c => absurd c (by decide))
                        rcases g with _ | q
                        · have hP : va_P (dC, dI) azCl [(m0, .inr (2, [.ref mt, .int (nI 0), .ref mb, .ref mf, .ref ml, .ref mp, .int (nI L.length), .int (-1), .ref mo, .int (nI w)])), (mt, .inl (dT, 60, .inl F)), (mb, .inl (dB, 32, .inl E2)), (mf, .inl (dF, 2, .inl (upd (upd Fm 1 (nI f1)) 0 (nI 6)))), (ml, .inl (dL, 2, .inl (upd (upd Ln 1 (nI l1)) 0 (nI 128)))), (mp, .inl (dP, 8, .inl P1))] H := hP
                          have hD : va_D A [(m0, .inr (2, [.ref mt, .int (nI 0), .ref mb, .ref mf, .ref ml, .ref mp, .int (nI L.length), .int (-1), .ref mo, .int (nI w)])), (mt, .inl (dT, 60, .inl F)), (mb, .inl (dB, 32, .inl E2)), (mf, .inl (dF, 2, .inl (upd (upd Fm 1 (nI f1)) 0 (nI 6)))), (ml, .inl (dL, 2, .inl (upd (upd Ln 1 (nI l1)) 0 (nI 128)))), (mp, .inl (dP, 8, .inl P1))] := hD
                          refine lv_aload_n hx hb dXM_read_192 rfl (lv_at hl 0 rfl) ?_
                          refine va_get (D := (dC, dI)) (ci := 2) (v := .int (-1)) (C := RXM) (T := TXM) (N := 10) hx hb hts hiXM hown hK hP 0 rfl rfl 7 (by decide) hf47 (fun _ h9 => h9) rfl dXM_read_193 ?_
                          refine lv_if_lt (tgt := 219) hx hb dXM_read_196 (by decide) (fun _ => ?_) (fun c => absurd c (by decide))
                          refine lv_iload_n hx hb dXM_read_219 rfl (lv_at hl 2 rfl) ?_
                          refine lv_istore (lv' := [(4, .int (nI k)), (0, .ref m0), (1, .int (nI 1)), (3, .int (nI k))]) hx hb dXM_read_220 hl (by decide) rfl (fun ls hl => ?_)
                          have hps : az_ps none L.length k = k := rfl
                          have hp8 : k < 8 := by rw [← hps]; exact az_ps_lt hL8 c167
                          have hz2 := hz c167
                          rw [hps] at hz2
                          have hlk := hlp k c167
                          refine lv_aload_n hx hb dXM_read_222 rfl (lv_at hl 1 rfl) ?_
                          refine va_get (D := (dC, dI)) (ci := 2) (v := .ref mb) (C := RXM) (T := TXM) (N := 10) hx hb hts hiXM hown hK hP 0 rfl rfl 2 (by decide) hf13 (fun _ h9 => h9) rfl dXM_read_223 ?_
                          refine lv_iconst (v := nI 2) hx hb dXM_read_226 (by decide) ?_
                          refine lv_iload hx hb dXM_read_227 (lv_at hl 0 rfl) ?_
                          refine lv_imul hx hb dXM_read_229 ?_
                          refine tp_i (nI (2 * k)) (pk_mul _ _) ?_
                          refine lv_aload_n hx hb dXM_read_230 rfl (lv_at hl 1 rfl) ?_
                          refine va_get (D := (dC, dI)) (ci := 2) (v := .ref mp) (C := RXM) (T := TXM) (N := 10) hx hb hts hiXM hown hK hP 0 rfl rfl 5 (by decide) hf22 (fun _ h9 => h9) rfl dXM_read_231 ?_
                          refine lv_iload_n hx hb dXM_read_234 rfl (lv_at hl 3 rfl) ?_
                          refine ld_i hx hb hK hP 5 4 rfl rfl (by omega) (by omega) dXM_read_235 ?_
                          refine tp_i (nI (L.getD k 0)) (hlk.1) ?_
                          refine lv_bipush (v := nI 8) hx hb dXM_read_236 (by decide) ?_
                          refine lv_ishr hx hb dXM_read_238 ?_
                          refine tp_i (nI ((L.getD k 0) / 256)) (pk_shrN (by have := hlk.2; omega) _ 8 (by decide)) ?_
                          refine st_i hx hb hK hP hD hS 2 1 rfl rfl (by omega) (by omega) dXM_read_239 (fun H locs hP hD hS => ?_)
                          have hP : va_P (dC, dI) azCl [(m0, .inr (2, [.ref mt, .int (nI 0), .ref mb, .ref mf, .ref ml, .ref mp, .int (nI L.length), .int (-1), .ref mo, .int (nI w)])), (mt, .inl (dT, 60, .inl F)), (mb, .inl (dB, 32, .inl (upd E2 (2 * k) (nI ((L.getD k 0) / 256))))), (mf, .inl (dF, 2, .inl (upd (upd Fm 1 (nI f1)) 0 (nI 6)))), (ml, .inl (dL, 2, .inl (upd (upd Ln 1 (nI l1)) 0 (nI 128)))), (mp, .inl (dP, 8, .inl P1))] H := hP
                          have hD : va_D A [(m0, .inr (2, [.ref mt, .int (nI 0), .ref mb, .ref mf, .ref ml, .ref mp, .int (nI L.length), .int (-1), .ref mo, .int (nI w)])), (mt, .inl (dT, 60, .inl F)), (mb, .inl (dB, 32, .inl (upd E2 (2 * k) (nI ((L.getD k 0) / 256))))), (mf, .inl (dF, 2, .inl (upd (upd Fm 1 (nI f1)) 0 (nI 6)))), (ml, .inl (dL, 2, .inl (upd (upd Ln 1 (nI l1)) 0 (nI 128)))), (mp, .inl (dP, 8, .inl P1))] := hD
                          refine lv_aload_n hx hb dXM_read_240 rfl (lv_at hl 1 rfl) ?_
                          refine va_get (D := (dC, dI)) (ci := 2) (v := .ref mb) (C := RXM) (T := TXM) (N := 10) hx hb hts hiXM hown hK hP 0 rfl rfl 2 (by decide) hf13 (fun _ h9 => h9) rfl dXM_read_241 ?_
                          refine lv_iconst (v := nI 2) hx hb dXM_read_244 (by decide) ?_
                          refine lv_iload hx hb dXM_read_245 (lv_at hl 0 rfl) ?_
                          refine lv_imul hx hb dXM_read_247 ?_
                          refine tp_i (nI (2 * k)) (pk_mul _ _) ?_
                          refine lv_iconst (v := nI 1) hx hb dXM_read_248 (by decide) ?_
                          refine lv_iadd hx hb dXM_read_249 ?_
                          refine tp_i (nI ((2 * k) + 1)) (nI_add _ _) ?_
                          refine lv_aload_n hx hb dXM_read_250 rfl (lv_at hl 1 rfl) ?_
                          refine va_get (D := (dC, dI)) (ci := 2) (v := .ref mp) (C := RXM) (T := TXM) (N := 10) hx hb hts hiXM hown hK hP 0 rfl rfl 5 (by decide) hf22 (fun _ h9 => h9) rfl dXM_read_251 ?_
                          refine lv_iload_n hx hb dXM_read_254 rfl (lv_at hl 3 rfl) ?_
                          refine ld_i hx hb hK hP 5 4 rfl rfl (by omega) (by omega) dXM_read_255 ?_
                          refine tp_i (nI (L.getD k 0)) (hlk.1) ?_
                          refine lv_sipush (v := nI 255) hx hb dXM_read_256 (by decide) ?_
                          refine lv_iand hx hb dXM_read_259 ?_
                          refine tp_i (nI ((L.getD k 0) % 256)) (pk_andN (by have := hlk.2; omega) 8 (by decide)) ?_
                          refine st_i hx hb hK hP hD hS 2 1 rfl rfl (by omega) (by omega) dXM_read_260 (fun H locs hP hD hS => ?_)
                          have hP : va_P (dC, dI) azCl [(m0, .inr (2, [.ref mt, .int (nI 0), .ref mb, .ref mf, .ref ml, .ref mp, .int (nI L.length), .int (-1), .ref mo, .int (nI w)])), (mt, .inl (dT, 60, .inl F)), (mb, .inl (dB, 32, .inl (upd (upd E2 (2 * k) (nI ((L.getD k 0) / 256))) ((2 * k) + 1) (nI ((L.getD k 0) % 256))))), (mf, .inl (dF, 2, .inl (upd (upd Fm 1 (nI f1)) 0 (nI 6)))), (ml, .inl (dL, 2, .inl (upd (upd Ln 1 (nI l1)) 0 (nI 128)))), (mp, .inl (dP, 8, .inl P1))] H := hP
                          have hD : va_D A [(m0, .inr (2, [.ref mt, .int (nI 0), .ref mb, .ref mf, .ref ml, .ref mp, .int (nI L.length), .int (-1), .ref mo, .int (nI w)])), (mt, .inl (dT, 60, .inl F)), (mb, .inl (dB, 32, .inl (upd (upd E2 (2 * k) (nI ((L.getD k 0) / 256))) ((2 * k) + 1) (nI ((L.getD k 0) % 256))))), (mf, .inl (dF, 2, .inl (upd (upd Fm 1 (nI f1)) 0 (nI 6)))), (ml, .inl (dL, 2, .inl (upd (upd Ln 1 (nI l1)) 0 (nI 128)))), (mp, .inl (dP, 8, .inl P1))] := hD
                          refine lv_iinc (v := nI (k + 1)) (lv' := [(3, .int (nI (k + 1))), (4, .int (nI k)), (0, .ref m0), (1, .int (nI 1))]) hx hb dXM_read_261 hl (k := 3) rfl (nI_add _ 1) (by decide) rfl (fun ls hl => ?_)
                          refine lv_goto (tgt := 162) hx hb dXM_read_264 (by decide) ?_
                          exact ih (k + 1) (upd (upd E2 (2 * k) (nI ((L.getD k 0) / 256))) ((2 * k) + 1) (nI ((L.getD k 0) % 256))) (by omega) (by show az_by _ 0 (az_sp (az_pw L none k) (az_ps none L.length k) (L.getD k 0)); rw [hps]; exact az_by_sp hE2 hp8 hlk.2 hz2) (fun j hj => by rw [pk_un (show 16 + j ≠ _ by omega), pk_un (show 16 + j ≠ _ by omega)]; exact hE3 j hj) (by show az_sp (az_pw L none k) (az_ps none L.length k) (L.getD k 0) < _; rw [hps]; exact (az_sp_ok hW hp8 hlk.2 hz2).1) (fun hk5 => by show az_sp (az_pw L none k) (az_ps none L.length k) (L.getD k 0) % _ = 0; have h := az_ps_s (g := none) hL8 hk5; rw [hps] at h ⊢; exact az_mono (az_sp_ok hW hp8 hlk.2 hz2).2 (by omega)) (by omega) _ _ (hP.sub [0, 1, 2, 3, 4, 5] rfl) (hD.sub [0, 1, 2, 3, 4, 5] (by decide) rfl) hS ls (lv_sub hl [2, 3, 0] rfl)
                        · have hP : va_P (dC, dI) azCl [(m0, .inr (2, [.ref mt, .int (nI 0), .ref mb, .ref mf, .ref ml, .ref mp, .int (nI L.length), .int (nI q), .ref mo, .int (nI w)])), (mt, .inl (dT, 60, .inl F)), (mb, .inl (dB, 32, .inl E2)), (mf, .inl (dF, 2, .inl (upd (upd Fm 1 (nI f1)) 0 (nI 6)))), (ml, .inl (dL, 2, .inl (upd (upd Ln 1 (nI l1)) 0 (nI 128)))), (mp, .inl (dP, 8, .inl P1))] H := hP
                          have hD : va_D A [(m0, .inr (2, [.ref mt, .int (nI 0), .ref mb, .ref mf, .ref ml, .ref mp, .int (nI L.length), .int (nI q), .ref mo, .int (nI w)])), (mt, .inl (dT, 60, .inl F)), (mb, .inl (dB, 32, .inl E2)), (mf, .inl (dF, 2, .inl (upd (upd Fm 1 (nI f1)) 0 (nI 6)))), (ml, .inl (dL, 2, .inl (upd (upd Ln 1 (nI l1)) 0 (nI 128)))), (mp, .inl (dP, 8, .inl P1))] := hD
                          have hq8 := az_c1_ok ea q rfl
                          refine lv_aload_n hx hb dXM_read_192 rfl (lv_at hl 0 rfl) ?_
                          refine va_get (D := (dC, dI)) (ci := 2) (v := .int (nI q)) (C := RXM) (T := TXM) (N := 10) hx hb hts hiXM hown hK hP 0 rfl rfl 7 (by decide) hf47 (fun _ h9 => h9) rfl dXM_read_193 ?_
                          refine bz_lt (tgt := 219) hx hb dXM_read_196 (by decide) (by omega) ?_
                          refine lv_iload_n hx hb dXM_read_199 rfl (lv_at hl 2 rfl) ?_
                          refine lv_aload_n hx hb dXM_read_200 rfl (lv_at hl 0 rfl) ?_
                          refine va_get (D := (dC, dI)) (ci := 2) (v := .int (nI q)) (C := RXM) (T := TXM) (N := 10) hx hb hts hiXM hown hK hP 0 rfl rfl 7 (by decide) hf47 (fun _ h9 => h9) rfl dXM_read_201 ?_
                          refine bn_lt (tgt := 219) hx hb dXM_read_204 (by decide) (by omega) (by omega) (fun c204 => ?_) (fun c204 => ?_)
                          · refine lv_iload_n hx hb dXM_read_219 rfl (lv_at hl 2 rfl) ?_
                            refine lv_istore (lv' := [(4, .int (nI k)), (0, .ref m0), (1, .int (nI 1)), (3, .int (nI k))]) hx hb dXM_read_220 hl (by decide) rfl (fun ls hl => ?_)
                            have hps : az_ps (some q) L.length k = k := by show (if q ≤ k then 8 - L.length + k else k) = _; first | rw [if_pos c204] | rw [if_neg (Nat.not_le.mpr c204)]
                            have hp8 : k < 8 := by rw [← hps]; exact az_ps_lt hL8 c167
                            have hz2 := hz c167
                            rw [hps] at hz2
                            have hlk := hlp k c167
                            refine lv_aload_n hx hb dXM_read_222 rfl (lv_at hl 1 rfl) ?_
                            refine va_get (D := (dC, dI)) (ci := 2) (v := .ref mb) (C := RXM) (T := TXM) (N := 10) hx hb hts hiXM hown hK hP 0 rfl rfl 2 (by decide) hf13 (fun _ h9 => h9) rfl dXM_read_223 ?_
                            refine lv_iconst (v := nI 2) hx hb dXM_read_226 (by decide) ?_
                            refine lv_iload hx hb dXM_read_227 (lv_at hl 0 rfl) ?_
                            refine lv_imul hx hb dXM_read_229 ?_
                            refine tp_i (nI (2 * k)) (pk_mul _ _) ?_
                            refine lv_aload_n hx hb dXM_read_230 rfl (lv_at hl 1 rfl) ?_
                            refine va_get (D := (dC, dI)) (ci := 2) (v := .ref mp) (C := RXM) (T := TXM) (N := 10) hx hb hts hiXM hown hK hP 0 rfl rfl 5 (by decide) hf22 (fun _ h9 => h9) rfl dXM_read_231 ?_
                            refine lv_iload_n hx hb dXM_read_234 rfl (lv_at hl 3 rfl) ?_
                            refine ld_i hx hb hK hP 5 4 rfl rfl (by omega) (by omega) dXM_read_235 ?_
                            refine tp_i (nI (L.getD k 0)) (hlk.1) ?_
                            refine lv_bipush (v := nI 8) hx hb dXM_read_236 (by decide) ?_
                            refine lv_ishr hx hb dXM_read_238 ?_
                            refine tp_i (nI ((L.getD k 0) / 256)) (pk_shrN (by have := hlk.2; omega) _ 8 (by decide)) ?_
                            refine st_i hx hb hK hP hD hS 2 1 rfl rfl (by omega) (by omega) dXM_read_239 (fun H locs hP hD hS => ?_)
                            have hP : va_P (dC, dI) azCl [(m0, .inr (2, [.ref mt, .int (nI 0), .ref mb, .ref mf, .ref ml, .ref mp, .int (nI L.length), .int (nI q), .ref mo, .int (nI w)])), (mt, .inl (dT, 60, .inl F)), (mb, .inl (dB, 32, .inl (upd E2 (2 * k) (nI ((L.getD k 0) / 256))))), (mf, .inl (dF, 2, .inl (upd (upd Fm 1 (nI f1)) 0 (nI 6)))), (ml, .inl (dL, 2, .inl (upd (upd Ln 1 (nI l1)) 0 (nI 128)))), (mp, .inl (dP, 8, .inl P1))] H := hP
                            have hD : va_D A [(m0, .inr (2, [.ref mt, .int (nI 0), .ref mb, .ref mf, .ref ml, .ref mp, .int (nI L.length), .int (nI q), .ref mo, .int (nI w)])), (mt, .inl (dT, 60, .inl F)), (mb, .inl (dB, 32, .inl (upd E2 (2 * k) (nI ((L.getD k 0) / 256))))), (mf, .inl (dF, 2, .inl (upd (upd Fm 1 (nI f1)) 0 (nI 6)))), (ml, .inl (dL, 2, .inl (upd (upd Ln 1 (nI l1)) 0 (nI 128)))), (mp, .inl (dP, 8, .inl P1))] := hD
                            refine lv_aload_n hx hb dXM_read_240 rfl (lv_at hl 1 rfl) ?_
                            refine va_get (D := (dC, dI)) (ci := 2) (v := .ref mb) (C := RXM) (T := TXM) (N := 10) hx hb hts hiXM hown hK hP 0 rfl rfl 2 (by decide) hf13 (fun _ h9 => h9) rfl dXM_read_241 ?_
                            refine lv_iconst (v := nI 2) hx hb dXM_read_244 (by decide) ?_
                            refine lv_iload hx hb dXM_read_245 (lv_at hl 0 rfl) ?_
                            refine lv_imul hx hb dXM_read_247 ?_
                            refine tp_i (nI (2 * k)) (pk_mul _ _) ?_
                            refine lv_iconst (v := nI 1) hx hb dXM_read_248 (by decide) ?_
                            refine lv_iadd hx hb dXM_read_249 ?_
                            refine tp_i (nI ((2 * k) + 1)) (nI_add _ _) ?_
                            refine lv_aload_n hx hb dXM_read_250 rfl (lv_at hl 1 rfl) ?_
                            refine va_get (D := (dC, dI)) (ci := 2) (v := .ref mp) (C := RXM) (T := TXM) (N := 10) hx hb hts hiXM hown hK hP 0 rfl rfl 5 (by decide) hf22 (fun _ h9 => h9) rfl dXM_read_251 ?_
                            refine lv_iload_n hx hb dXM_read_254 rfl (lv_at hl 3 rfl) ?_
                            refine ld_i hx hb hK hP 5 4 rfl rfl (by omega) (by omega) dXM_read_255 ?_
                            refine tp_i (nI (L.getD k 0)) (hlk.1) ?_
                            refine lv_sipush (v := nI 255) hx hb dXM_read_256 (by decide) ?_
                            refine lv_iand hx hb dXM_read_259 ?_
                            refine tp_i (nI ((L.getD k 0) % 256)) (pk_andN (by have := hlk.2; omega) 8 (by decide)) ?_
                            refine st_i hx hb hK hP hD hS 2 1 rfl rfl (by omega) (by omega) dXM_read_260 (fun H locs hP hD hS => ?_)
                            have hP : va_P (dC, dI) azCl [(m0, .inr (2, [.ref mt, .int (nI 0), .ref mb, .ref mf, .ref ml, .ref mp, .int (nI L.length), .int (nI q), .ref mo, .int (nI w)])), (mt, .inl (dT, 60, .inl F)), (mb, .inl (dB, 32, .inl (upd (upd E2 (2 * k) (nI ((L.getD k 0) / 256))) ((2 * k) + 1) (nI ((L.getD k 0) % 256))))), (mf, .inl (dF, 2, .inl (upd (upd Fm 1 (nI f1)) 0 (nI 6)))), (ml, .inl (dL, 2, .inl (upd (upd Ln 1 (nI l1)) 0 (nI 128)))), (mp, .inl (dP, 8, .inl P1))] H := hP
                            have hD : va_D A [(m0, .inr (2, [.ref mt, .int (nI 0), .ref mb, .ref mf, .ref ml, .ref mp, .int (nI L.length), .int (nI q), .ref mo, .int (nI w)])), (mt, .inl (dT, 60, .inl F)), (mb, .inl (dB, 32, .inl (upd (upd E2 (2 * k) (nI ((L.getD k 0) / 256))) ((2 * k) + 1) (nI ((L.getD k 0) % 256))))), (mf, .inl (dF, 2, .inl (upd (upd Fm 1 (nI f1)) 0 (nI 6)))), (ml, .inl (dL, 2, .inl (upd (upd Ln 1 (nI l1)) 0 (nI 128)))), (mp, .inl (dP, 8, .inl P1))] := hD
                            refine lv_iinc (v := nI (k + 1)) (lv' := [(3, .int (nI (k + 1))), (4, .int (nI k)), (0, .ref m0), (1, .int (nI 1))]) hx hb dXM_read_261 hl (k := 3) rfl (nI_add _ 1) (by decide) rfl (fun ls hl => ?_)
                            refine lv_goto (tgt := 162) hx hb dXM_read_264 (by decide) ?_
                            exact ih (k + 1) (upd (upd E2 (2 * k) (nI ((L.getD k 0) / 256))) ((2 * k) + 1) (nI ((L.getD k 0) % 256))) (by omega) (by show az_by _ 0 (az_sp (az_pw L (some q) k) (az_ps (some q) L.length k) (L.getD k 0)); rw [hps]; exact az_by_sp hE2 hp8 hlk.2 hz2) (fun j hj => by rw [pk_un (show 16 + j ≠ _ by omega), pk_un (show 16 + j ≠ _ by omega)]; exact hE3 j hj) (by show az_sp (az_pw L (some q) k) (az_ps (some q) L.length k) (L.getD k 0) < _; rw [hps]; exact (az_sp_ok hW hp8 hlk.2 hz2).1) (fun hk5 => by show az_sp (az_pw L (some q) k) (az_ps (some q) L.length k) (L.getD k 0) % _ = 0; have h := az_ps_s (g := (some q)) hL8 hk5; rw [hps] at h ⊢; exact az_mono (az_sp_ok hW hp8 hlk.2 hz2).2 (by omega)) (by omega) _ _ (hP.sub [0, 1, 2, 3, 4, 5] rfl) (hD.sub [0, 1, 2, 3, 4, 5] (by decide) rfl) hS ls (lv_sub hl [2, 3, 0] rfl)
                          · refine lv_bipush (v := nI 8) hx hb dXM_read_207 (by decide) ?_
                            refine lv_aload_n hx hb dXM_read_209 rfl (lv_at hl 0 rfl) ?_
                            refine va_get (D := (dC, dI)) (ci := 2) (v := .int (nI L.length)) (C := RXM) (T := TXM) (N := 10) hx hb hts hiXM hown hK hP 0 rfl rfl 6 (by decide) hf40 (fun _ h9 => h9) rfl dXM_read_210 ?_
                            refine lv_isub hx hb dXM_read_213 ?_
                            refine tp_i (nI (8 - L.length)) (pk_sub (by omega)) ?_
                            refine lv_iload_n hx hb dXM_read_214 rfl (lv_at hl 2 rfl) ?_
                            refine lv_iadd hx hb dXM_read_215 ?_
                            refine tp_i (nI ((8 - L.length) + k)) (nI_add _ _) ?_
                            refine lv_goto (tgt := 220) hx hb dXM_read_216 (by decide) ?_
                            refine lv_istore (lv' := [(4, .int (nI ((8 - L.length) + k))), (0, .ref m0), (1, .int (nI 1)), (3, .int (nI k))]) hx hb dXM_read_220 hl (by decide) rfl (fun ls hl => ?_)
                            have hps : az_ps (some q) L.length k = (8 - L.length) + k := by show (if q ≤ k then 8 - L.length + k else k) = _; first | rw [if_pos c204] | rw [if_neg (Nat.not_le.mpr c204)]
                            have hp8 : (8 - L.length) + k < 8 := by rw [← hps]; exact az_ps_lt hL8 c167
                            have hz2 := hz c167
                            rw [hps] at hz2
                            have hlk := hlp k c167
                            refine lv_aload_n hx hb dXM_read_222 rfl (lv_at hl 1 rfl) ?_
                            refine va_get (D := (dC, dI)) (ci := 2) (v := .ref mb) (C := RXM) (T := TXM) (N := 10) hx hb hts hiXM hown hK hP 0 rfl rfl 2 (by decide) hf13 (fun _ h9 => h9) rfl dXM_read_223 ?_
                            refine lv_iconst (v := nI 2) hx hb dXM_read_226 (by decide) ?_
                            refine lv_iload hx hb dXM_read_227 (lv_at hl 0 rfl) ?_
                            refine lv_imul hx hb dXM_read_229 ?_
                            refine tp_i (nI (2 * ((8 - L.length) + k))) (pk_mul _ _) ?_
                            refine lv_aload_n hx hb dXM_read_230 rfl (lv_at hl 1 rfl) ?_
                            refine va_get (D := (dC, dI)) (ci := 2) (v := .ref mp) (C := RXM) (T := TXM) (N := 10) hx hb hts hiXM hown hK hP 0 rfl rfl 5 (by decide) hf22 (fun _ h9 => h9) rfl dXM_read_231 ?_
                            refine lv_iload_n hx hb dXM_read_234 rfl (lv_at hl 3 rfl) ?_
                            refine ld_i hx hb hK hP 5 4 rfl rfl (by omega) (by omega) dXM_read_235 ?_
                            refine tp_i (nI (L.getD k 0)) (hlk.1) ?_
                            refine lv_bipush (v := nI 8) hx hb dXM_read_236 (by decide) ?_
                            refine lv_ishr hx hb dXM_read_238 ?_
                            refine tp_i (nI ((L.getD k 0) / 256)) (pk_shrN (by have := hlk.2; omega) _ 8 (by decide)) ?_
                            refine st_i hx hb hK hP hD hS 2 1 rfl rfl (by omega) (by omega) dXM_read_239 (fun H locs hP hD hS => ?_)
                            have hP : va_P (dC, dI) azCl [(m0, .inr (2, [.ref mt, .int (nI 0), .ref mb, .ref mf, .ref ml, .ref mp, .int (nI L.length), .int (nI q), .ref mo, .int (nI w)])), (mt, .inl (dT, 60, .inl F)), (mb, .inl (dB, 32, .inl (upd E2 (2 * ((8 - L.length) + k)) (nI ((L.getD k 0) / 256))))), (mf, .inl (dF, 2, .inl (upd (upd Fm 1 (nI f1)) 0 (nI 6)))), (ml, .inl (dL, 2, .inl (upd (upd Ln 1 (nI l1)) 0 (nI 128)))), (mp, .inl (dP, 8, .inl P1))] H := hP
                            have hD : va_D A [(m0, .inr (2, [.ref mt, .int (nI 0), .ref mb, .ref mf, .ref ml, .ref mp, .int (nI L.length), .int (nI q), .ref mo, .int (nI w)])), (mt, .inl (dT, 60, .inl F)), (mb, .inl (dB, 32, .inl (upd E2 (2 * ((8 - L.length) + k)) (nI ((L.getD k 0) / 256))))), (mf, .inl (dF, 2, .inl (upd (upd Fm 1 (nI f1)) 0 (nI 6)))), (ml, .inl (dL, 2, .inl (upd (upd Ln 1 (nI l1)) 0 (nI 128)))), (mp, .inl (dP, 8, .inl P1))] := hD
                            refine lv_aload_n hx hb dXM_read_240 rfl (lv_at hl 1 rfl) ?_
                            refine va_get (D := (dC, dI)) (ci := 2) (v := .ref mb) (C := RXM) (T := TXM) (N := 10) hx hb hts hiXM hown hK hP 0 rfl rfl 2 (by decide) hf13 (fun _ h9 => h9) rfl dXM_read_241 ?_
                            refine lv_iconst (v := nI 2) hx hb dXM_read_244 (by decide) ?_
                            refine lv_iload hx hb dXM_read_245 (lv_at hl 0 rfl) ?_
                            refine lv_imul hx hb dXM_read_247 ?_
                            refine tp_i (nI (2 * ((8 - L.length) + k))) (pk_mul _ _) ?_
                            refine lv_iconst (v := nI 1) hx hb dXM_read_248 (by decide) ?_
                            refine lv_iadd hx hb dXM_read_249 ?_
                            refine tp_i (nI ((2 * ((8 - L.length) + k)) + 1)) (nI_add _ _) ?_
                            refine lv_aload_n hx hb dXM_read_250 rfl (lv_at hl 1 rfl) ?_
                            refine va_get (D := (dC, dI)) (ci := 2) (v := .ref mp) (C := RXM) (T := TXM) (N := 10) hx hb hts hiXM hown hK hP 0 rfl rfl 5 (by decide) hf22 (fun _ h9 => h9) rfl dXM_read_251 ?_
                            refine lv_iload_n hx hb dXM_read_254 rfl (lv_at hl 3 rfl) ?_
                            refine ld_i hx hb hK hP 5 4 rfl rfl (by omega) (by omega) dXM_read_255 ?_
                            refine tp_i (nI (L.getD k 0)) (hlk.1) ?_
                            refine lv_sipush (v := nI 255) hx hb dXM_read_256 (by decide) ?_
                            refine lv_iand hx hb dXM_read_259 ?_
                            refine tp_i (nI ((L.getD k 0) % 256)) (pk_andN (by have := hlk.2; omega) 8 (by decide)) ?_
                            refine st_i hx hb hK hP hD hS 2 1 rfl rfl (by omega) (by omega) dXM_read_260 (fun H locs hP hD hS => ?_)
                            have hP : va_P (dC, dI) azCl [(m0, .inr (2, [.ref mt, .int (nI 0), .ref mb, .ref mf, .ref ml, .ref mp, .int (nI L.length), .int (nI q), .ref mo, .int (nI w)])), (mt, .inl (dT, 60, .inl F)), (mb, .inl (dB, 32, .inl (upd (upd E2 (2 * ((8 - L.length) + k)) (nI ((L.getD k 0) / 256))) ((2 * ((8 - L.length) + k)) + 1) (nI ((L.getD k 0) % 256))))), (mf, .inl (dF, 2, .inl (upd (upd Fm 1 (nI f1)) 0 (nI 6)))), (ml, .inl (dL, 2, .inl (upd (upd Ln 1 (nI l1)) 0 (nI 128)))), (mp, .inl (dP, 8, .inl P1))] H := hP
                            have hD : va_D A [(m0, .inr (2, [.ref mt, .int (nI 0), .ref mb, .ref mf, .ref ml, .ref mp, .int (nI L.length), .int (nI q), .ref mo, .int (nI w)])), (mt, .inl (dT, 60, .inl F)), (mb, .inl (dB, 32, .inl (upd (upd E2 (2 * ((8 - L.length) + k)) (nI ((L.getD k 0) / 256))) ((2 * ((8 - L.length) + k)) + 1) (nI ((L.getD k 0) % 256))))), (mf, .inl (dF, 2, .inl (upd (upd Fm 1 (nI f1)) 0 (nI 6)))), (ml, .inl (dL, 2, .inl (upd (upd Ln 1 (nI l1)) 0 (nI 128)))), (mp, .inl (dP, 8, .inl P1))] := hD
                            refine lv_iinc (v := nI (k + 1)) (lv' := [(3, .int (nI (k + 1))), (4, .int (nI ((8 - L.length) + k))), (0, .ref m0), (1, .int (nI 1))]) hx hb dXM_read_261 hl (k := 3) rfl (nI_add _ 1) (by decide) rfl (fun ls hl => ?_)
                            refine lv_goto (tgt := 162) hx hb dXM_read_264 (by decide) ?_
                            exact ih (k + 1) (upd (upd E2 (2 * ((8 - L.length) + k)) (nI ((L.getD k 0) / 256))) ((2 * ((8 - L.length) + k)) + 1) (nI ((L.getD k 0) % 256))) (by omega) (by show az_by _ 0 (az_sp (az_pw L (some q) k) (az_ps (some q) L.length k) (L.getD k 0)); rw [hps]; exact az_by_sp hE2 hp8 hlk.2 hz2) (fun j hj => by rw [pk_un (show 16 + j ≠ _ by omega), pk_un (show 16 + j ≠ _ by omega)]; exact hE3 j hj) (by show az_sp (az_pw L (some q) k) (az_ps (some q) L.length k) (L.getD k 0) < _; rw [hps]; exact (az_sp_ok hW hp8 hlk.2 hz2).1) (fun hk5 => by show az_sp (az_pw L (some q) k) (az_ps (some q) L.length k) (L.getD k 0) % _ = 0; have h := az_ps_s (g := (some q)) hL8 hk5; rw [hps] at h ⊢; exact az_mono (az_sp_ok hW hp8 hlk.2 hz2).2 (by omega)) (by omega) _ _ (hP.sub [0, 1, 2, 3, 4, 5] rfl) (hD.sub [0, 1, 2, 3, 4, 5] (by decide) rfl) hS ls (lv_sub hl [2, 3, 0] rfl)
                  exact lp162 _ 0 E (Nat.zero_le _) (az_by_0 hE0) (hE16) (by show (0 : Nat) < 340282366920938463463374607431768211456; decide) (fun _ => Nat.zero_mod _) (Nat.lt_succ_self _) _ _ (hP.sub [0, 1, 2, 3, 4, 5] rfl) (hD.sub [0, 1, 2, 3, 4, 5] (by decide) rfl) hS ls (lv_sub hl [1, 2, 0] rfl)
                · refine lv_aload_n hx hb dXM_read_74 rfl (lv_at hl 0 rfl) ?_
                  refine va_get (D := (dC, dI)) (ci := 2) (v := .ref mb) (C := RXM) (T := TXM) (N := 10) hx hb hts hiXM hown hK hP 0 rfl rfl 2 (by decide) hf13 (fun _ h9 => h9) rfl dXM_read_75 ?_
                  refine lv_bipush (v := nI 16) hx hb dXM_read_78 (by decide) ?_
                  refine lv_iload_n hx hb dXM_read_80 rfl (lv_at hl 2 rfl) ?_
                  refine lv_iadd hx hb dXM_read_81 ?_
                  refine tp_i (nI (16 + k3)) (nI_add _ _) ?_
                  refine lv_aload_n hx hb dXM_read_82 rfl (lv_at hl 0 rfl) ?_
                  refine va_get (D := (dC, dI)) (ci := 2) (v := .ref mb) (C := RXM) (T := TXM) (N := 10) hx hb hts hiXM hown hK hP 0 rfl rfl 2 (by decide) hf13 (fun _ h9 => h9) rfl dXM_read_83 ?_
                  refine lv_iload_n hx hb dXM_read_86 rfl (lv_at hl 2 rfl) ?_
                  refine ld_i hx hb hK hP 2 1 rfl rfl (by omega) (by omega) dXM_read_87 ?_
                  refine st_i hx hb hK hP hD hS 2 1 rfl rfl (by omega) (by omega) dXM_read_88 (fun H locs hP hD hS => ?_)
                  have hP : va_P (dC, dI) azCl [(m0, .inr (2, [.ref mt, .int (nI 0), .ref mb, .ref mf, .ref ml, .ref mp, .int (nI L.length), .int (az_o g), .ref mo, .int (nI w)])), (mt, .inl (dT, 60, .inl F)), (mb, .inl (dB, 32, .inl (upd E (16 + k3) (E k3)))), (mf, .inl (dF, 2, .inl Fm)), (ml, .inl (dL, 2, .inl Ln)), (mp, .inl (dP, 8, .inl P1))] H := hP
                  have hD : va_D A [(m0, .inr (2, [.ref mt, .int (nI 0), .ref mb, .ref mf, .ref ml, .ref mp, .int (nI L.length), .int (az_o g), .ref mo, .int (nI w)])), (mt, .inl (dT, 60, .inl F)), (mb, .inl (dB, 32, .inl (upd E (16 + k3) (E k3)))), (mf, .inl (dF, 2, .inl Fm)), (ml, .inl (dL, 2, .inl Ln)), (mp, .inl (dP, 8, .inl P1))] := hD
                  refine lv_aload_n hx hb dXM_read_89 rfl (lv_at hl 0 rfl) ?_
                  refine va_get (D := (dC, dI)) (ci := 2) (v := .ref mb) (C := RXM) (T := TXM) (N := 10) hx hb hts hiXM hown hK hP 0 rfl rfl 2 (by decide) hf13 (fun _ h9 => h9) rfl dXM_read_90 ?_
                  refine lv_iload_n hx hb dXM_read_93 rfl (lv_at hl 2 rfl) ?_
                  refine lv_iconst (v := nI 0) hx hb dXM_read_94 (by decide) ?_
                  refine st_i hx hb hK hP hD hS 2 1 rfl rfl (by omega) (by omega) dXM_read_95 (fun H locs hP hD hS => ?_)
                  have hP : va_P (dC, dI) azCl [(m0, .inr (2, [.ref mt, .int (nI 0), .ref mb, .ref mf, .ref ml, .ref mp, .int (nI L.length), .int (az_o g), .ref mo, .int (nI w)])), (mt, .inl (dT, 60, .inl F)), (mb, .inl (dB, 32, .inl (upd (upd E (16 + k3) (E k3)) k3 (nI 0)))), (mf, .inl (dF, 2, .inl Fm)), (ml, .inl (dL, 2, .inl Ln)), (mp, .inl (dP, 8, .inl P1))] H := hP
                  have hD : va_D A [(m0, .inr (2, [.ref mt, .int (nI 0), .ref mb, .ref mf, .ref ml, .ref mp, .int (nI L.length), .int (az_o g), .ref mo, .int (nI w)])), (mt, .inl (dT, 60, .inl F)), (mb, .inl (dB, 32, .inl (upd (upd E (16 + k3) (E k3)) k3 (nI 0)))), (mf, .inl (dF, 2, .inl Fm)), (ml, .inl (dL, 2, .inl Ln)), (mp, .inl (dP, 8, .inl P1))] := hD
                  refine lv_iinc (v := nI (k3 + 1)) (lv' := [(3, .int (nI (k3 + 1))), (0, .ref m0), (1, .int (nI 1))]) hx hb dXM_read_96 hl (k := 2) rfl (nI_add _ 1) (by decide) rfl (fun ls hl => ?_)
                  refine lv_goto (tgt := 68) hx hb dXM_read_99 (by decide) ?_
                  exact ih (k3 + 1) (upd (upd E (16 + k3) (E k3)) k3 (nI 0)) (by omega) (az_shift_s c71 hE) (by omega) _ _ (hP.sub [0, 1, 2, 3, 4, 5] rfl) (hD.sub [0, 1, 2, 3, 4, 5] (by decide) rfl) hS ls (lv_sub hl [1, 2, 0] rfl)
            exact lp68 _ 0 B (Nat.zero_le _) (fun j hj => ⟨fun h => absurd h (Nat.not_lt_zero j), fun _ => rfl⟩) (Nat.lt_succ_self _) _ _ (hP.sub [3, 4, 0, 1, 2, 5] rfl) (hD.sub [3, 4, 0, 1, 2, 5] (by decide) rfl) hS ls (lv_sub hl [2, 3, 0] rfl)
      · have hTk := (hF k c9).2
        refine lv_iload_n hx hb dXM_read_12 rfl (lv_at hl 1 rfl) ?_
        refine bz_ne (tgt := 27) hx hb dXM_read_13 (by decide) (by omega) (fun c13 => ?_) (fun c13 => ?_)
        · refine lv_iconst (v := nI 1) hx hb dXM_read_27 (by decide) ?_
          refine lv_goto (tgt := 32) hx hb dXM_read_28 (by decide) ?_
          refine lv_istore_n (lv' := [(1, .int (nI 1)), (0, .ref m0), (2, .int (nI k))]) hx hb dXM_read_32 rfl hl (by decide) rfl (fun ls hl => ?_)
          refine lv_iinc (v := nI (k + 1)) (lv' := [(2, .int (nI (k + 1))), (1, .int (nI 1)), (0, .ref m0)]) hx hb dXM_read_33 hl (k := 2) rfl (nI_add _ 1) (by decide) rfl (fun ls hl => ?_)
          refine lv_goto (tgt := 4) hx hb dXM_read_36 (by decide) ?_
          exact ih (k + 1) 1 (by omega) (by omega) (Or.inr ⟨rfl, by first | (rcases hs with ⟨h, _⟩ | ⟨_, h⟩; exact absurd h c13; exact h) | exact az_pl_some c9 c24⟩) (by omega) _ _ (hP.sub [0, 1, 2, 3, 4, 5] rfl) (hD.sub [0, 1, 2, 3, 4, 5] (by decide) rfl) hS ls (lv_sub hl [2, 1, 0] rfl)
        · refine lv_aload_n hx hb dXM_read_16 rfl (lv_at hl 0 rfl) ?_
          refine va_get (D := (dC, dI)) (ci := 2) (v := .ref mt) (C := RXM) (T := TXM) (N := 10) hx hb hts hiXM hown hK hP 0 rfl rfl 0 (by decide) hf7 (fun _ h9 => h9) rfl dXM_read_17 ?_
          refine lv_iload_n hx hb dXM_read_20 rfl (lv_at hl 2 rfl) ?_
          refine ld_i hx hb hK hP 1 0 rfl rfl (by omega) (by omega) dXM_read_21 ?_
          refine tp_i (nI (T k)) ((hF k (c9)).1) ?_
          refine lv_bipush (v := nI 58) hx hb dXM_read_22 (by decide) ?_
          refine bn_ne (tgt := 31) hx hb dXM_read_24 (by decide) (by omega) (by omega) (fun c24 => ?_) (fun c24 => ?_)
          · refine lv_iconst (v := nI 0) hx hb dXM_read_31 (by decide) ?_
            refine lv_istore_n (lv' := [(1, .int (nI 0)), (0, .ref m0), (2, .int (nI k))]) hx hb dXM_read_32 rfl hl (by decide) rfl (fun ls hl => ?_)
            refine lv_iinc (v := nI (k + 1)) (lv' := [(2, .int (nI (k + 1))), (1, .int (nI 0)), (0, .ref m0)]) hx hb dXM_read_33 hl (k := 2) rfl (nI_add _ 1) (by decide) rfl (fun ls hl => ?_)
            refine lv_goto (tgt := 4) hx hb dXM_read_36 (by decide) ?_
            exact ih (k + 1) 0 (by omega) (by omega) (Or.inl ⟨rfl, fun j hj => by (rcases hs with ⟨_, h⟩ | ⟨h, _⟩); exact (by (rcases Nat.lt_or_eq_of_le (Nat.le_of_lt_succ hj) with q | q); exact (h j q); exact (by rw [q]; exact c24)); exact (absurd h (by omega))⟩) (by omega) _ _ (hP.sub [0, 1, 2, 3, 4, 5] rfl) (hD.sub [0, 1, 2, 3, 4, 5] (by decide) rfl) hS ls (lv_sub hl [2, 1, 0] rfl)
          · refine lv_iconst (v := nI 1) hx hb dXM_read_27 (by decide) ?_
            refine lv_goto (tgt := 32) hx hb dXM_read_28 (by decide) ?_
            refine lv_istore_n (lv' := [(1, .int (nI 1)), (0, .ref m0), (2, .int (nI k))]) hx hb dXM_read_32 rfl hl (by decide) rfl (fun ls hl => ?_)
            refine lv_iinc (v := nI (k + 1)) (lv' := [(2, .int (nI (k + 1))), (1, .int (nI 1)), (0, .ref m0)]) hx hb dXM_read_33 hl (k := 2) rfl (nI_add _ 1) (by decide) rfl (fun ls hl => ?_)
            refine lv_goto (tgt := 4) hx hb dXM_read_36 (by decide) ?_
            exact ih (k + 1) 1 (by omega) (by omega) (Or.inr ⟨rfl, by first | (rcases hs with ⟨h, _⟩ | ⟨_, h⟩; exact absurd h c13; exact h) | exact az_pl_some c9 c24⟩) (by omega) _ _ (hP.sub [0, 1, 2, 3, 4, 5] rfl) (hD.sub [0, 1, 2, 3, 4, 5] (by decide) rfl) hS ls (lv_sub hl [2, 1, 0] rfl)
  exact lp4 _ 0 0 (Nat.zero_le _) (Nat.zero_le _) (Or.inl ⟨rfl, fun j h => absurd h (Nat.not_lt_zero j)⟩) (Nat.lt_succ_self _) _ _ (hP.sub [0, 1, 2, 3, 4, 5] rfl) (hD.sub [0, 1, 2, 3, 4, 5] (by decide) rfl) hS ls (lv_sub hl [2, 1, 0] rfl)
