set_option maxRecDepth 100000 in
set_option maxHeartbeats 4000000 in
theorem lw_loop {p : Program} {l : Launch} {e : Env} {s : State} {m : MethodId} {below : List Frame} {meth : Method} {c : Code} {dC : Nat → ClassId} {dI : Nat → Nat → Nat} {A : Nat → Prop} {b L : Nat} {xs : Nat → Int32} {h0 ht hw m0 mt mb mf ml mp mo : Nat} {cT cW dT dB dF dL dP dO : ClassId} (hL : L ≤ 3072) (C0 : lw_At p s m meth c b L xs) (hA : ∀ q : Nat, s.heap.size ≤ q → A q) (hAs : ∀ q : Nat, A q → s.heap.size ≤ q) (hbA : ¬ A b) (hK : va_K (dC, dI) azCl [(cT, .byte), (cW, .byte), (dT, .int), (dB, .int), (dF, .int), (dL, .int), (dP, .int), (dO, .int)] s) : ∀ (N i : Nat), L - i < N → i ≤ L + 5 → lw_K p l e s m below meth c dC dI A b 18 i h0 ht hw m0 mt mb mf ml mp mo cT cW dT dB dF dL dP dO := by
  have C1 := C0
  obtain ⟨hx, hb, hr, hml, hown0, hts, hX, hbl, hlocks, hgv⟩ := C0
  have hown : s.vm.findClass RL = some m.cls := hown0
  intro N
  induction N with
  | zero => intro i hN; exact absurd hN (Nat.not_lt_zero _)
  | succ N ih =>
    intro i hN hi a1 a2 a3 n w f g T O f1 l1 V1 f2 l2 V2 e1 e2 e3 e4 F B Fm Ln P G xm xg hI H locs hP hD hS ls hl
    refine lv_iload_n hx hb dL_law_18 rfl (lv_at hl 3 rfl) ?_
    refine lv_aload_n hx hb dL_law_19 rfl (lv_at hl 0 rfl) ?_
    refine va_slen hx hb hX hbl hbA hS dL_law_20 ?_
    refine tp_i (nI L) rfl ?_
    refine lv_bipush (v := nI 6) hx hb dL_law_21 (by decide) ?_
    refine lv_isub hx hb dL_law_23 ?_
    refine lv_icmp_gt (tgt := 320) hx hb dL_law_24 (by decide) (fun c24 => ?_) (fun c24 => ?_)
    · refine lv_iconst (v := 1) hx hb dL_law_320 (by decide) ?_
      refine va_forget (fun q hq => hAs _ (hS.2.2 q hq)) ?_
      exact lw_ret hx hb hr hlocks dL_law_321
    · have hi6 : i + 6 ≤ L := by have h : ¬ L < i + 6 := fun q => c24 ((az_sub6 hL (by omega)).mpr q); omega
      have kk : lw_K p l e s m below meth c dC dI A b 314 i h0 ht hw m0 mt mb mf ml mp mo cT cW dT dB dF dL dP dO := by
        intro a1 a2 a3 n w f g T O f1 l1 V1 f2 l2 V2 e1 e2 e3 e4 F B Fm Ln P G xm xg hI H locs hP hD hS ls hl
        refine lv_iinc (v := nI (i + 6)) (lv' := [(3, .int (nI (i + 6))), (0, .ref b), (1, .ref h0), (2, .ref m0)]) hx hb dL_law_314 hl (k := 3) rfl (nI_add _ 6) (by decide) rfl (fun ls hl => ?_)
        refine lv_goto (tgt := 18) hx hb dL_law_317 (by decide) ?_
        exact ih (i + 6) (by omega) (by omega) a1 a2 a3 n w f g T O f1 l1 V1 f2 l2 V2 e1 e2 e3 e4 F B Fm Ln P G xm xg hI H locs hP hD hS ls (lv_sub hl [1, 2, 3, 0] rfl)
      refine lv_aload_n hx hb dL_law_27 rfl (lv_at hl 0 rfl) ?_
      refine lv_iload_n hx hb dL_law_28 rfl (lv_at hl 3 rfl) ?_
      refine sl_i hx hb hX hbl hbA hS (by omega) (by omega) dL_law_29 ?_
      refine lv_bipush (v := nI 15) hx hb dL_law_30 (by decide) ?_
      refine lv_iand hx hb dL_law_32 ?_
      obtain ⟨vv, hvv, hve⟩ : ∃ z, z < 16 ∧ xs i &&& nI 15 = nI z := ⟨(xs i).toBitVec.toNat % 16, Nat.mod_lt _ (by decide), pk_and (xs i) 4 (by decide)⟩
      refine tp_i (nI vv) hve ?_
      rcases (show vv = 0 ∨ vv = 1 ∨ vv = 2 ∨ vv = 3 ∨ vv = 4 ∨ vv = 5 ∨ vv = 6 ∨ vv = 7 ∨ vv = 8 ∨ vv = 9 ∨ vv = 10 ∨ 10 < vv by omega) with rfl | rfl | rfl | rfl | rfl | rfl | rfl | rfl | rfl | rfl | rfl | h10
      · refine lv_tableIn (tgt := 92) hx hb dL_law_33 (by decide) (by decide) rfl (by decide) ?_
        exact lw_c0 hL hi6 C1 hA hbA hK kk a1 a2 a3 n w f g T O f1 l1 V1 f2 l2 V2 e1 e2 e3 e4 F B Fm Ln P G xm xg hI H locs hP hD hS ls hl
      · refine lv_tableIn (tgt := 155) hx hb dL_law_33 (by decide) (by decide) rfl (by decide) ?_
        exact lw_c1 hL hi6 C1 hA hbA hK kk a1 a2 a3 n w f g T O f1 l1 V1 f2 l2 V2 e1 e2 e3 e4 F B Fm Ln P G xm xg hI H locs hP hD hS ls hl
      · refine lv_tableIn (tgt := 178) hx hb dL_law_33 (by decide) (by decide) rfl (by decide) ?_
        exact lw_c2 hL hi6 C1 hA hbA hK kk a1 a2 a3 n w f g T O f1 l1 V1 f2 l2 V2 e1 e2 e3 e4 F B Fm Ln P G xm xg hI H locs hP hD hS ls hl
      · refine lv_tableIn (tgt := 191) hx hb dL_law_33 (by decide) (by decide) rfl (by decide) ?_
        exact lw_c3 hL hi6 C1 hA hbA hK kk a1 a2 a3 n w f g T O f1 l1 V1 f2 l2 V2 e1 e2 e3 e4 F B Fm Ln P G xm xg hI H locs hP hD hS ls hl
      · refine lv_tableIn (tgt := 204) hx hb dL_law_33 (by decide) (by decide) rfl (by decide) ?_
        exact lw_c4 hL hi6 C1 hA hbA hK kk a1 a2 a3 n w f g T O f1 l1 V1 f2 l2 V2 e1 e2 e3 e4 F B Fm Ln P G xm xg hI H locs hP hD hS ls hl
      · refine lv_tableIn (tgt := 217) hx hb dL_law_33 (by decide) (by decide) rfl (by decide) ?_
        exact lw_c5 hL hi6 C1 hA hbA hK kk a1 a2 a3 n w f g T O f1 l1 V1 f2 l2 V2 e1 e2 e3 e4 F B Fm Ln P G xm xg hI H locs hP hD hS ls hl
      · refine lv_tableIn (tgt := 230) hx hb dL_law_33 (by decide) (by decide) rfl (by decide) ?_
        exact lw_c6 hL hi6 C1 hA hbA hK kk a1 a2 a3 n w f g T O f1 l1 V1 f2 l2 V2 e1 e2 e3 e4 F B Fm Ln P G xm xg hI H locs hP hD hS ls hl
      · refine lv_tableIn (tgt := 243) hx hb dL_law_33 (by decide) (by decide) rfl (by decide) ?_
        exact lw_c7 hL hi6 C1 hA hbA hK kk a1 a2 a3 n w f g T O f1 l1 V1 f2 l2 V2 e1 e2 e3 e4 F B Fm Ln P G xm xg hI H locs hP hD hS ls hl
      · refine lv_tableIn (tgt := 254) hx hb dL_law_33 (by decide) (by decide) rfl (by decide) ?_
        exact lw_c8 hL hi6 C1 hA hbA hK kk a1 a2 a3 n w f g T O f1 l1 V1 f2 l2 V2 e1 e2 e3 e4 F B Fm Ln P G xm xg hI H locs hP hD hS ls hl
      · refine lv_tableIn (tgt := 267) hx hb dL_law_33 (by decide) (by decide) rfl (by decide) ?_
        exact lw_c9 hL hi6 C1 hA hbA hK kk a1 a2 a3 n w f g T O f1 l1 V1 f2 l2 V2 e1 e2 e3 e4 F B Fm Ln P G xm xg hI H locs hP hD hS ls hl
      · refine lv_tableIn (tgt := 290) hx hb dL_law_33 (by decide) (by decide) rfl (by decide) ?_
        exact lw_c10 hL hi6 C1 hA hbA hK kk a1 a2 a3 n w f g T O f1 l1 V1 f2 l2 V2 e1 e2 e3 e4 F B Fm Ln P G xm xg hI H locs hP hD hS ls hl
      · refine lv_tableOut (tgt := 314) hx hb dL_law_33 (Or.inr (by rw [nI_toInt (by omega)]; omega)) (by decide) ?_
        exact kk a1 a2 a3 n w f g T O f1 l1 V1 f2 l2 V2 e1 e2 e3 e4 F B Fm Ln P G xm xg hI H locs hP hD hS ls hl
