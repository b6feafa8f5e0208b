/-! what is written: O its bytes, w their number; and the tape, as it grows -/
def az_ou (g : Nat → Int32) (O : List Nat) (w : Nat) : Prop := O.length = w ∧ ∀ j, j < w → g j = nI (O.getD j 0) ∧ O.getD j 0 < 128
theorem az_ou_0 (g : Nat → Int32) : az_ou g [] 0 := ⟨rfl, fun j h => absurd h (Nat.not_lt_zero j)⟩
theorem az_nb : ∀ c, c < 128 → vp_nar .byte (nI c) = nI c := by decide +kernel
theorem az_i2b : ∀ c, c < 128 → (nI c).toInt8.toInt32 = nI c := by decide +kernel
theorem az_gd_l {O L : List Nat} {j : Nat} (h : j < O.length) : (O ++ L).getD j 0 = O.getD j 0 := by
  show (O ++ L)[j]?.getD 0 = O[j]?.getD 0
  rw [List.getElem?_append_left h]
theorem az_gd_r {O : List Nat} {c : Nat} : (O ++ [c]).getD O.length 0 = c := by
  show (O ++ [c])[O.length]?.getD 0 = c
  rw [List.getElem?_append_right (Nat.le_refl _), Nat.sub_self]
  rfl
theorem az_ou_push {g : Nat → Int32} {O : List Nat} {w c : Nat} (h : az_ou g O w) (hc : c < 128) : az_ou (upd g w (vp_nar .byte (nI c))) (O ++ [c]) (w + 1) := by
  obtain ⟨h1, h2⟩ := h
  refine ⟨by rw [List.length_append, h1]; rfl, fun j hj => ?_⟩
  by_cases q : j = w
  · subst q
    rw [pk_us, az_nb c hc, ← h1, az_gd_r]
    exact ⟨rfl, hc⟩
  · rw [pk_un q, az_gd_l (by omega)]
    exact h2 j (by omega)
def az_ch (d : Nat) : Nat := if d < 10 then 48 + d else 97 + d - 10
theorem az_ch_a {d : Nat} (h : d < 10) : az_ch d = 48 + d := if_pos h
theorem az_ch_b {d : Nat} (h : 10 ≤ d) : az_ch d = 97 + d - 10 := if_neg (Nat.not_lt.mpr h)
def az_dec (v : Nat) : List Nat := (if 100 ≤ v then [az_ch (v / 100)] else []) ++ ((if 10 ≤ v then [az_ch (v / 10 % 10)] else []) ++ [az_ch (v % 10)])
def az_hex (v : Nat) : List Nat := (if v / 4096 ≠ 0 then [az_ch (v / 4096 % 16)] else []) ++ ((if v / 256 ≠ 0 then [az_ch (v / 256 % 16)] else []) ++ ((if v / 16 ≠ 0 then [az_ch (v / 16 % 16)] else []) ++ [az_ch (v % 16)]))
theorem az_dec_le (v : Nat) : (az_dec v).length ≤ 3 := by unfold az_dec; split <;> split <;> simp
theorem az_hex_le (v : Nat) : (az_hex v).length ≤ 4 := by unfold az_hex; split <;> split <;> split <;> simp
/-- family 4 -/
def az_w4 (V : Nat) : List Nat := az_dec (V / 16777216 % 256) ++ ([46] ++ (az_dec (V / 65536 % 256) ++ ([46] ++ (az_dec (V / 256 % 256) ++ ([46] ++ az_dec (V % 256))))))
/-- family 6: the row that is left out, and what part k writes -/
def az_ws (V rs re k : Nat) : List Nat := (if k = rs then [58, 58] else []) ++ (if k < rs ∨ re ≤ k then ((if 0 < k ∧ k ≠ re then [58] else []) ++ az_hex (az_pt V k)) else [])
def az_wp (V rs re : Nat) : Nat → List Nat
  | 0 => []
  | k + 1 => az_wp V rs re k ++ az_ws V rs re k
theorem az_lr_ok (V : Nat) : ∀ k, k ≤ 8 → (az_lr V k = (8, 1)) ∨ ((az_lr V k).1 < k ∧ az_zr V (az_lr V k).1 = (az_lr V k).2 ∧ 2 ≤ (az_lr V k).2)
  | 0, _ => Or.inl rfl
  | k + 1, h => by
    have ih := az_lr_ok V k (by omega)
    by_cases c : (az_lr V k).2 < az_zr V k
    · right
      rw [az_lr_t (st := (az_lr V k).1) (lg := (az_lr V k).2) rfl c]
      refine ⟨Nat.lt_succ_self k, rfl, ?_⟩
      show 2 ≤ az_zr V k
      rcases ih with q | q
      · rw [q] at c
        have c' : 1 < az_zr V k := c
        omega
      · omega
    · rw [az_lr_f (st := (az_lr V k).1) (lg := (az_lr V k).2) rfl (Nat.not_lt.mp c)]
      rcases ih with q | ⟨q1, q2, q3⟩
      · exact Or.inl q
      · exact Or.inr ⟨Nat.lt_succ_of_lt q1, q2, q3⟩
/-- the row: none (8, 8), or two and more parts -/
theorem az_row (V : Nat) : ((az_lr V 8).1 = 8 ∧ az_zr V (az_lr V 8).1 = 0) ∨ ((az_lr V 8).1 < 8 ∧ 2 ≤ az_zr V (az_lr V 8).1 ∧ (az_lr V 8).1 + az_zr V (az_lr V 8).1 ≤ 8) := by
  rcases az_lr_ok V 8 (by omega) with q | ⟨q1, q2, q3⟩
  · left
    rw [q]
    exact ⟨rfl, az_zr_end (by omega)⟩
  · right
    have := az_zr_le V (az_lr V 8).1
    exact ⟨q1, by omega, by omega⟩
/-! the tape as it grows -/
def az_u (T : Nat → Nat) (n b : Nat) : Nat → Nat := fun j => if j = n then b else T j
theorem az_sb (x : Int32) : vp_nar .byte x.toInt8.toInt32 = sb_b (x.toBitVec.toNat % 256) := by
  rw [pk_vb]
  refine (sc_eq (b := x.toInt8.toInt32) (by rw [Int8.toInt8_toInt32]) (Nat.mod_lt _ (by decide))).mpr ?_
  rw [bp_b]
  exact pk_and x 8 (by decide)
theorem az_tp_push {f : Nat → Int32} {T : Nat → Nat} {n : Nat} (h : az_tp f T n) (x : Int32) : az_tp (upd f n (vp_nar .byte x.toInt8.toInt32)) (az_u T n (x.toBitVec.toNat % 256)) (n + 1) := by
  intro j hj
  by_cases q : j = n
  · subst q
    rw [pk_us, az_sb]
    simp [az_u]
    omega
  · rw [pk_un q]
    simp [az_u, q]
    exact h j (by omega)
/-- the four bytes of a number -/
def az_a4 (T : Nat → Nat) (n : Nat) (a : Int32) : Nat → Nat := az_u (az_u (az_u (az_u T n (a.toBitVec.toNat / 16777216 % 256)) (n + 1) (a.toBitVec.toNat / 65536 % 256)) (n + 2) (a.toBitVec.toNat / 256 % 256)) (n + 3) (a.toBitVec.toNat % 256)
