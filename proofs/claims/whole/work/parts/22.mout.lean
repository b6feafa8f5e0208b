/-! the reference writes -/
theorem az_cap_y {most v : Nat} (h : v ≤ most) : az_o (az_cap most (some v)) = nI v := by
  show az_o (if most < v then none else some v) = nI v
  rw [if_neg (Nat.not_lt.mpr h)]
  rfl
theorem az_cap_n {most v : Nat} (h : most < v) : az_o (az_cap most (some v)) = -1 := by
  show az_o (if most < v then none else some v) = -1
  rw [if_pos h]
  rfl
def az_mo (G : Nat → Int32) (O : List Nat) (w : Nat) : Prop := O.length = w ∧ ∀ j, j < w → G j = nI (O.getD j 0)
theorem az_mo_0 (G : Nat → Int32) : az_mo G [] 0 := ⟨rfl, fun j h => absurd h (Nat.not_lt_zero j)⟩
theorem az_mo_push {G : Nat → Int32} {O : List Nat} {w c : Nat} (h : az_mo G O w) : az_mo (upd G w (nI c)) (O ++ [c]) (w + 1) := by
  obtain ⟨h1, h2⟩ := h
  refine ⟨by rw [List.length_append, h1]; rfl, fun j hj => ?_⟩
  by_cases q : j = w
  · subst q
    rw [pk_us, ← h1, az_gd_r]
  · rw [pk_un q, az_gd_l (by omega)]
    exact h2 j (by omega)
theorem az_or256 {v d : Nat} (h : d < 256) : nI (v * 256) ||| nI d = nI (v * 256 + d) := by
  rw [az_nor]
  congr 1
  have := Nat.two_pow_add_eq_or_of_lt (i := 8) h v
  rw [Nat.mul_comm v 256]
  exact this.symm
theorem az_turn_s {B E : Nat → Int32} {k : Nat} (hk : k < 16) (h : ∀ j, j < 16 → (j < k → E j = B (16 + j) ∧ E (16 + j) = B j) ∧ (k ≤ j → E j = B j ∧ E (16 + j) = B (16 + j))) : ∀ j, j < 16 → (j < k + 1 → upd (upd E k (E (16 + k))) (16 + k) (E k) j = B (16 + j) ∧ upd (upd E k (E (16 + k))) (16 + k) (E k) (16 + j) = B j) ∧ (k + 1 ≤ j → upd (upd E k (E (16 + k))) (16 + k) (E k) j = B j ∧ upd (upd E k (E (16 + k))) (16 + k) (E k) (16 + j) = B (16 + j)) := by
  intro j hj
  obtain ⟨a1, a2⟩ := h j hj
  obtain ⟨b1, b2⟩ := (h k hk).2 (Nat.le_refl k)
  refine ⟨fun q => ?_, fun q => ?_⟩
  · by_cases e : j = k
    · subst e
      rw [pk_un (show j ≠ 16 + j by omega), pk_us, pk_us]
      exact ⟨b2, b1⟩
    · rw [pk_un (show j ≠ 16 + k by omega), pk_un e, pk_un (show 16 + j ≠ 16 + k by omega), pk_un (show 16 + j ≠ k by omega)]
      exact a1 (by omega)
  · rw [pk_un (show j ≠ 16 + k by omega), pk_un (show j ≠ k by omega), pk_un (show 16 + j ≠ 16 + k by omega), pk_un (show 16 + j ≠ k by omega)]
    exact a2 (by omega)
def az_k (j : Nat) : Int32 := match j with
  | 0 => -4
  | i + 1 => nI (4 * i)
theorem az_k_s : ∀ i, i < 4 → nI (4 * i) + Int32.ofInt (-4) = az_k i := by decide +kernel
def az_hxl (v : Nat) : Nat → List Nat
  | 0 => []
  | i + 1 => (if 0 < v / 2 ^ (4 * i) ∨ i = 0 then [az_ch (v / 2 ^ (4 * i) % 16)] else []) ++ az_hxl v i
theorem az_hxl_4 (v : Nat) : az_hxl v 4 = az_hex v := by
  show (if 0 < v / 4096 ∨ 3 = 0 then [az_ch (v / 4096 % 16)] else []) ++ ((if 0 < v / 256 ∨ 2 = 0 then [az_ch (v / 256 % 16)] else []) ++ ((if 0 < v / 16 ∨ 1 = 0 then [az_ch (v / 16 % 16)] else []) ++ ((if 0 < v / 2 ^ (4 * 0) ∨ 0 = 0 then [az_ch (v / 2 ^ (4 * 0) % 16)] else []) ++ []))) = _
  unfold az_hex
  rw [List.append_nil, if_pos (show 0 < v / 2 ^ (4 * 0) ∨ 0 = 0 from Or.inr rfl), Nat.mul_zero, Nat.pow_zero, Nat.div_one]
  congr 1
  · by_cases q : v / 4096 = 0
    · rw [if_neg (by omega), if_neg (by omega)]
    · rw [if_pos (by omega), if_pos q]
  · congr 1
    · by_cases q : v / 256 = 0
      · rw [if_neg (by omega), if_neg (by omega)]
      · rw [if_pos (by omega), if_pos q]
    · congr 1
      by_cases q : v / 16 = 0
      · rw [if_neg (by omega), if_neg (by omega)]
      · rw [if_pos (by omega), if_pos q]
theorem az_wl_2 (f : Nat) : (f = 4 ∧ az_wl f = 32) ∨ (f ≠ 4 ∧ az_wl f = 128) := by
  by_cases h : f = 4
  · exact Or.inl ⟨h, by rw [h]; rfl⟩
  · exact Or.inr ⟨h, az_wl_n h⟩
theorem az_by_clr {E : Nat → Int32} {X Y s at_ : Nat} (hE : az_by E 0 X) (h : X = Y + X / 2 ^ s % 2 * 2 ^ s) (hs : s < 128) (ha : at_ = 127 - s) : az_by (upd E (at_ / 8) (nI (az_byte X (at_ / 8) - az_byte X (at_ / 8) / 2 ^ (7 - at_ % 8) % 2 * 2 ^ (7 - at_ % 8)))) 0 Y := by
  intro k hk
  rw [Nat.zero_add, az_bclr hs hk h, show 7 - at_ % 8 = s % 8 by omega, show at_ / 8 = 15 - s / 8 by omega]
  by_cases q : k = 15 - s / 8
  · rw [if_pos q, q, pk_us]
  · rw [if_neg q, pk_un q]
    have h2 := hE k hk
    rw [Nat.zero_add] at h2
    exact h2
