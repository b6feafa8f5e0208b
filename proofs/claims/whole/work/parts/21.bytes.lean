/-! the reference keeps an address as sixteen bytes -/
def az_byte (V k : Nat) : Nat := V / 2 ^ (8 * (15 - k)) % 256
def az_by (B : Nat → Int32) (o V : Nat) : Prop := ∀ k, k < 16 → B (o + k) = nI (az_byte V k)
theorem az_byte_lt (V k : Nat) : az_byte V k < 256 := Nat.mod_lt _ (by decide)
/-- eight of them are a half -/
def az_half (V h : Nat) : Nat := if h = 0 then V / 18446744073709551616 else V % 18446744073709551616
theorem az_half_lt {V : Nat} (h : Nat) (hV : V < 340282366920938463463374607431768211456) : az_half V h < 18446744073709551616 := by
  unfold az_half
  split
  · omega
  · exact Nat.mod_lt _ (by decide)
theorem az_half_b {V h k : Nat} (hh : h < 2) (hk : k < 8) : az_byte V (8 * h + k) = az_half V h / 2 ^ (8 * (7 - k)) % 256 := by
  unfold az_byte az_half
  rcases (show h = 0 ∨ h = 1 by omega) with rfl | rfl
  · rw [if_pos rfl]
    rcases (show k = 0 ∨ k = 1 ∨ k = 2 ∨ k = 3 ∨ k = 4 ∨ k = 5 ∨ k = 6 ∨ k = 7 by omega) with rfl | rfl | rfl | rfl | rfl | rfl | rfl | rfl <;> simp only [Nat.reduceMul, Nat.reduceSub, Nat.reducePow, Nat.reduceAdd] <;> omega
  · rw [if_neg (by decide)]
    rcases (show k = 0 ∨ k = 1 ∨ k = 2 ∨ k = 3 ∨ k = 4 ∨ k = 5 ∨ k = 6 ∨ k = 7 by omega) with rfl | rfl | rfl | rfl | rfl | rfl | rfl | rfl <;> simp only [Nat.reduceMul, Nat.reduceSub, Nat.reducePow, Nat.reduceAdd] <;> omega
theorem az_half_s {X k : Nat} (hk : k < 8) : X / 2 ^ (64 - 8 * k) * 256 + X / 2 ^ (8 * (7 - k)) % 256 = X / 2 ^ (64 - 8 * (k + 1)) := by
  rcases (show k = 0 ∨ k = 1 ∨ k = 2 ∨ k = 3 ∨ k = 4 ∨ k = 5 ∨ k = 6 ∨ k = 7 by omega) with rfl | rfl | rfl | rfl | rfl | rfl | rfl | rfl <;> simp only [Nat.reduceMul, Nat.reduceSub, Nat.reducePow, Nat.reduceAdd] <;> omega
/-! one more digit of a quotient -/
theorem az_quo (V a b : Nat) : V / 2 ^ a = V / 2 ^ (a + b) * 2 ^ b + V / 2 ^ a % 2 ^ b := by
  rw [Nat.pow_add, ← Nat.div_div_eq_div_mul, Nat.mul_comm]
  exact (Nat.div_add_mod (V / 2 ^ a) (2 ^ b)).symm
theorem az_byte_s {V k : Nat} (hk : k < 16) : V / 2 ^ (128 - 8 * (k + 1)) = V / 2 ^ (128 - 8 * k) * 256 + az_byte V k := by
  have h := az_quo V (8 * (15 - k)) 8
  unfold az_byte
  rw [show 128 - 8 * (k + 1) = 8 * (15 - k) by omega, show 128 - 8 * k = 8 * (15 - k) + 8 by omega]
  exact h
def az_bit (f V k : Nat) : Nat := V / 2 ^ (az_wl f - 1 - k) % 2
theorem az_bit_s {f V k : Nat} (hk : k < az_wl f) : V / 2 ^ (az_wl f - (k + 1)) = V / 2 ^ (az_wl f - k) * 2 + az_bit f V k := by
  have h := az_quo V (az_wl f - 1 - k) 1
  unfold az_bit
  rw [show az_wl f - (k + 1) = az_wl f - 1 - k by omega, show az_wl f - k = az_wl f - 1 - k + 1 by omega]
  exact h
theorem az_fine {V U a b : Nat} (h : a ≤ b) (e : V / 2 ^ a = U / 2 ^ a) : V / 2 ^ b = U / 2 ^ b := by
  rw [show b = a + (b - a) by omega, Nat.pow_add, ← Nat.div_div_eq_div_mul, ← Nat.div_div_eq_div_mul, e]
theorem az_cut_eq {V U m : Nat} : az_cut V m = az_cut U m ↔ V / 2 ^ m = U / 2 ^ m := by
  unfold az_cut
  constructor
  · intro h; exact Nat.eq_of_mul_eq_mul_right (Nat.two_pow_pos m) h
  · intro h; rw [h]
theorem az_dlt {V U d : Nat} (h : V / 2 ^ d ≠ U / 2 ^ d) : V < U ↔ V / 2 ^ d < U / 2 ^ d := by
  constructor
  · intro q
    exact Nat.lt_of_le_of_ne (Nat.div_le_div_right (Nat.le_of_lt q)) h
  · intro q
    rcases Nat.lt_or_ge V U with z | z
    · exact z
    · exact absurd (Nat.div_le_div_right (c := 2 ^ d) z) (Nat.not_le.mpr q)
theorem az_bit_e {V at_ : Nat} (h : at_ < 128) : az_byte V (at_ / 8) / 2 ^ (7 - at_ % 8) % 2 = V / 2 ^ (127 - at_) % 2 := by
  have e : 127 - at_ = 8 * (15 - at_ / 8) + (7 - at_ % 8) := by omega
  unfold az_byte
  rw [e, Nat.pow_add, ← Nat.div_div_eq_div_mul]
  generalize V / 2 ^ (8 * (15 - at_ / 8)) = X
  have hr : 7 - at_ % 8 < 8 := by omega
  generalize 7 - at_ % 8 = r at hr
  rcases (show r = 0 ∨ r = 1 ∨ r = 2 ∨ r = 3 ∨ r = 4 ∨ r = 5 ∨ r = 6 ∨ r = 7 by omega) with rfl | rfl | rfl | rfl | rfl | rfl | rfl | rfl <;> simp only [Nat.reducePow] <;> omega
/-! bits cleared -/
def az_clr (V lo hi : Nat) : Nat := V / 2 ^ hi * 2 ^ hi + V % 2 ^ lo
theorem az_clr_0 (V m : Nat) : az_clr V m m = V := by
  unfold az_clr
  have := Nat.div_add_mod V (2 ^ m)
  rw [Nat.mul_comm]
  exact this
theorem az_clr_1 (V m : Nat) : az_clr V 0 m = az_cut V m := by
  unfold az_clr az_cut
  rw [Nat.pow_zero, Nat.mod_one, Nat.add_zero]
theorem az_clr_s (V : Nat) {s m : Nat} (h : s < m) : az_clr V (s + 1) m = az_clr V s m + V / 2 ^ s % 2 * 2 ^ s ∧ az_clr V (s + 1) m / 2 ^ s % 2 = V / 2 ^ s % 2 := by
  have e1 : V % 2 ^ (s + 1) = V % 2 ^ s + V / 2 ^ s % 2 * 2 ^ s := by
    rw [Nat.pow_succ, Nat.mod_mul, Nat.mul_comm (2 ^ s)]
  unfold az_clr
  refine ⟨by omega, ?_⟩
  have e2 : V / 2 ^ m * 2 ^ m = V / 2 ^ m * 2 ^ (m - (s + 1)) * 2 * 2 ^ s := by
    rw [Nat.mul_assoc, Nat.mul_assoc, show 2 * 2 ^ s = 2 ^ (s + 1) by rw [Nat.pow_succ, Nat.mul_comm], ← Nat.pow_add, show m - (s + 1) + (s + 1) = m by omega]
  rw [e1, e2]
  have hz : V % 2 ^ s < 2 ^ s := Nat.mod_lt _ (Nat.two_pow_pos s)
  rw [show V / 2 ^ m * 2 ^ (m - (s + 1)) * 2 * 2 ^ s + (V % 2 ^ s + V / 2 ^ s % 2 * 2 ^ s) = V % 2 ^ s + (V / 2 ^ m * 2 ^ (m - (s + 1)) * 2 + V / 2 ^ s % 2) * 2 ^ s by rw [Nat.add_mul]; omega, Nat.add_mul_div_right _ _ (Nat.two_pow_pos s), Nat.div_eq_of_lt hz]
  omega
theorem az_clr_le (V : Nat) {lo hi : Nat} (h : lo ≤ hi) : az_clr V lo hi ≤ V := by
  unfold az_clr
  have h1 := Nat.div_add_mod V (2 ^ hi)
  have h2 : V % 2 ^ lo ≤ V % 2 ^ hi := by
    rw [← Nat.mod_mod_of_dvd V (Nat.pow_dvd_pow 2 h)]
    exact Nat.mod_le _ _
  rw [Nat.mul_comm] at h1
  omega
/-- the byte in which the bit lies, and the others -/
theorem az_bclr {X Y s k : Nat} (hs : s < 128) (hk : k < 16) (h : X = Y + X / 2 ^ s % 2 * 2 ^ s) : az_byte Y k = if k = 15 - s / 8 then az_byte X k - az_byte X k / 2 ^ (s % 8) % 2 * 2 ^ (s % 8) else az_byte X k := by
  have hX := Nat.div_add_mod X (2 ^ (s + 1))
  have e1 : X % 2 ^ (s + 1) = X % 2 ^ s + X / 2 ^ s % 2 * 2 ^ s := by rw [Nat.pow_succ, Nat.mod_mul, Nat.mul_comm (2 ^ s)]
  have hz : X % 2 ^ s < 2 ^ s := Nat.mod_lt _ (Nat.two_pow_pos s)
  have hY : Y = X / 2 ^ (s + 1) * 2 * 2 ^ s + X % 2 ^ s := by
    have e3 : 2 ^ (s + 1) * (X / 2 ^ (s + 1)) = X / 2 ^ (s + 1) * 2 * 2 ^ s := by
      rw [Nat.mul_assoc, show 2 * 2 ^ s = 2 ^ (s + 1) by rw [Nat.pow_succ, Nat.mul_comm], Nat.mul_comm]
    omega
  unfold az_byte
  by_cases q : k = 15 - s / 8
  · rw [if_pos q, show 8 * (15 - k) = 8 * (s / 8) by omega]
    have hp : 2 ^ s = 2 ^ (s % 8) * 2 ^ (8 * (s / 8)) := by rw [← Nat.pow_add, show s % 8 + 8 * (s / 8) = s by omega]
    have e4 : X / 2 ^ (8 * (s / 8)) = Y / 2 ^ (8 * (s / 8)) + X / 2 ^ s % 2 * 2 ^ (s % 8) := by
      have : X = Y + X / 2 ^ s % 2 * 2 ^ (s % 8) * 2 ^ (8 * (s / 8)) := by rw [Nat.mul_assoc, ← hp]; exact h
      exact (congrArg (fun z => z / 2 ^ (8 * (s / 8))) this).trans (Nat.add_mul_div_right _ _ (Nat.two_pow_pos _))
    have e5 : X / 2 ^ s % 2 = X / 2 ^ (8 * (s / 8)) / 2 ^ (s % 8) % 2 := by
      rw [Nat.div_div_eq_div_mul, ← Nat.pow_add, show 8 * (s / 8) + s % 8 = s by omega]
    rw [e5] at e4
    generalize X / 2 ^ (8 * (s / 8)) = A at e4 ⊢
    generalize Y / 2 ^ (8 * (s / 8)) = C at e4 ⊢
    have hr : s % 8 < 8 := by omega
    generalize s % 8 = r at hr e4 ⊢
    rcases (show r = 0 ∨ r = 1 ∨ r = 2 ∨ r = 3 ∨ r = 4 ∨ r = 5 ∨ r = 6 ∨ r = 7 by omega) with rfl | rfl | rfl | rfl | rfl | rfl | rfl | rfl <;> simp only [Nat.reducePow] at e4 ⊢ <;> omega
  · rw [if_neg q]
    rcases Nat.lt_or_ge (8 * (15 - k)) (8 * (s / 8)) with z | z
    · -- below: the same modulo
      have hp : 2 ^ s = 2 ^ (s - (8 * (15 - k) + 8)) * 256 * 2 ^ (8 * (15 - k)) := by
        rw [show (256 : Nat) = 2 ^ 8 from rfl, ← Nat.pow_add, ← Nat.pow_add]
        congr 1
        omega
      have e4 : X / 2 ^ (8 * (15 - k)) = Y / 2 ^ (8 * (15 - k)) + X / 2 ^ s % 2 * 2 ^ (s - (8 * (15 - k) + 8)) * 256 := by
        have : X = Y + X / 2 ^ s % 2 * 2 ^ (s - (8 * (15 - k) + 8)) * 256 * 2 ^ (8 * (15 - k)) := by
          rw [Nat.mul_assoc, Nat.mul_assoc, ← Nat.mul_assoc (2 ^ (s - (8 * (15 - k) + 8))), ← hp]; exact h
        exact (congrArg (fun z => z / 2 ^ (8 * (15 - k))) this).trans (Nat.add_mul_div_right _ _ (Nat.two_pow_pos _))
      rw [e4, Nat.add_mul_mod_self_right]
    · -- above: the same quotient
      have hsk : s + 1 ≤ 8 * (15 - k) := by omega
      have e6 : Y / 2 ^ (s + 1) = X / 2 ^ (s + 1) := by
        rw [hY, Nat.mul_assoc, show 2 * 2 ^ s = 2 ^ (s + 1) by rw [Nat.pow_succ, Nat.mul_comm], Nat.mul_comm, Nat.add_comm, Nat.add_mul_div_left _ _ (Nat.two_pow_pos _), Nat.div_eq_of_lt (Nat.lt_of_lt_of_le hz (Nat.pow_le_pow_right (by decide) (Nat.le_succ s))), Nat.zero_add]
      rw [az_fine hsk e6]
theorem az_clrI : ∀ a, a < 8 → ∀ w, w < 256 → nI w &&& ((nI 128 >>> (nI a &&& 31)) ^^^ (-1)) = nI (w - w / 2 ^ (7 - a) % 2 * 2 ^ (7 - a)) := by decide +kernel
/-! bytes and parts -/
theorem az_bpt {V p : Nat} (hp : p < 8) : az_byte V (2 * p) = az_pt V p / 256 ∧ az_byte V (2 * p + 1) = az_pt V p % 256 := by
  unfold az_byte az_pt
  rcases (show p = 0 ∨ p = 1 ∨ p = 2 ∨ p = 3 ∨ p = 4 ∨ p = 5 ∨ p = 6 ∨ p = 7 by omega) with rfl | rfl | rfl | rfl | rfl | rfl | rfl | rfl <;> simp only [Nat.reduceMul, Nat.reduceSub, Nat.reducePow, Nat.reduceAdd] <;> omega
theorem az_ad_0 {f l V : Nat} (h : az_ad f l V) : V / 2 ^ az_wl f = 0 := by
  rcases h.1 with q | q
  · have h1 : f = 4 := q.1
    have h2 : V < 4294967296 := q.2
    subst h1
    exact Nat.div_eq_of_lt h2
  · have h1 : f = 6 := q.1
    have h2 : V < 340282366920938463463374607431768211456 := q.2
    subst h1
    exact Nat.div_eq_of_lt h2
