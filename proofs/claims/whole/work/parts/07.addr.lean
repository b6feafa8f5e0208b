/-! addresses: V < 2^128; m: how many bits lie behind the length -/
def az_wl (f : Nat) : Nat := if f = 4 then 32 else 128
theorem az_wl_le (f : Nat) : az_wl f ≤ 128 := by unfold az_wl; split <;> omega
theorem az_wl_4 : az_wl 4 = 32 := rfl
theorem az_wl_n {f : Nat} (h : f ≠ 4) : az_wl f = 128 := by unfold az_wl; rw [if_neg h]
/-- a boolean as an answer -/
def az_b (p : Prop) [Decidable p] : Int32 := if p then nI 1 else nI 0
theorem az_b_t {p : Prop} [Decidable p] (h : p) : az_b p = nI 1 := if_pos h
theorem az_b_f {p : Prop} [Decidable p] (h : ¬ p) : az_b p = nI 0 := if_neg h
theorem az_b_c {p q : Prop} [Decidable p] [Decidable q] (h : p ↔ q) : az_b p = az_b q := by
  by_cases hp : p
  · rw [az_b_t hp, az_b_t (h.mp hp)]
  · rw [az_b_f hp, az_b_f (fun z => hp (h.mpr z))]
def az_hb (x : Int32) : Int64 := if 0 < x then (if x < nI 64 then (-1 : Int64) <<< ((nI 64 - x).toInt64 &&& 63) else -1) else lN 0
theorem az_hb_u : ∀ j, j < 129 → az_hb (nI j) = lN (18446744073709551616 - 2 ^ (64 - j)) := by decide +kernel
theorem az_hb_l : ∀ j, j < 129 → az_hb (nI j - nI 64) = lN (18446744073709551616 - 2 ^ (64 - (j - 64))) := by decide +kernel
theorem az_nmask {a r : Nat} (ha : a < 18446744073709551616) (hr : r ≤ 64) : a &&& (18446744073709551616 - 2 ^ r) = a / 2 ^ r * 2 ^ r := by
  have e1 : (18446744073709551616 - 2 ^ r : Nat) = (2 ^ (64 - r) - 1) <<< r := by
    rw [Nat.shiftLeft_eq, Nat.sub_mul, ← Nat.pow_add, show 64 - r + r = 64 by omega, Nat.one_mul]
  have e2 : a / 2 ^ r * 2 ^ r = (a >>> r) <<< r := by rw [Nat.shiftLeft_eq, Nat.shiftRight_eq_div_pow]
  rw [e1, e2]
  apply Nat.eq_of_testBit_eq
  intro j
  rw [Nat.testBit_and, Nat.testBit_shiftLeft, Nat.testBit_shiftLeft, Nat.testBit_two_pow_sub_one, Nat.testBit_shiftRight]
  by_cases h : r ≤ j
  · rw [show r + (j - r) = j by omega]
    by_cases h2 : j < 64
    · simp [h, show j - r < 64 - r by omega]
    · rw [Nat.testBit_lt_two_pow (show a < 2 ^ j from Nat.lt_of_lt_of_le (m := 2 ^ 64) ha (Nat.pow_le_pow_right (n := 2) (by decide) (show 64 ≤ j by omega)))]
      simp
  · simp [h]
theorem az_lmask {a r : Nat} (ha : a < 18446744073709551616) (hr : r ≤ 64) : lN a &&& lN (18446744073709551616 - 2 ^ r) = lN (a / 2 ^ r * 2 ^ r) := by
  have hp : 0 < 2 ^ r := Nat.two_pow_pos r
  rw [wb_and ha (show 18446744073709551616 - 2 ^ r < 2 ^ 64 by omega), az_nmask ha hr]
/-- the bits behind cut off -/
def az_cut (V m : Nat) : Nat := V / 2 ^ m * 2 ^ m
theorem az_cut_le (V m : Nat) : az_cut V m ≤ V := Nat.div_mul_le_self V (2 ^ m)
theorem az_cut_hi (V : Nat) {m : Nat} (hm : m ≤ 128) : az_cut V m / 18446744073709551616 = V / 18446744073709551616 / 2 ^ (m - 64) * 2 ^ (m - 64) := by
  unfold az_cut
  by_cases h : m ≤ 64
  · rw [show m - 64 = 0 by omega, Nat.pow_zero, Nat.div_one, Nat.mul_one, show (18446744073709551616 : Nat) = 2 ^ m * 2 ^ (64 - m) by rw [← Nat.pow_add, show m + (64 - m) = 64 by omega], ← Nat.div_div_eq_div_mul, ← Nat.div_div_eq_div_mul, Nat.mul_div_cancel _ (Nat.two_pow_pos m)]
  · have e : 2 ^ m = 18446744073709551616 * 2 ^ (m - 64) := by rw [show (18446744073709551616 : Nat) = 2 ^ 64 from rfl, ← Nat.pow_add, show 64 + (m - 64) = m by omega]
    rw [e, ← Nat.div_div_eq_div_mul, Nat.mul_comm 18446744073709551616 (2 ^ (m - 64)), ← Nat.mul_assoc, Nat.mul_div_cancel _ (by decide)]
theorem az_cut_lo (V : Nat) {m : Nat} (hm : m ≤ 128) : az_cut V m % 18446744073709551616 = V % 18446744073709551616 / 2 ^ (64 - (128 - m - 64)) * 2 ^ (64 - (128 - m - 64)) := by
  unfold az_cut
  by_cases h : m ≤ 64
  · rw [show 64 - (128 - m - 64) = m by omega, show (18446744073709551616 : Nat) = 2 ^ (64 - m) * 2 ^ m by rw [← Nat.pow_add, show 64 - m + m = 64 by omega], Nat.mul_mod_mul_right, Nat.mul_comm (2 ^ (64 - m)) (2 ^ m), Nat.mod_mul_right_div_self]
  · rw [show 64 - (128 - m - 64) = 64 by omega]
    have e : 2 ^ m = 2 ^ (m - 64) * 18446744073709551616 := by rw [show (18446744073709551616 : Nat) = 2 ^ 64 from rfl, ← Nat.pow_add, show m - 64 + 64 = m by omega]
    rw [e, ← Nat.mul_assoc, Nat.mul_mod_left]
    have := Nat.mod_lt V (show 0 < 18446744073709551616 by decide)
    rw [show (2 ^ 64 : Nat) = 18446744073709551616 from rfl, Nat.div_eq_of_lt this, Nat.zero_mul]
/-- what the class's masks do -/
theorem az_cut_u {V k : Nat} (hV : V < 340282366920938463463374607431768211456) (hk : k ≤ 128) : lN (V / 18446744073709551616) &&& az_hb (nI k) = lN (az_cut V (128 - k) / 18446744073709551616) := by
  rw [az_hb_u k (by omega), az_lmask (by omega) (by omega), az_cut_hi V (by omega), show 128 - k - 64 = 64 - k by omega]
theorem az_cut_l {V k : Nat} (hk : k ≤ 128) : lN (V % 18446744073709551616) &&& az_hb (nI k - nI 64) = lN (az_cut V (128 - k) % 18446744073709551616) := by
  rw [az_hb_l k (by omega), az_lmask (Nat.mod_lt _ (by decide)) (by omega), az_cut_lo V (by omega), show 128 - (128 - k) = k by omega]
theorem az_lN_eq {a b : Nat} (ha : a < 18446744073709551616) (hb : b < 18446744073709551616) : lN a = lN b ↔ a = b := by
  constructor
  · intro h
    have h1 := wb_tn (n := a) ha
    rw [h, wb_tn hb] at h1
    exact h1.symm
  · intro h; rw [h]
theorem az_halves {V U : Nat} (h1 : V / 18446744073709551616 = U / 18446744073709551616) (h2 : V % 18446744073709551616 = U % 18446744073709551616) : V = U := by
  have a := Nat.div_add_mod V 18446744073709551616
  have b := Nat.div_add_mod U 18446744073709551616
  rw [h1, h2] at a
  omega
theorem az_xmask {a b r : Nat} (ha : a < 18446744073709551616) (hb : b < 18446744073709551616) (hr : r ≤ 64) : ((lN a ^^^ lN b) &&& lN (18446744073709551616 - 2 ^ r)) = lN 0 ↔ a / 2 ^ r * 2 ^ r = b / 2 ^ r * 2 ^ r := by
  have hx : a ^^^ b < 18446744073709551616 := Nat.xor_lt_two_pow (n := 64) ha hb
  have h2 : (a ^^^ b) / 2 ^ r * 2 ^ r < 18446744073709551616 := Nat.lt_of_le_of_lt (Nat.div_mul_le_self _ _) hx
  have hp : 0 < 2 ^ r := Nat.two_pow_pos r
  rw [lN_xor, az_lmask hx hr, az_lN_eq h2 (by decide)]
  have e : (a ^^^ b) / 2 ^ r = (a / 2 ^ r) ^^^ (b / 2 ^ r) := by
    rw [← Nat.shiftRight_eq_div_pow, ← Nat.shiftRight_eq_div_pow, ← Nat.shiftRight_eq_div_pow]
    exact Nat.shiftRight_xor_distrib
  constructor
  · intro h
    have h3 : (a ^^^ b) / 2 ^ r = 0 := by
      rcases Nat.mul_eq_zero.mp h with q | q
      · exact q
      · omega
    rw [e] at h3
    have h4 : a / 2 ^ r = b / 2 ^ r := by
      apply Nat.eq_of_testBit_eq
      intro i
      have h5 := congrArg (fun x => x.testBit i) h3
      simp only [Nat.testBit_xor, Nat.zero_testBit] at h5
      revert h5
      cases (a / 2 ^ r).testBit i <;> cases (b / 2 ^ r).testBit i <;> simp
    rw [h4]
  · intro h
    have h4 : a / 2 ^ r = b / 2 ^ r := Nat.eq_of_mul_eq_mul_right hp h
    rw [e, h4, Nat.xor_self, Nat.zero_mul]
theorem az_cov_u {V U k : Nat} (hV : V < 340282366920938463463374607431768211456) (hU : U < 340282366920938463463374607431768211456) (hk : k ≤ 128) : ((lN (V / 18446744073709551616) ^^^ lN (U / 18446744073709551616)) &&& az_hb (nI k)) = lN 0 ↔ az_cut V (128 - k) / 18446744073709551616 = az_cut U (128 - k) / 18446744073709551616 := by
  rw [az_hb_u k (by omega), az_xmask (by omega) (by omega) (by omega), az_cut_hi V (by omega), az_cut_hi U (by omega), show 128 - k - 64 = 64 - k by omega]
theorem az_cov_l {V U k : Nat} (hk : k ≤ 128) : ((lN (V % 18446744073709551616) ^^^ lN (U % 18446744073709551616)) &&& az_hb (nI k - nI 64)) = lN 0 ↔ az_cut V (128 - k) % 18446744073709551616 = az_cut U (128 - k) % 18446744073709551616 := by
  rw [az_hb_l k (by omega), az_xmask (Nat.mod_lt _ (by decide)) (Nat.mod_lt _ (by decide)) (by omega), az_cut_lo V (by omega), az_cut_lo U (by omega), show 128 - (128 - k) = k by omega]
/-! parts of an address -/
def az_pt (V k : Nat) : Nat := V / 2 ^ (16 * (7 - k)) % 65536
theorem az_pt_u {V k : Nat} (h : k < 4) : V / 18446744073709551616 / 2 ^ (48 - 16 * (k % 4)) % 65536 = az_pt V k := by
  unfold az_pt
  rcases (show k = 0 ∨ k = 1 ∨ k = 2 ∨ k = 3 by omega) with rfl | rfl | rfl | rfl <;> simp only [Nat.reduceMod, Nat.reduceMul, Nat.reduceSub, Nat.reducePow] <;> omega
theorem az_pt_l {V k : Nat} (h : 4 ≤ k) (h2 : k < 8) : V % 18446744073709551616 / 2 ^ (48 - 16 * (k % 4)) % 65536 = az_pt V k := by
  unfold az_pt
  rcases (show k = 4 ∨ k = 5 ∨ k = 6 ∨ k = 7 by omega) with rfl | rfl | rfl | rfl <;> simp only [Nat.reduceMod, Nat.reduceMul, Nat.reduceSub, Nat.reducePow] <;> omega
theorem az_pt_lt (V k : Nat) : az_pt V k < 65536 := Nat.mod_lt _ (by decide)
/-- a part set that was 0, with all behind it -/
def az_sp (V k v : Nat) : Nat := V + v * 2 ^ (16 * (7 - k))
theorem az_sp_u {V k v : Nat} (hV : V < 340282366920938463463374607431768211456) (h : k < 4) (hv : v < 65536) (hz : V % 2 ^ (16 * (8 - k)) = 0) : lN (V / 18446744073709551616) ||| lN (v * 2 ^ (48 - 16 * (k % 4))) = lN (az_sp V k v / 18446744073709551616) ∧ az_sp V k v % 18446744073709551616 = V % 18446744073709551616 ∧ az_sp V k v < 340282366920938463463374607431768211456 ∧ az_sp V k v % 2 ^ (16 * (8 - (k + 1))) = 0 := by
  unfold az_sp
  rcases (show k = 0 ∨ k = 1 ∨ k = 2 ∨ k = 3 by omega) with rfl | rfl | rfl | rfl <;> simp only [Nat.reduceMod, Nat.reduceMul, Nat.reduceSub, Nat.reducePow, Nat.reduceAdd] at hz ⊢
  · refine ⟨?_, by omega, by omega, by omega⟩
    have := g_or (k := 64) (p := 18446744073709551616) (a := v * 281474976710656) (b := 0) rfl (by omega) (by omega)
    rw [Nat.zero_mul, Nat.zero_add] at this
    rw [show V / 18446744073709551616 = 0 by omega, this]
    congr 1; omega
  · refine ⟨?_, by omega, by omega, by omega⟩
    have := g_or (k := 48) (p := 281474976710656) (a := v * 4294967296) (b := V / 5192296858534827628530496329220096) rfl (by omega) (by omega)
    rw [show V / 18446744073709551616 = V / 5192296858534827628530496329220096 * 281474976710656 by omega, this]
    congr 1; omega
  · refine ⟨?_, by omega, by omega, by omega⟩
    have := g_or (k := 32) (p := 4294967296) (a := v * 65536) (b := V / 79228162514264337593543950336) rfl (by omega) (by omega)
    rw [show V / 18446744073709551616 = V / 79228162514264337593543950336 * 4294967296 by omega, this]
    congr 1; omega
  · refine ⟨?_, by omega, by omega, by omega⟩
    have := g_or (k := 16) (p := 65536) (a := v * 1) (b := V / 1208925819614629174706176) rfl (by omega) (by omega)
    rw [show V / 18446744073709551616 = V / 1208925819614629174706176 * 65536 by omega, this]
    congr 1; omega
theorem az_sp_l {V k v : Nat} (hV : V < 340282366920938463463374607431768211456) (h : 4 ≤ k) (h2 : k < 8) (hv : v < 65536) (hz : V % 2 ^ (16 * (8 - k)) = 0) : lN (V % 18446744073709551616) ||| lN (v * 2 ^ (48 - 16 * (k % 4))) = lN (az_sp V k v % 18446744073709551616) ∧ az_sp V k v / 18446744073709551616 = V / 18446744073709551616 ∧ az_sp V k v < 340282366920938463463374607431768211456 ∧ az_sp V k v % 2 ^ (16 * (8 - (k + 1))) = 0 := by
  unfold az_sp
  rcases (show k = 4 ∨ k = 5 ∨ k = 6 ∨ k = 7 by omega) with rfl | rfl | rfl | rfl <;> simp only [Nat.reduceMod, Nat.reduceMul, Nat.reduceSub, Nat.reducePow, Nat.reduceAdd] at hz ⊢
  · refine ⟨?_, by omega, by omega, by omega⟩
    have := g_or (k := 64) (p := 18446744073709551616) (a := v * 281474976710656) (b := 0) rfl (by omega) (by omega)
    rw [Nat.zero_mul, Nat.zero_add] at this
    rw [show V % 18446744073709551616 = 0 by omega, this]
    congr 1; omega
  · refine ⟨?_, by omega, by omega, by omega⟩
    have := g_or (k := 48) (p := 281474976710656) (a := v * 4294967296) (b := V % 18446744073709551616 / 281474976710656) rfl (by omega) (by omega)
    rw [show V % 18446744073709551616 = V % 18446744073709551616 / 281474976710656 * 281474976710656 by omega, this]
    congr 1; omega
  · refine ⟨?_, by omega, by omega, by omega⟩
    have := g_or (k := 32) (p := 4294967296) (a := v * 65536) (b := V % 18446744073709551616 / 4294967296) rfl (by omega) (by omega)
    rw [show V % 18446744073709551616 = V % 18446744073709551616 / 4294967296 * 4294967296 by omega, this]
    congr 1; omega
  · refine ⟨?_, by omega, by omega, by omega⟩
    have := g_or (k := 16) (p := 65536) (a := v * 1) (b := V % 18446744073709551616 / 65536) rfl (by omega) (by omega)
    rw [show V % 18446744073709551616 = V % 18446744073709551616 / 65536 * 65536 by omega, this]
    congr 1; omega
/-! rows of parts 0 -/
def az_zrF (V : Nat) : Nat → Nat → Nat
  | 0, _ => 0
  | j + 1, k => if az_pt V k = 0 then 1 + az_zrF V j (k + 1) else 0
def az_zr (V k : Nat) : Nat := az_zrF V (8 - k) k
theorem az_zr_end {V k : Nat} (h : 8 ≤ k) : az_zr V k = 0 := by unfold az_zr; rw [show 8 - k = 0 by omega]; rfl
theorem az_zr_hit {V k : Nat} (h : k < 8) (e : az_pt V k = 0) : az_zr V k = 1 + az_zr V (k + 1) := by
  unfold az_zr
  rw [show 8 - k = (8 - (k + 1)) + 1 by omega]
  show (if az_pt V k = 0 then 1 + _ else 0) = _
  rw [if_pos e]
theorem az_zr_miss {V k : Nat} (h : k < 8) (e : az_pt V k ≠ 0) : az_zr V k = 0 := by
  unfold az_zr
  rw [show 8 - k = (8 - (k + 1)) + 1 by omega]
  show (if az_pt V k = 0 then 1 + _ else 0) = _
  rw [if_neg e]
theorem az_zrF_le (V : Nat) : ∀ j k, az_zrF V j k ≤ j
  | 0, _ => Nat.le_refl _
  | j + 1, k => by
    have := az_zrF_le V j (k + 1)
    show (if az_pt V k = 0 then 1 + az_zrF V j (k + 1) else 0) ≤ j + 1
    split <;> omega
theorem az_zr_le (V k : Nat) : az_zr V k ≤ 8 - k := az_zrF_le V _ _
def az_lr (V : Nat) : Nat → Nat × Nat
  | 0 => (8, 1)
  | k + 1 => if (az_lr V k).2 < az_zr V k then (k, az_zr V k) else az_lr V k
theorem az_lr_t {V k st lg : Nat} (h : az_lr V k = (st, lg)) (c : lg < az_zr V k) : az_lr V (k + 1) = (k, az_zr V k) := by
  show (if (az_lr V k).2 < az_zr V k then _ else _) = _
  rw [h, if_pos c]
theorem az_lr_f {V k st lg : Nat} (h : az_lr V k = (st, lg)) (c : az_zr V k ≤ lg) : az_lr V (k + 1) = (st, lg) := by
  show (if (az_lr V k).2 < az_zr V k then _ else _) = _
  rw [h, if_neg (Nat.not_lt.mpr c)]
