/-! a text is read -/
theorem az_hxF_lt (T : Nat → Nat) : ∀ (k i v r : Nat), az_hxF T k i v = some r → r < (v + 1) * 16 ^ k
  | 0, i, v, r, h => by
    cases h
    rw [Nat.pow_zero]
    omega
  | k + 1, i, v, r, h => by
    change (match az_hd (T i) with | none => none | some d => az_hxF T k (i + 1) (v * 16 + d)) = some r at h
    rcases hd : az_hd (T i) with _ | d
    · rw [hd] at h; cases h
    · rw [hd] at h
      have h1 := az_hxF_lt T k (i + 1) (v * 16 + d) r h
      have h2 := az_hd_lt hd
      have h3 : (v * 16 + d + 1) * 16 ^ k ≤ (v * 16 + 16) * 16 ^ k := Nat.mul_le_mul_right _ (by omega)
      have h4 : (v * 16 + 16) * 16 ^ k = (v + 1) * 16 ^ (k + 1) := by
        rw [Nat.pow_succ, show v * 16 + 16 = (v + 1) * 16 by omega, Nat.mul_assoc, Nat.mul_comm 16 (16 ^ k)]
      omega
theorem az_hx_lt {T : Nat → Nat} {fr to v : Nat} (h : az_hx T fr to = some v) : v < 65536 := by
  by_cases q : to ≤ fr ∨ fr + 4 < to
  · rw [az_hx_n q] at h; cases h
  · rw [az_hx_s (by omega) (by omega)] at h
    have h1 := az_hxF_lt T _ _ _ _ h
    have h2 : 16 ^ (to - fr) ≤ 16 ^ 4 := Nat.pow_le_pow_right (by decide) (by omega)
    omega
def az_rv (T : Nat → Nat) (n to : Nat) : Nat → Nat → Nat → Nat → Option Nat
  | 0, _, _, V => some V
  | k + 1, i, j, V => match az_hx T i (min (az_pl T n 58 i) to) with
    | none => none
    | some v => az_rv T n to k (min (az_pl T n 58 i) to + 1) (j + 1) (az_sp V j v)
theorem az_rv_bad {T : Nat → Nat} {n to c k i j V : Nat} (h : k < c) (e : az_hx T i (min (az_pl T n 58 i) to) = none) : az_rv T n to (c - k) i j V = none := by
  rw [show c - k = (c - (k + 1)) + 1 by omega]
  show (match az_hx T i (min (az_pl T n 58 i) to) with | none => none | some v => _) = none
  rw [e]
theorem az_rv_step {T : Nat → Nat} {n to c k i j V v : Nat} (h : k < c) (e : az_hx T i (min (az_pl T n 58 i) to) = some v) : az_rv T n to (c - k) i j V = az_rv T n to (c - (k + 1)) (min (az_pl T n 58 i) to + 1) (j + 1) (az_sp V j v) := by
  rw [show c - k = (c - (k + 1)) + 1 by omega]
  show (match az_hx T i (min (az_pl T n 58 i) to) with | none => none | some v => az_rv T n to (c - (k + 1)) (min (az_pl T n 58 i) to + 1) (j + 1) (az_sp V j v)) = _
  rw [e]
theorem az_min {p t : Nat} (hp : p < 2 ^ 31) (ht : t < 2 ^ 31) : (if nI t < nI p then nI t else nI p) = nI (min p t) := by
  by_cases h : t < p
  · rw [if_pos ((nI_ltI ht hp).mpr h), Nat.min_eq_right (by omega)]
  · rw [if_neg (fun z => h ((nI_ltI ht hp).mp z)), Nat.min_eq_left (by omega)]
/-- family 6 -/
def az_six (T : Nat → Nat) (n : Nat) : Option Nat :=
  if (az_gp T n 0 < n ∧ az_cn T 0 (az_gp T n 0) + az_cn T (az_gp T n 0 + 2) n < 8) ∨ (¬ az_gp T n 0 < n ∧ az_cn T 0 (az_gp T n 0) = 8) then
    match az_rv T n (az_gp T n 0) (az_cn T 0 (az_gp T n 0)) 0 0 0 with
    | none => none
    | some V => az_rv T n n (az_cn T (az_gp T n 0 + 2) n) (az_gp T n 0 + 2) (8 - az_cn T (az_gp T n 0 + 2) n) V
  else none
theorem az_mono {u a b : Nat} (h : u % 2 ^ (16 * a) = 0) (hb : b ≤ a) : u % 2 ^ (16 * b) = 0 := by
  have h1 : 2 ^ (16 * b) ∣ 2 ^ (16 * a) := Nat.pow_dvd_pow 2 (by omega)
  exact Nat.mod_eq_zero_of_dvd (Nat.dvd_trans h1 (Nat.dvd_of_mod_eq_zero h))
/-- family 4 -/
def az_q4 (T : Nat → Nat) (n : Nat) : Nat → Nat → Nat → Option Nat
  | 0, i, v => if i = n + 1 then some v else none
  | k + 1, i, v => match az_dc T i (az_pl T n 46 i) 255 with
    | none => none
    | some d => az_q4 T n k (az_pl T n 46 i + 1) (v * 256 + d)
theorem az_q4_bad {T : Nat → Nat} {n k i v : Nat} (h : k < 4) (e : az_dc T i (az_pl T n 46 i) 255 = none) : az_q4 T n (4 - k) i v = none := by
  rw [show 4 - k = (4 - (k + 1)) + 1 by omega]
  show (match az_dc T i (az_pl T n 46 i) 255 with | none => none | some d => _) = none
  rw [e]
theorem az_q4_step {T : Nat → Nat} {n k i v d : Nat} (h : k < 4) (e : az_dc T i (az_pl T n 46 i) 255 = some d) : az_q4 T n (4 - k) i v = az_q4 T n (4 - (k + 1)) (az_pl T n 46 i + 1) (v * 256 + d) := by
  rw [show 4 - k = (4 - (k + 1)) + 1 by omega]
  show (match az_dc T i (az_pl T n 46 i) 255 with | none => none | some d => az_q4 T n (4 - (k + 1)) (az_pl T n 46 i + 1) (v * 256 + d)) = _
  rw [e]
theorem az_dcF_le (T : Nat → Nat) (most : Nat) : ∀ (k i v r : Nat), v ≤ most → az_dcF T most k i v = some r → r ≤ most
  | 0, i, v, r, hv, h => by cases h; exact hv
  | k + 1, i, v, r, hv, h => by
    change (if 48 ≤ T i ∧ T i ≤ 57 then (if most < v * 10 + (T i - 48) then none else az_dcF T most k (i + 1) (v * 10 + (T i - 48))) else none) = some r at h
    split at h
    · split at h
      · cases h
      · exact az_dcF_le T most k _ _ r (by omega) h
    · cases h
theorem az_dc_le {T : Nat → Nat} {fr to most d : Nat} (h : az_dc T fr to most = some d) : d ≤ most := by
  by_cases q : to ≤ fr ∨ (T fr = 48 ∧ 1 < to - fr)
  · rw [az_dc_n q] at h; cases h
  · rw [az_dc_s q] at h
    exact az_dcF_le T most _ _ _ _ (Nat.zero_le _) h
theorem az_p256 : ∀ {k : Nat}, k < 4 → 256 ^ k ≤ 16777216
  | 0, _ => by decide
  | 1, _ => by decide
  | 2, _ => by decide
  | 3, _ => by decide
  | _ + 4, h => by omega
theorem az_p256s {v d k : Nat} (hv : v < 256 ^ k) (hd : d ≤ 255) : v * 256 + d < 256 ^ (k + 1) := by
  have := Nat.pow_succ 256 k
  omega
/-- the text: its family and its address -/
def az_text (T : Nat → Nat) (n : Nat) : Option (Nat × Nat) := if az_pl T n 58 0 < n then (az_six T n).map (fun V => (6, V)) else (az_q4 T n 4 0 0).map (fun V => (4, V))
/-- an address of its family -/
def az_ok (u : Nat × Nat) : Prop := (u.1 = 4 ∧ u.2 < 4294967296) ∨ (u.1 = 6 ∧ u.2 < 340282366920938463463374607431768211456)
