/-! the mathematics of the tape: T its bytes, n their number -/
def az_tp (f : Nat → Int32) (T : Nat → Nat) (n : Nat) : Prop := ∀ j, j < n → f j = sb_b (T j) ∧ T j < 256
def az_o (o : Option Nat) : Int32 := match o with
  | none => -1
  | some v => nI v
def az_hd (c : Nat) : Option Nat := if 48 ≤ c ∧ c ≤ 57 then some (c - 48) else if 97 ≤ c ∧ c ≤ 102 then some (c - 97 + 10) else if 65 ≤ c ∧ c ≤ 70 then some (c - 65 + 10) else none
theorem az_hd_a {c : Nat} (h : 48 ≤ c) (h2 : c ≤ 57) : az_hd c = some (c - 48) := by unfold az_hd; rw [if_pos ⟨h, h2⟩]
theorem az_hd_b {c : Nat} (h : 97 ≤ c) (h2 : c ≤ 102) : az_hd c = some (c - 97 + 10) := by unfold az_hd; rw [if_neg (by omega), if_pos ⟨h, h2⟩]
theorem az_hd_c {c : Nat} (h : 65 ≤ c) (h2 : c ≤ 70) : az_hd c = some (c - 65 + 10) := by unfold az_hd; rw [if_neg (by omega), if_neg (by omega), if_pos ⟨h, h2⟩]
theorem az_hd_n {c : Nat} (h1 : c < 48 ∨ 57 < c) (h2 : c < 97 ∨ 102 < c) (h3 : c < 65 ∨ 70 < c) : az_hd c = none := by unfold az_hd; rw [if_neg (by omega), if_neg (by omega), if_neg (by omega)]
/-- a digit: one of ten, or a letter -/
theorem az_hd_q {c d : Nat} (h : az_hd c = some d) : (d ≤ 9 ∧ 48 ≤ c ∧ c ≤ 57 ∧ d = c - 48) ∨ (9 < d ∧ d < 16 ∧ 57 < c ∧ c ≤ 102) := by
  unfold az_hd at h
  split at h
  · cases h; omega
  · split at h
    · cases h; omega
    · split at h
      · cases h; omega
      · cases h
theorem az_hd_lt {c d : Nat} (h : az_hd c = some d) : d < 16 := by rcases az_hd_q h with q | q <;> omega
theorem az_hd_ne {c : Nat} (h : az_hd c = none) : ¬ (48 ≤ c ∧ c ≤ 57) := fun q => by rw [az_hd_a q.1 q.2] at h; cases h
theorem az_hd_58 : az_hd 58 = none := rfl
/-! the first place of a mark -/
def az_plF (T : Nat → Nat) (mk : Nat) : Nat → Nat → Nat
  | 0, i => i
  | k + 1, i => if T i = mk then i else az_plF T mk k (i + 1)
def az_pl (T : Nat → Nat) (n mk i : Nat) : Nat := if i ≤ n then az_plF T mk (n - i) i else n
theorem az_pl_hit {T : Nat → Nat} {n mk i : Nat} (h : i < n) (e : T i = mk) : az_pl T n mk i = i := by
  unfold az_pl
  rw [if_pos (Nat.le_of_lt h), show n - i = (n - i - 1) + 1 by omega]
  show (if T i = mk then i else _) = i
  rw [if_pos e]
theorem az_pl_miss {T : Nat → Nat} {n mk i : Nat} (h : i < n) (e : T i ≠ mk) : az_pl T n mk i = az_pl T n mk (i + 1) := by
  unfold az_pl
  rw [if_pos (Nat.le_of_lt h), if_pos (show i + 1 ≤ n from h), show n - i = (n - (i + 1)) + 1 by omega]
  show (if T i = mk then i else _) = _
  rw [if_neg e]
theorem az_pl_end {T : Nat → Nat} {n mk i : Nat} (h : n ≤ i) : az_pl T n mk i = n := by
  unfold az_pl
  by_cases q : i ≤ n
  · rw [if_pos q, show n - i = 0 by omega]
    show i = n
    omega
  · rw [if_neg q]
/-- what is known of the first place -/
theorem az_pl_spec {T : Nat → Nat} {n mk : Nat} : ∀ (k i : Nat), i ≤ n → n - i = k → i ≤ az_pl T n mk i ∧ az_pl T n mk i ≤ n ∧ (∀ j, i ≤ j → j < az_pl T n mk i → T j ≠ mk) ∧ (az_pl T n mk i < n → T (az_pl T n mk i) = mk) := by
  intro k
  induction k with
  | zero =>
    intro i h1 h2
    rw [az_pl_end (show n ≤ i by omega)]
    refine ⟨h1, Nat.le_refl _, fun j h3 h4 => by omega, fun h3 => by omega⟩
  | succ k ih =>
    intro i h1 h2
    have hlt : i < n := by omega
    by_cases e : T i = mk
    · rw [az_pl_hit hlt e]
      exact ⟨Nat.le_refl _, h1, fun j h3 h4 => by omega, fun _ => e⟩
    · rw [az_pl_miss hlt e]
      obtain ⟨q1, q2, q3, q4⟩ := ih (i + 1) hlt (by omega)
      refine ⟨by omega, q2, fun j h3 h4 => ?_, q4⟩
      by_cases hj : j = i
      · rw [hj]; exact e
      · exact q3 j (by omega) h4
theorem az_pl_le {T : Nat → Nat} {n mk i : Nat} : az_pl T n mk i ≤ n := by
  by_cases h : i ≤ n
  · exact (az_pl_spec _ i h rfl).2.1
  · rw [az_pl_end (by omega)]; exact Nat.le_refl _
theorem az_pl_ge {T : Nat → Nat} {n mk i : Nat} (h : i ≤ n) : i ≤ az_pl T n mk i := (az_pl_spec _ i h rfl).1
theorem az_pl_ne {T : Nat → Nat} {n mk i j : Nat} (h : i ≤ n) (h1 : i ≤ j) (h2 : j < az_pl T n mk i) : T j ≠ mk := (az_pl_spec _ i h rfl).2.2.1 j h1 h2
theorem az_pl_at {T : Nat → Nat} {n mk i : Nat} (h : i ≤ n) (h1 : az_pl T n mk i < n) : T (az_pl T n mk i) = mk := (az_pl_spec _ i h rfl).2.2.2 h1
/-- the place is known by what holds of it -/
theorem az_pl_eq {T : Nat → Nat} {n mk i p : Nat} (h1 : i ≤ p) (h2 : p ≤ n) (h3 : ∀ j, i ≤ j → j < p → T j ≠ mk) (h4 : p < n → T p = mk) : az_pl T n mk i = p := by
  have hi : i ≤ n := Nat.le_trans h1 h2
  have g1 := az_pl_ge (T := T) (n := n) (mk := mk) hi
  have g2 := az_pl_le (T := T) (n := n) (mk := mk) (i := i)
  rcases Nat.lt_trichotomy (az_pl T n mk i) p with q | q | q
  · exact absurd (az_pl_at hi (by omega)) (h3 _ g1 q)
  · exact q
  · exact absurd (h4 (by omega)) (az_pl_ne hi h1 q)
/-! the first place of :: -/
def az_gpF (T : Nat → Nat) (n : Nat) : Nat → Nat → Nat
  | 0, i => i
  | k + 1, i => if T i = 58 ∧ i + 1 < n ∧ T (i + 1) = 58 then i else az_gpF T n k (i + 1)
def az_gp (T : Nat → Nat) (n i : Nat) : Nat := if i ≤ n then az_gpF T n (n - i) i else n
theorem az_gp_hit {T : Nat → Nat} {n i : Nat} (h : i < n) (e : T i = 58) (h2 : i + 1 < n) (e2 : T (i + 1) = 58) : az_gp T n i = i := by
  unfold az_gp
  rw [if_pos (Nat.le_of_lt h), show n - i = (n - i - 1) + 1 by omega]
  show (if T i = 58 ∧ i + 1 < n ∧ T (i + 1) = 58 then i else _) = i
  rw [if_pos ⟨e, h2, e2⟩]
theorem az_gp_miss {T : Nat → Nat} {n i : Nat} (h : i < n) (e : ¬ (T i = 58 ∧ i + 1 < n ∧ T (i + 1) = 58)) : az_gp T n i = az_gp T n (i + 1) := by
  unfold az_gp
  rw [if_pos (Nat.le_of_lt h), if_pos (show i + 1 ≤ n from h), show n - i = (n - (i + 1)) + 1 by omega]
  show (if T i = 58 ∧ i + 1 < n ∧ T (i + 1) = 58 then i else _) = _
  rw [if_neg e]
theorem az_gp_end {T : Nat → Nat} {n i : Nat} (h : n ≤ i) : az_gp T n i = n := by
  unfold az_gp
  by_cases q : i ≤ n
  · rw [if_pos q, show n - i = 0 by omega]
    show i = n
    omega
  · rw [if_neg q]
theorem az_gp_spec {T : Nat → Nat} {n : Nat} : ∀ (k i : Nat), i ≤ n → n - i = k → i ≤ az_gp T n i ∧ az_gp T n i ≤ n ∧ (∀ j, i ≤ j → j < az_gp T n i → ¬ (T j = 58 ∧ j + 1 < n ∧ T (j + 1) = 58)) ∧ (az_gp T n i < n → T (az_gp T n i) = 58 ∧ az_gp T n i + 1 < n ∧ T (az_gp T n i + 1) = 58) := by
  intro k
  induction k with
  | zero =>
    intro i h1 h2
    rw [az_gp_end (show n ≤ i by omega)]
    refine ⟨h1, Nat.le_refl _, fun j h3 h4 => by omega, fun h3 => by omega⟩
  | succ k ih =>
    intro i h1 h2
    have hlt : i < n := by omega
    by_cases e : T i = 58 ∧ i + 1 < n ∧ T (i + 1) = 58
    · rw [az_gp_hit hlt e.1 e.2.1 e.2.2]
      exact ⟨Nat.le_refl _, h1, fun j h3 h4 => by omega, fun _ => e⟩
    · rw [az_gp_miss hlt e]
      obtain ⟨q1, q2, q3, q4⟩ := ih (i + 1) hlt (by omega)
      refine ⟨by omega, q2, fun j h3 h4 => ?_, q4⟩
      by_cases hj : j = i
      · rw [hj]; exact e
      · exact q3 j (by omega) h4
theorem az_gp_le {T : Nat → Nat} {n i : Nat} : az_gp T n i ≤ n := by
  by_cases h : i ≤ n
  · exact (az_gp_spec _ i h rfl).2.1
  · rw [az_gp_end (by omega)]; exact Nat.le_refl _
/-! how many parts -/
def az_clF (T : Nat → Nat) : Nat → Nat → Nat
  | 0, _ => 0
  | k + 1, i => (if T i = 58 then 1 else 0) + az_clF T k (i + 1)
def az_cn (T : Nat → Nat) (fr to : Nat) : Nat := if to ≤ fr then 0 else 1 + az_clF T (to - fr) fr
theorem az_cn_0 {T : Nat → Nat} {fr to : Nat} (h : to ≤ fr) : az_cn T fr to = 0 := by unfold az_cn; rw [if_pos h]
theorem az_cn_1 {T : Nat → Nat} {fr to : Nat} (h : fr < to) : az_cn T fr to = 1 + az_clF T (to - fr) fr := by unfold az_cn; rw [if_neg (Nat.not_le.mpr h)]
theorem az_cl_hit {T : Nat → Nat} {i to : Nat} (h : i < to) (e : T i = 58) : az_clF T (to - i) i = 1 + az_clF T (to - (i + 1)) (i + 1) := by
  rw [show to - i = (to - (i + 1)) + 1 by omega]
  show (if T i = 58 then 1 else 0) + _ = _
  rw [if_pos e]
theorem az_cl_miss {T : Nat → Nat} {i to : Nat} (h : i < to) (e : T i ≠ 58) : az_clF T (to - i) i = az_clF T (to - (i + 1)) (i + 1) := by
  rw [show to - i = (to - (i + 1)) + 1 by omega]
  show (if T i = 58 then 1 else 0) + _ = _
  rw [if_neg e]
  omega
theorem az_cl_le (T : Nat → Nat) : ∀ k i, az_clF T k i ≤ k
  | 0, _ => Nat.le_refl _
  | k + 1, i => by
    have := az_cl_le T k (i + 1)
    show (if T i = 58 then 1 else 0) + az_clF T k (i + 1) ≤ k + 1
    split <;> omega
theorem az_cn_le {T : Nat → Nat} {fr to : Nat} : az_cn T fr to ≤ to + 1 := by
  by_cases h : to ≤ fr
  · rw [az_cn_0 h]; omega
  · rw [az_cn_1 (by omega)]
    have := az_cl_le T (to - fr) fr
    omega
/-! a hexadecimal part -/
def az_hxF (T : Nat → Nat) : Nat → Nat → Nat → Option Nat
  | 0, _, v => some v
  | k + 1, i, v => match az_hd (T i) with
    | none => none
    | some d => az_hxF T k (i + 1) (v * 16 + d)
def az_hx (T : Nat → Nat) (fr to : Nat) : Option Nat := if to ≤ fr ∨ fr + 4 < to then none else az_hxF T (to - fr) fr 0
theorem az_hx_n {T : Nat → Nat} {fr to : Nat} (h : to ≤ fr ∨ fr + 4 < to) : az_hx T fr to = none := by unfold az_hx; rw [if_pos h]
theorem az_hx_s {T : Nat → Nat} {fr to : Nat} (h : fr < to) (h2 : to ≤ fr + 4) : az_hx T fr to = az_hxF T (to - fr) fr 0 := by unfold az_hx; rw [if_neg (by omega)]
theorem az_hx_bad {T : Nat → Nat} {i to v : Nat} (h : i < to) (e : az_hd (T i) = none) : az_hxF T (to - i) i v = none := by
  rw [show to - i = (to - (i + 1)) + 1 by omega]
  show (match az_hd (T i) with | none => none | some d => az_hxF T (to - (i + 1)) (i + 1) (v * 16 + d)) = none
  rw [e]
theorem az_hx_step {T : Nat → Nat} {i to v d : Nat} (h : i < to) (e : az_hd (T i) = some d) : az_hxF T (to - i) i v = az_hxF T (to - (i + 1)) (i + 1) (v * 16 + d) := by
  rw [show to - i = (to - (i + 1)) + 1 by omega]
  show (match az_hd (T i) with | none => none | some d => az_hxF T (to - (i + 1)) (i + 1) (v * 16 + d)) = _
  rw [e]
theorem az_p16 : ∀ {k : Nat}, k < 4 → 16 ^ k ≤ 4096
  | 0, _ => by decide
  | 1, _ => by decide
  | 2, _ => by decide
  | 3, _ => by decide
  | _ + 4, h => by omega
theorem az_p16s {v d k : Nat} (hv : v < 16 ^ k) (hd : d < 16) : v * 16 + d < 16 ^ (k + 1) := by
  have := Nat.pow_succ 16 k
  omega
/-! a decimal number -/
def az_dcF (T : Nat → Nat) (most : Nat) : Nat → Nat → Nat → Option Nat
  | 0, _, v => some v
  | k + 1, i, v => if 48 ≤ T i ∧ T i ≤ 57 then (if most < v * 10 + (T i - 48) then none else az_dcF T most k (i + 1) (v * 10 + (T i - 48))) else none
def az_dc (T : Nat → Nat) (fr to most : Nat) : Option Nat := if to ≤ fr ∨ (T fr = 48 ∧ 1 < to - fr) then none else az_dcF T most (to - fr) fr 0
theorem az_dc_n {T : Nat → Nat} {fr to most : Nat} (h : to ≤ fr ∨ (T fr = 48 ∧ 1 < to - fr)) : az_dc T fr to most = none := by unfold az_dc; rw [if_pos h]
theorem az_dc_s {T : Nat → Nat} {fr to most : Nat} (h : ¬ (to ≤ fr ∨ (T fr = 48 ∧ 1 < to - fr))) : az_dc T fr to most = az_dcF T most (to - fr) fr 0 := by unfold az_dc; rw [if_neg h]
theorem az_dc_bad {T : Nat → Nat} {most i to v : Nat} (h : i < to) (e : ¬ (48 ≤ T i ∧ T i ≤ 57)) : az_dcF T most (to - i) i v = none := by
  rw [show to - i = (to - (i + 1)) + 1 by omega]
  show (if 48 ≤ T i ∧ T i ≤ 57 then _ else none) = _
  rw [if_neg e]
theorem az_dc_big {T : Nat → Nat} {most i to v : Nat} (h : i < to) (e : 48 ≤ T i ∧ T i ≤ 57) (hm : most < v * 10 + (T i - 48)) : az_dcF T most (to - i) i v = none := by
  rw [show to - i = (to - (i + 1)) + 1 by omega]
  show (if 48 ≤ T i ∧ T i ≤ 57 then (if most < v * 10 + (T i - 48) then none else _) else none) = _
  rw [if_pos e, if_pos hm]
theorem az_dc_step {T : Nat → Nat} {most i to v : Nat} (h : i < to) (e : 48 ≤ T i ∧ T i ≤ 57) (hm : v * 10 + (T i - 48) ≤ most) : az_dcF T most (to - i) i v = az_dcF T most (to - (i + 1)) (i + 1) (v * 10 + (T i - 48)) := by
  rw [show to - i = (to - (i + 1)) + 1 by omega]
  show (if 48 ≤ T i ∧ T i ≤ 57 then (if most < v * 10 + (T i - 48) then none else _) else none) = _
  rw [if_pos e, if_neg (Nat.not_lt.mpr hm)]
theorem az_nor (a b : Nat) : nI a ||| nI b = nI (a ||| b) := by
  apply Int32.toBitVec_inj.1
  show BitVec.ofNat 32 a ||| BitVec.ofNat 32 b = BitVec.ofNat 32 (a ||| b)
  apply BitVec.eq_of_getLsbD_eq
  intro i hi
  simp [hi]
theorem az_or16 {v d : Nat} (h : d < 16) : nI (v * 16) ||| nI d = nI (v * 16 + d) := by
  rw [az_nor]
  congr 1
  have := Nat.two_pow_add_eq_or_of_lt (i := 4) h v
  rw [Nat.mul_comm v 16]
  exact this.symm
