/-! the reference: its decimal numbers -/
def az_mt (F : Nat → Int32) (T : Nat → Nat) (n : Nat) : Prop := ∀ j, j < n → F j = nI (T j) ∧ T j < 256
def az_dmF (T : Nat → Nat) : Nat → Nat → Nat → Option Nat
  | 0, _, v => some v
  | k + 1, i, v => if 48 ≤ T i ∧ T i ≤ 57 then az_dmF T k (i + 1) (10 * v + T i - 48) else none
theorem az_dmF_ge (T : Nat → Nat) : ∀ (k i v r : Nat), az_dmF T k i v = some r → v ≤ r
  | 0, i, v, r, h => by cases h; exact Nat.le_refl _
  | k + 1, i, v, r, h => by
    change (if 48 ≤ T i ∧ T i ≤ 57 then az_dmF T k (i + 1) (10 * v + T i - 48) else none) = some r at h
    split at h
    · have := az_dmF_ge T k (i + 1) _ r h
      omega
    · cases h
def az_cap (most : Nat) (o : Option Nat) : Option Nat := match o with
  | none => none
  | some r => if most < r then none else some r
theorem az_dm_dc (T : Nat → Nat) (most : Nat) : ∀ (k i v : Nat), v ≤ most → az_dcF T most k i v = az_cap most (az_dmF T k i v)
  | 0, i, v, h => by
    show some v = (if most < v then none else some v)
    rw [if_neg (Nat.not_lt.mpr h)]
  | k + 1, i, v, h => by
    show (if 48 ≤ T i ∧ T i ≤ 57 then (if most < v * 10 + (T i - 48) then none else az_dcF T most k (i + 1) (v * 10 + (T i - 48))) else none) = az_cap most (if 48 ≤ T i ∧ T i ≤ 57 then az_dmF T k (i + 1) (10 * v + T i - 48) else none)
    by_cases q : 48 ≤ T i ∧ T i ≤ 57
    · rw [if_pos q, if_pos q, show 10 * v + T i - 48 = v * 10 + (T i - 48) by omega]
      by_cases q2 : most < v * 10 + (T i - 48)
      · rw [if_pos q2]
        rcases hr : az_dmF T k (i + 1) (v * 10 + (T i - 48)) with _ | r
        · rfl
        · have := az_dmF_ge T k _ _ r hr
          show none = (if most < r then none else some r)
          rw [if_pos (by omega)]
      · rw [if_neg q2]
        exact az_dm_dc T most k (i + 1) _ (by omega)
    · rw [if_neg q, if_neg q]
      rfl
theorem az_dcF_ge (T : Nat → Nat) (most : Nat) : ∀ (k i v r : Nat), az_dcF T most k i v = some r → v * 10 ^ k ≤ r
  | 0, i, v, r, h => by cases h; rw [Nat.pow_zero, Nat.mul_one]; exact Nat.le_refl _
  | k + 1, i, v, r, h => by
    change (if 48 ≤ T i ∧ T i ≤ 57 then (if most < v * 10 + (T i - 48) then none else az_dcF T most k (i + 1) (v * 10 + (T i - 48))) else none) = some r at h
    split at h
    · split at h
      · cases h
      · have h1 := az_dcF_ge T most k _ _ r h
        have h2 : v * 10 ^ (k + 1) ≤ (v * 10 + (T i - 48)) * 10 ^ k := by
          rw [Nat.pow_succ, Nat.mul_comm (10 ^ k) 10, ← Nat.mul_assoc]
          exact Nat.mul_le_mul_right _ (by omega)
        exact Nat.le_trans h2 h1
    · cases h
/-- four digits and more, the first not 0: beyond what is wanted -/
theorem az_dc_long {T : Nat → Nat} {fr to most : Nat} (hm : most < 1000) (h : 3 < to - fr) : az_dc T fr to most = none := by
  by_cases q : to ≤ fr ∨ (T fr = 48 ∧ 1 < to - fr)
  · exact az_dc_n q
  · rw [az_dc_s q]
    rcases hr : az_dcF T most (to - fr) fr 0 with _ | r
    · rfl
    · have h1 := az_dcF_le T most _ _ _ _ (Nat.zero_le _) hr
      rw [show to - fr = (to - fr - 1) + 1 by omega] at hr
      change (if 48 ≤ T fr ∧ T fr ≤ 57 then (if most < 0 * 10 + (T fr - 48) then none else az_dcF T most (to - fr - 1) (fr + 1) (0 * 10 + (T fr - 48))) else none) = some r at hr
      split at hr
      · split at hr
        · cases hr
        · have h2 := az_dcF_ge T most _ _ _ r hr
          have h3 : 10 ^ 3 ≤ 10 ^ (to - fr - 1) := Nat.pow_le_pow_right (by decide) (by omega)
          have h4 : 1 * 10 ^ (to - fr - 1) ≤ (0 * 10 + (T fr - 48)) * 10 ^ (to - fr - 1) := Nat.mul_le_mul_right _ (by omega)
          omega
      · cases hr
theorem az_dc_m {T : Nat → Nat} {fr to most : Nat} (h1 : fr < to) (h2 : ¬ (T fr = 48 ∧ 1 < to - fr)) : az_dc T fr to most = az_cap most (az_dmF T (to - fr) fr 0) := by
  rw [az_dc_s (by omega)]
  exact az_dm_dc T most _ _ _ (Nat.zero_le _)
theorem az_dm_bad {T : Nat → Nat} {i to v : Nat} (h : i < to) (e : ¬ (48 ≤ T i ∧ T i ≤ 57)) : az_dmF T (to - i) i v = none := by
  rw [show to - i = (to - (i + 1)) + 1 by omega]
  show (if 48 ≤ T i ∧ T i ≤ 57 then _ else none) = _
  rw [if_neg e]
theorem az_dm_step {T : Nat → Nat} {i to v : Nat} (h : i < to) (e : 48 ≤ T i ∧ T i ≤ 57) : az_dmF T (to - i) i v = az_dmF T (to - (i + 1)) (i + 1) (10 * v + T i - 48) := by
  rw [show to - i = (to - (i + 1)) + 1 by omega]
  show (if 48 ≤ T i ∧ T i ≤ 57 then az_dmF T (to - (i + 1)) (i + 1) (10 * v + T i - 48) else none) = _
  rw [if_pos e]
theorem az_p10 : ∀ {k : Nat}, k ≤ 3 → 10 ^ k ≤ 1000
  | 0, _ => by decide
  | 1, _ => by decide
  | 2, _ => by decide
  | 3, _ => by decide
  | _ + 4, h => by omega
theorem az_p10s {v c k : Nat} (hv : v < 10 ^ k) (hc : c ≤ 57) (h48 : 48 ≤ c) : 10 * v + c - 48 < 10 ^ (k + 1) := by
  have := Nat.pow_succ 10 k
  omega
/-! family 6 by lists -/
def az_rl (T : Nat → Nat) (n to : Nat) : Nat → Nat → Option (List Nat)
  | 0, _ => some []
  | k + 1, i => match az_hx T i (min (az_pl T n 58 i) to) with
    | none => none
    | some v => (az_rl T n to k (min (az_pl T n 58 i) to + 1)).map (fun L => v :: L)
def az_ac : Nat → Nat → List Nat → Nat
  | V, _, [] => V
  | V, j, v :: L => az_ac (az_sp V j v) (j + 1) L
theorem az_rv_rl (T : Nat → Nat) (n to : Nat) : ∀ (k i j V : Nat), az_rv T n to k i j V = (az_rl T n to k i).map (fun L => az_ac V j L)
  | 0, i, j, V => rfl
  | k + 1, i, j, V => by
    show (match az_hx T i (min (az_pl T n 58 i) to) with | none => none | some v => az_rv T n to k (min (az_pl T n 58 i) to + 1) (j + 1) (az_sp V j v)) = (match az_hx T i (min (az_pl T n 58 i) to) with | none => none | some v => (az_rl T n to k (min (az_pl T n 58 i) to + 1)).map (fun L => v :: L)).map (fun L => az_ac V j L)
    rcases az_hx T i (min (az_pl T n 58 i) to) with _ | v
    · rfl
    · show az_rv T n to k (min (az_pl T n 58 i) to + 1) (j + 1) (az_sp V j v) = _
      rw [az_rv_rl T n to k _ (j + 1) (az_sp V j v)]
      rcases az_rl T n to k (min (az_pl T n 58 i) to + 1) with _ | L
      · rfl
      · rfl
theorem az_rl_len {T : Nat → Nat} {n to : Nat} : ∀ {k i : Nat} {L : List Nat}, az_rl T n to k i = some L → L.length = k
  | 0, i, L, h => by cases h; rfl
  | k + 1, i, L, h => by
    change (match az_hx T i (min (az_pl T n 58 i) to) with | none => none | some v => (az_rl T n to k (min (az_pl T n 58 i) to + 1)).map (fun L => v :: L)) = some L at h
    rcases hx : az_hx T i (min (az_pl T n 58 i) to) with _ | v
    · rw [hx] at h; cases h
    · rw [hx] at h
      rcases hr : az_rl T n to k (min (az_pl T n 58 i) to + 1) with _ | L'
      · rw [hr] at h; cases h
      · rw [hr] at h
        cases h
        show L'.length + 1 = k + 1
        rw [az_rl_len hr]
theorem az_rl_none {T : Nat → Nat} {n to k i : Nat} (h : 0 < k) (e : az_hx T i (min (az_pl T n 58 i) to) = none) : az_rl T n to k i = none := by
  rw [show k = (k - 1) + 1 by omega]
  show (match az_hx T i (min (az_pl T n 58 i) to) with | none => none | some v => _) = none
  rw [e]
theorem az_rl_some {T : Nat → Nat} {n to k i v : Nat} (e : az_hx T i (min (az_pl T n 58 i) to) = some v) : az_rl T n to (k + 1) i = (az_rl T n to k (min (az_pl T n 58 i) to + 1)).map (fun L => v :: L) := by
  show (match az_hx T i (min (az_pl T n 58 i) to) with | none => none | some v => (az_rl T n to k (min (az_pl T n 58 i) to + 1)).map (fun L => v :: L)) = _
  rw [e]
/-- all parts, and where the gap is: what is left to read from place i with the parts L before -/
def az_c2 (T : Nat → Nat) (n : Nat) (g i : Nat) (L : List Nat) : Option (List Nat × Option Nat) := if L.length + az_cn T i n < 8 then (az_rl T n n (az_cn T i n) i).map (fun B => (L ++ B, some g)) else none
def az_c1 (T : Nat → Nat) (n i : Nat) (L : List Nat) : Option (List Nat × Option Nat) :=
  if (az_gp T n i < n ∧ L.length + az_cn T i (az_gp T n i) + az_cn T (az_gp T n i + 2) n < 8) ∨ (¬ az_gp T n i < n ∧ L.length + az_cn T i (az_gp T n i) = 8) then
    match az_rl T n (az_gp T n i) (az_cn T i (az_gp T n i)) i with
    | none => none
    | some A => (az_rl T n n (az_cn T (az_gp T n i + 2) n) (az_gp T n i + 2)).map (fun B => (L ++ A ++ B, if az_gp T n i < n then some (L ++ A).length else none))
  else none
def az_val (q : List Nat × Option Nat) : Nat := match q.2 with
  | none => az_ac 0 0 q.1
  | some g => az_ac (az_ac 0 0 (q.1.take g)) (8 - (q.1.length - g)) (q.1.drop g)
/-- the two ways to say family 6 -/
theorem az_six_c1 (T : Nat → Nat) (n : Nat) : az_six T n = (az_c1 T n 0 []).map az_val := by
  unfold az_six az_c1
  simp only [List.length_nil, Nat.zero_add, List.nil_append]
  split
  · rename_i hc
    rw [az_rv_rl]
    rcases hA : az_rl T n (az_gp T n 0) (az_cn T 0 (az_gp T n 0)) 0 with _ | A
    · rfl
    · show az_rv T n n (az_cn T (az_gp T n 0 + 2) n) (az_gp T n 0 + 2) (8 - az_cn T (az_gp T n 0 + 2) n) (az_ac 0 0 A) = _
      rw [az_rv_rl]
      rcases hB : az_rl T n n (az_cn T (az_gp T n 0 + 2) n) (az_gp T n 0 + 2) with _ | B
      · rfl
      · show some (az_ac (az_ac 0 0 A) (8 - az_cn T (az_gp T n 0 + 2) n) B) = some (az_val (A ++ B, if az_gp T n 0 < n then some A.length else none))
        have hl := az_rl_len hB
        congr 1
        by_cases hg : az_gp T n 0 < n
        · rw [if_pos hg]
          show _ = az_ac (az_ac 0 0 ((A ++ B).take A.length)) (8 - ((A ++ B).length - A.length)) ((A ++ B).drop A.length)
          rw [List.take_left, List.drop_left, List.length_append, Nat.add_sub_cancel_left, hl]
        · rw [if_neg hg]
          have h0 : az_cn T (az_gp T n 0 + 2) n = 0 := az_cn_0 (by omega)
          rw [h0] at hl
          have hB0 : B = [] := List.eq_nil_of_length_eq_zero hl
          subst hB0
          rw [List.append_nil]
          rfl
  · rfl
/-! step by step -/
theorem az_gp_eq {T : Nat → Nat} {n i p : Nat} (h1 : i ≤ p) (h2 : p ≤ n) (h3 : ∀ j, i ≤ j → j < p → ¬ (T j = 58 ∧ j + 1 < n ∧ T (j + 1) = 58)) (h4 : p < n → T p = 58 ∧ p + 1 < n ∧ T (p + 1) = 58) : az_gp T n i = p := by
  have hi : i ≤ n := Nat.le_trans h1 h2
  obtain ⟨g1, g2, g3, g4⟩ := az_gp_spec (T := T) (n := n) (n - i) i hi rfl
  rcases Nat.lt_trichotomy (az_gp T n i) p with q | q | q
  · exact absurd (g4 (by omega)) (h3 _ g1 q)
  · exact q
  · exact absurd (h4 (by omega)) (g3 p h1 q)
theorem az_pg {T : Nat → Nat} {n i : Nat} (hi : i ≤ n) : az_pl T n 58 i ≤ az_gp T n i := by
  obtain ⟨g1, g2, g3, g4⟩ := az_gp_spec (T := T) (n := n) (n - i) i hi rfl
  rcases Nat.lt_or_ge (az_gp T n i) (az_pl T n 58 i) with q | q
  · have := az_pl_le (T := T) (n := n) (mk := 58) (i := i)
    exact absurd (g4 (by omega)).1 (az_pl_ne hi g1 q)
  · exact q
theorem az_cl_none {T : Nat → Nat} : ∀ (k i : Nat), (∀ j, i ≤ j → j < i + k → T j ≠ 58) → az_clF T k i = 0
  | 0, i, _ => rfl
  | k + 1, i, h => by
    show (if T i = 58 then 1 else 0) + az_clF T k (i + 1) = 0
    rw [if_neg (h i (by omega) (by omega)), az_cl_none k (i + 1) (fun j h1 h2 => h j (by omega) (by omega))]
theorem az_cl_at {T : Nat → Nat} : ∀ (k i c to : Nat), k = c - i → i ≤ c → c < to → (∀ j, i ≤ j → j < c → T j ≠ 58) → T c = 58 → az_clF T (to - i) i = 1 + az_clF T (to - (c + 1)) (c + 1)
  | 0, i, c, to, hk, h1, h2, h3, h4 => by
    have hic : i = c := by omega
    subst hic
    exact az_cl_hit h2 h4
  | k + 1, i, c, to, hk, h1, h2, h3, h4 => by
    rw [az_cl_miss (by omega) (h3 i (by omega) (by omega))]
    exact az_cl_at k (i + 1) c to (by omega) (by omega) h2 (fun j q1 q2 => h3 j (by omega) q2) h4
theorem az_cn_one {T : Nat → Nat} {n i to : Nat} (hi : i < to) (hto : to ≤ n) (hc : to ≤ az_pl T n 58 i) : az_cn T i to = 1 := by
  rw [az_cn_1 hi, az_cl_none _ _ (fun j h1 h2 => az_pl_ne (T := T) (n := n) (mk := 58) (i := i) (by omega) h1 (by omega))]
theorem az_cn_more {T : Nat → Nat} {n i to : Nat} (hi : i ≤ n) (hto : to ≤ n) (hc : az_pl T n 58 i + 1 < to) : az_cn T i to = az_cn T (az_pl T n 58 i + 1) to + 1 := by
  have h1 := az_pl_ge (T := T) (n := n) (mk := 58) hi
  rw [az_cn_1 (show i < to by omega), az_cn_1 hc, az_cl_at (T := T) _ i (az_pl T n 58 i) to rfl h1 (by omega) (fun j q1 q2 => az_pl_ne hi q1 q2) (az_pl_at hi (by omega))]
  omega
theorem az_cn_two {T : Nat → Nat} {n i to : Nat} (hi : i ≤ n) (hto : to ≤ n) (hc : az_pl T n 58 i + 1 = to) : az_cn T i to = 2 := by
  have h1 := az_pl_ge (T := T) (n := n) (mk := 58) hi
  rw [az_cn_1 (show i < to by omega), az_cl_at (T := T) _ i (az_pl T n 58 i) to rfl h1 (by omega) (fun j q1 q2 => az_pl_ne hi q1 q2) (az_pl_at hi (by omega)), show to - (az_pl T n 58 i + 1) = 0 by omega]
  rfl
theorem az_hx_self (T : Nat → Nat) (i c : Nat) (h : c ≤ i) : az_hx T i c = none := az_hx_n (Or.inl h)
section C1
variable {T : Nat → Nat} {n i v : Nat} {L : List Nat}
theorem ay_1bad (hi : i < n) (hg : i < az_gp T n i) (e : az_hx T i (az_pl T n 58 i) = none) : az_c1 T n i L = none := by
  have h1 := az_pg (T := T) (n := n) (Nat.le_of_lt hi)
  have h2 : 0 < az_cn T i (az_gp T n i) := by rw [az_cn_1 hg]; omega
  unfold az_c1
  rw [az_rl_none h2 (by rw [Nat.min_eq_left h1]; exact e)]
  split <;> rfl
theorem ay_1full (hg : i < az_gp T n i) (h : L.length = 8) : az_c1 T n i L = none := by
  have h2 : 0 < az_cn T i (az_gp T n i) := by rw [az_cn_1 hg]; omega
  unfold az_c1
  rw [if_neg (by omega)]
theorem ay_1end (hi : i < n) (hc : az_pl T n 58 i = n) (e : az_hx T i (az_pl T n 58 i) = some v) : az_c1 T n i L = if L.length + 1 = 8 then some (L ++ [v], none) else none := by
  have h1 := az_pg (T := T) (n := n) (Nat.le_of_lt hi)
  have h2 := az_gp_le (T := T) (n := n) (i := i)
  have hg : az_gp T n i = n := by omega
  have h3 : az_cn T i n = 1 := az_cn_one hi (Nat.le_refl _) (by omega)
  have h4 : az_cn T (n + 2) n = 0 := az_cn_0 (by omega)
  have h5 : az_rl T n n 1 i = some [v] := by
    rw [az_rl_some (k := 0) (by rw [Nat.min_eq_left (by omega)]; exact e)]
    rfl
  unfold az_c1
  rw [hg, h3, h4, h5]
  by_cases q : L.length + 1 = 8
  · rw [if_pos (Or.inr ⟨by omega, q⟩), if_pos q]
    show some (L ++ [v] ++ [], if n < n then _ else none) = _
    rw [if_neg (Nat.lt_irrefl n), List.append_nil]
  · rw [if_neg (by omega), if_neg q]
theorem ay_1last (hi : i < n) (hc : az_pl T n 58 i + 1 = n) (e : az_hx T i (az_pl T n 58 i) = some v) : az_c1 T n i L = none := by
  have h1 := az_pg (T := T) (n := n) (Nat.le_of_lt hi)
  obtain ⟨g1, g2, g3, g4⟩ := az_gp_spec (T := T) (n := n) (n - i) i (Nat.le_of_lt hi) rfl
  have hg : az_gp T n i = n := by
    rcases Nat.lt_or_ge (az_gp T n i) n with q | q
    · have := (g4 q).2.1
      omega
    · omega
  have h3 : az_cn T i n = 2 := az_cn_two (Nat.le_of_lt hi) (Nat.le_refl _) hc
  have h5 : az_rl T n n 2 i = none := by
    rw [az_rl_some (k := 1) (by rw [Nat.min_eq_left (by omega)]; exact e), az_rl_none (by omega) (az_hx_self T _ _ (by rw [Nat.min_eq_left (a := az_pl T n 58 i) (by omega), az_pl_end (by omega), Nat.min_eq_left (Nat.le_refl n)]; omega))]
    rfl
  unfold az_c1
  rw [hg, h3, h5]
  split <;> rfl
theorem ay_1next (hi : i < n) (hc : az_pl T n 58 i + 1 < n) (hT : T (az_pl T n 58 i + 1) ≠ 58) (e : az_hx T i (az_pl T n 58 i) = some v) : az_c1 T n i L = az_c1 T n (az_pl T n 58 i + 1) (L ++ [v]) := by
  have hil := az_pl_ge (T := T) (n := n) (mk := 58) (Nat.le_of_lt hi)
  obtain ⟨g1, g2, g3, g4⟩ := az_gp_spec (T := T) (n := n) (n - (az_pl T n 58 i + 1)) (az_pl T n 58 i + 1) (by omega) rfl
  have hgg : az_pl T n 58 i + 1 < az_gp T n (az_pl T n 58 i + 1) := by
    rcases Nat.lt_or_ge (az_pl T n 58 i + 1) (az_gp T n (az_pl T n 58 i + 1)) with q | q
    · exact q
    · have hq : az_gp T n (az_pl T n 58 i + 1) = az_pl T n 58 i + 1 := by omega
      have := (g4 (by omega)).1
      rw [hq] at this
      exact absurd this hT
  have hg : az_gp T n i = az_gp T n (az_pl T n 58 i + 1) := by
    refine az_gp_eq (by omega) g2 (fun j q1 q2 q3 => ?_) g4
    rcases Nat.lt_trichotomy j (az_pl T n 58 i) with q | q | q
    · exact az_pl_ne (Nat.le_of_lt hi) q1 q q3.1
    · rw [q] at q3; exact hT q3.2.2
    · exact g3 j (by omega) q2 q3
  generalize hgd : az_gp T n (az_pl T n 58 i + 1) = g at g1 g2 g3 g4 hgg hg
  have h3 := az_cn_more (T := T) (n := n) (i := i) (to := g) (Nat.le_of_lt hi) g2 hgg
  have h5 : az_rl T n g (az_cn T (az_pl T n 58 i + 1) g + 1) i = (az_rl T n g (az_cn T (az_pl T n 58 i + 1) g) (az_pl T n 58 i + 1)).map (fun L => v :: L) := by
    have hm : min (az_pl T n 58 i) g = az_pl T n 58 i := Nat.min_eq_left (by omega)
    rw [az_rl_some (v := v) (by rw [hm]; exact e), hm]
  unfold az_c1
  rw [hg, hgd, h3, h5, List.length_append]
  have hcond : ((g < n ∧ L.length + (az_cn T (az_pl T n 58 i + 1) g + 1) + az_cn T (g + 2) n < 8) ∨ (¬ g < n ∧ L.length + (az_cn T (az_pl T n 58 i + 1) g + 1) = 8)) ↔ ((g < n ∧ L.length + [v].length + az_cn T (az_pl T n 58 i + 1) g + az_cn T (g + 2) n < 8) ∨ (¬ g < n ∧ L.length + [v].length + az_cn T (az_pl T n 58 i + 1) g = 8)) := by
    have : [v].length = 1 := rfl
    omega
  by_cases q : (g < n ∧ L.length + (az_cn T (az_pl T n 58 i + 1) g + 1) + az_cn T (g + 2) n < 8) ∨ (¬ g < n ∧ L.length + (az_cn T (az_pl T n 58 i + 1) g + 1) = 8)
  · rw [if_pos q, if_pos (hcond.mp q)]
    rcases az_rl T n g (az_cn T (az_pl T n 58 i + 1) g) (az_pl T n 58 i + 1) with _ | A
    · rfl
    · show (az_rl T n n (az_cn T (g + 2) n) (g + 2)).map (fun B => (L ++ (v :: A) ++ B, if g < n then some (L ++ (v :: A)).length else none)) = (az_rl T n n (az_cn T (g + 2) n) (g + 2)).map (fun B => (L ++ [v] ++ A ++ B, if g < n then some (L ++ [v] ++ A).length else none))
      rw [show L ++ (v :: A) = L ++ [v] ++ A by simp]
  · rw [if_neg q, if_neg (fun z => q (hcond.mpr z))]
theorem ay_1gap (hi : i < n) (hc : az_pl T n 58 i + 1 < n) (hT : T (az_pl T n 58 i + 1) = 58) (e : az_hx T i (az_pl T n 58 i) = some v) : az_c1 T n i L = az_c2 T n (L ++ [v]).length (az_pl T n 58 i + 2) (L ++ [v]) := by
  have hil := az_pl_ge (T := T) (n := n) (mk := 58) (Nat.le_of_lt hi)
  have hlt : i < az_pl T n 58 i := by
    rcases Nat.lt_or_ge i (az_pl T n 58 i) with q | q
    · exact q
    · rw [az_hx_self T i _ q] at e; cases e
  have hg : az_gp T n i = az_pl T n 58 i := az_gp_eq hil (by omega) (fun j q1 q2 q3 => az_pl_ne (Nat.le_of_lt hi) q1 q2 q3.1) (fun _ => ⟨az_pl_at (Nat.le_of_lt hi) (by omega), hc, hT⟩)
  have h3 : az_cn T i (az_pl T n 58 i) = 1 := az_cn_one (n := n) hlt (by omega) (Nat.le_refl _)
  have h5 : az_rl T n (az_pl T n 58 i) 1 i = some [v] := by
    rw [az_rl_some (k := 0) (by rw [Nat.min_eq_left (Nat.le_refl _)]; exact e)]
    rfl
  unfold az_c1 az_c2
  rw [hg, h3, h5, List.length_append]
  have h1 : [v].length = 1 := rfl
  by_cases q : L.length + 1 + az_cn T (az_pl T n 58 i + 2) n < 8
  · rw [if_pos (Or.inl ⟨by omega, q⟩), if_pos (by omega)]
    show (az_rl T n n _ _).map (fun B => (L ++ [v] ++ B, if az_pl T n 58 i < n then some (L ++ [v]).length else none)) = _
    rw [if_pos (show az_pl T n 58 i < n by omega), List.length_append]
  · rw [if_neg (by omega), if_neg (by omega)]
theorem ay_2done {g : Nat} (hi : n ≤ i) : az_c2 T n g i L = if L.length < 8 then some (L, some g) else none := by
  unfold az_c2
  rw [az_cn_0 hi, Nat.add_zero]
  split
  · show some (L ++ [], some g) = _
    rw [List.append_nil]
  · rfl
theorem ay_2bad {g : Nat} (hi : i < n) (e : az_hx T i (az_pl T n 58 i) = none) : az_c2 T n g i L = none := by
  have h2 : 0 < az_cn T i n := by rw [az_cn_1 hi]; omega
  unfold az_c2
  rw [az_rl_none h2 (by rw [Nat.min_eq_left az_pl_le]; exact e)]
  split <;> rfl
theorem ay_2full {g : Nat} (h : L.length = 8) : az_c2 T n g i L = none := by
  unfold az_c2
  rw [if_neg (by omega)]
theorem ay_2end {g : Nat} (hi : i < n) (hc : az_pl T n 58 i = n) (e : az_hx T i (az_pl T n 58 i) = some v) : az_c2 T n g i L = if L.length + 1 < 8 then some (L ++ [v], some g) else none := by
  have h3 : az_cn T i n = 1 := az_cn_one hi (Nat.le_refl _) (by omega)
  have h5 : az_rl T n n 1 i = some [v] := by
    rw [az_rl_some (k := 0) (by rw [Nat.min_eq_left (by omega)]; exact e)]
    rfl
  unfold az_c2
  rw [h3, h5]
  rfl
theorem ay_2last {g : Nat} (hi : i < n) (hc : az_pl T n 58 i + 1 = n) (e : az_hx T i (az_pl T n 58 i) = some v) : az_c2 T n g i L = none := by
  have h3 : az_cn T i n = 2 := az_cn_two (Nat.le_of_lt hi) (Nat.le_refl _) hc
  have h5 : az_rl T n n 2 i = none := by
    rw [az_rl_some (k := 1) (by rw [Nat.min_eq_left (by omega)]; exact e), az_rl_none (by omega) (az_hx_self T _ _ (by rw [Nat.min_eq_left (a := az_pl T n 58 i) (by omega), az_pl_end (by omega), Nat.min_eq_left (Nat.le_refl n)]; omega))]
    rfl
  unfold az_c2
  rw [h3, h5]
  split <;> rfl
theorem ay_2gap {g : Nat} (hi : i < n) (hc : az_pl T n 58 i + 1 < n) (hT : T (az_pl T n 58 i + 1) = 58) (e : az_hx T i (az_pl T n 58 i) = some v) : az_c2 T n g i L = none := by
  have h3 := az_cn_more (T := T) (n := n) (i := i) (to := n) (Nat.le_of_lt hi) (Nat.le_refl _) hc
  have h4 : 0 < az_cn T (az_pl T n 58 i + 1) n := by rw [az_cn_1 hc]; omega
  have h5 : az_rl T n n (az_cn T (az_pl T n 58 i + 1) n + 1) i = none := by
    rw [az_rl_some (by rw [Nat.min_eq_left (by omega)]; exact e), az_rl_none h4 (az_hx_self T _ _ (by rw [Nat.min_eq_left (a := az_pl T n 58 i) (by omega), az_pl_hit hc hT, Nat.min_eq_left (by omega)]; omega))]
    rfl
  unfold az_c2
  rw [h3, h5]
  split <;> rfl
theorem ay_2next {g : Nat} (hi : i < n) (hc : az_pl T n 58 i + 1 < n) (e : az_hx T i (az_pl T n 58 i) = some v) : az_c2 T n g i L = az_c2 T n g (az_pl T n 58 i + 1) (L ++ [v]) := by
  have h3 := az_cn_more (T := T) (n := n) (i := i) (to := n) (Nat.le_of_lt hi) (Nat.le_refl _) hc
  have hm : min (az_pl T n 58 i) n = az_pl T n 58 i := Nat.min_eq_left (by omega)
  have h5 : az_rl T n n (az_cn T (az_pl T n 58 i + 1) n + 1) i = (az_rl T n n (az_cn T (az_pl T n 58 i + 1) n) (az_pl T n 58 i + 1)).map (fun L => v :: L) := by
    rw [az_rl_some (v := v) (by rw [hm]; exact e), hm]
  unfold az_c2
  rw [h3, h5, List.length_append]
  have h1 : [v].length = 1 := rfl
  by_cases q : L.length + (az_cn T (az_pl T n 58 i + 1) n + 1) < 8
  · rw [if_pos q, if_pos (by omega)]
    rcases az_rl T n n (az_cn T (az_pl T n 58 i + 1) n) (az_pl T n 58 i + 1) with _ | B
    · rfl
    · show some (L ++ (v :: B), some g) = some (L ++ [v] ++ B, some g)
      rw [show L ++ (v :: B) = L ++ [v] ++ B by simp]
  · rw [if_neg q, if_neg (by omega)]
end C1
/-! digits of a part, one by one -/
def az_hp (T : Nat → Nat) (i j v : Nat) : Prop := (∀ r, az_hxF T (j + r) i 0 = az_hxF T r (i + j) v) ∧ (∀ q, q < j → az_hd (T (i + q)) ≠ none) ∧ v < 16 ^ j
theorem az_hp_0 (T : Nat → Nat) (i : Nat) : az_hp T i 0 0 := ⟨fun r => by rw [Nat.zero_add, Nat.add_zero], fun q h => absurd h (Nat.not_lt_zero q), by decide⟩
theorem az_hp_s {T : Nat → Nat} {i j v d : Nat} (h : az_hp T i j v) (hd : az_hd (T (i + j)) = some d) : az_hp T i (j + 1) (16 * v + d) := by
  refine ⟨fun r => ?_, fun q hq => ?_, ?_⟩
  · rw [show j + 1 + r = j + (r + 1) by omega, h.1 (r + 1)]
    show (match az_hd (T (i + j)) with | none => none | some d => az_hxF T r (i + j + 1) (v * 16 + d)) = _
    rw [hd, Nat.mul_comm 16 v]
    rfl
  · by_cases e : q = j
    · rw [e, hd]; exact fun z => by cases z
    · exact h.2.1 q (by omega)
  · have := az_p16s h.2.2 (az_hd_lt hd)
    omega
theorem az_hp_pl {T : Nat → Nat} {n i j v : Nat} (h : az_hp T i j v) (h1 : i + j ≤ n) (h2 : i + j < n → T (i + j) = 58) : az_pl T n 58 i = i + j := by
  refine az_pl_eq (by omega) h1 (fun q h3 h4 e => ?_) h2
  have := h.2.1 (q - i) (by omega)
  rw [show i + (q - i) = q by omega, e] at this
  exact this az_hd_58
theorem az_hp_ok {T : Nat → Nat} {n i j v : Nat} (h : az_hp T i j v) (h0 : 0 < j) (h4 : j ≤ 4) (h1 : i + j ≤ n) (h2 : i + j < n → T (i + j) = 58) : az_hx T i (az_pl T n 58 i) = some v := by
  rw [az_hp_pl h h1 h2, az_hx_s (by omega) (by omega), show i + j - i = j + 0 by omega, h.1 0]
  rfl
/-- the digits end, and no mark stands there -/
theorem az_hp_no {T : Nat → Nat} {n i j v : Nat} (h : az_hp T i j v) (h4 : j ≤ 4) (h1 : i + j < n) (h2 : T (i + j) ≠ 58) (h3 : j = 4 ∨ az_hd (T (i + j)) = none) : az_hx T i (az_pl T n 58 i) = none := by
  have hi : i ≤ n := by omega
  have hc : i + j < az_pl T n 58 i := by
    rcases Nat.lt_or_ge (i + j) (az_pl T n 58 i) with q | q
    · exact q
    · have hge := az_pl_ge (T := T) (n := n) (mk := 58) hi
      have hat := az_pl_at (T := T) (n := n) (mk := 58) (i := i) hi (by omega)
      rcases Nat.lt_or_eq_of_le q with q2 | q2
      · have := h.2.1 (az_pl T n 58 i - i) (by omega)
        rw [show i + (az_pl T n 58 i - i) = az_pl T n 58 i by omega, hat] at this
        exact absurd az_hd_58 this
      · rw [q2] at hat; exact absurd hat h2
  by_cases hl : i + 4 < az_pl T n 58 i
  · exact az_hx_n (Or.inr hl)
  · rw [az_hx_s (by omega) (by omega), show az_pl T n 58 i - i = j + (az_pl T n 58 i - (i + j)) by omega, h.1]
    exact az_hx_bad hc (by rcases h3 with q | q; exact (by omega); exact (q))
theorem az_hp_none {T : Nat → Nat} {n i : Nat} (h1 : i < n) (h2 : az_hd (T i) = none) : az_hx T i (az_pl T n 58 i) = none := by
  by_cases h : T i = 58
  · rw [az_pl_hit h1 h]; exact az_hx_self T i i (Nat.le_refl _)
  · exact az_hp_no (az_hp_0 T i) (by omega) h1 h (Or.inr h2)
theorem az_mt_push {F : Nat → Int32} {T : Nat → Nat} {n b : Nat} (h : az_mt F T n) (hb : b < 256) : az_mt (upd F n (nI b)) (az_u T n b) (n + 1) := by
  intro j hj
  by_cases q : j = n
  · subst q
    rw [pk_us]
    simp [az_u]
    exact hb
  · rw [pk_un q]
    simp [az_u, q]
    exact h j (by omega)
theorem az_shr {a s : Int32} (k : Nat) (hk : k ≤ 24) (hs : (s.toBitVec.smod 32).toNat = k) : (a >>> s) &&& nI 255 = nI (a.toBitVec.toNat / 2 ^ k % 256) := by
  rw [pk_and (a >>> s) 8 (by decide)]
  congr 1
  rw [Int32.toBitVec_shiftRight]
  show (a.toBitVec.sshiftRight (s.toBitVec.smod 32).toNat).toNat % 2 ^ 8 = _
  rw [hs]
  apply Nat.eq_of_testBit_eq
  intro j
  rw [show (256 : Nat) = 2 ^ 8 from rfl, Nat.testBit_mod_two_pow, Nat.testBit_mod_two_pow, ← Nat.shiftRight_eq_div_pow, Nat.testBit_shiftRight]
  by_cases h : j < 8
  · have e : (a.toBitVec.sshiftRight k).toNat.testBit j = (a.toBitVec.sshiftRight k).getLsbD j := rfl
    rw [e, BitVec.getLsbD_sshiftRight]
    simp [h, show j < 32 by omega, show k + j < 32 by omega, show ¬ 32 ≤ j by omega]
    rfl
  · simp [h]
theorem az_sh24 (a : Int32) : (a >>> (nI 24 &&& 31)) &&& nI 255 = nI (a.toBitVec.toNat / 16777216 % 256) := az_shr 24 (by omega) (by decide)
theorem az_sh16 (a : Int32) : (a >>> (nI 16 &&& 31)) &&& nI 255 = nI (a.toBitVec.toNat / 65536 % 256) := az_shr 16 (by omega) (by decide)
theorem az_sh8 (a : Int32) : (a >>> (nI 8 &&& 31)) &&& nI 255 = nI (a.toBitVec.toNat / 256 % 256) := az_shr 8 (by omega) (by decide)
theorem az_sh0 (a : Int32) : (a >>> (nI 0 &&& 31)) &&& nI 255 = nI (a.toBitVec.toNat % 256) := by
  have h := az_shr (a := a) (s := nI 0 &&& 31) 0 (by omega) (by decide)
  rw [Nat.pow_zero, Nat.div_one] at h
  exact h
/-! parts as they are kept -/
def az_lp (Q : Nat → Int32) (L : List Nat) : Prop := ∀ j, j < L.length → Q j = nI (L.getD j 0) ∧ L.getD j 0 < 65536
theorem az_lp_0 (Q : Nat → Int32) : az_lp Q [] := fun j h => absurd h (Nat.not_lt_zero j)
theorem az_lp_s {Q : Nat → Int32} {L : List Nat} {v : Nat} (h : az_lp Q L) (hv : v < 65536) : az_lp (upd Q L.length (nI v)) (L ++ [v]) := by
  intro j hj
  rw [List.length_append] at hj
  have h1 : [v].length = 1 := rfl
  by_cases q : j = L.length
  · subst q
    rw [pk_us, az_gd_r]
    exact ⟨rfl, hv⟩
  · rw [pk_un q, az_gd_l (by omega)]
    exact h j (by omega)
def az_fd (d : Nat → Nat) : Nat → Nat
  | 0 => 0
  | k + 1 => az_fd d k * 256 + d k
theorem az_fd_c {d e : Nat → Nat} : ∀ {k : Nat}, (∀ j, j < k → d j = e j) → az_fd d k = az_fd e k
  | 0, _ => rfl
  | k + 1, h => by
    show az_fd d k * 256 + d k = az_fd e k * 256 + e k
    rw [az_fd_c (fun j hj => h j (by omega)), h k (Nat.lt_succ_self k)]
def az_fp (Q : Nat → Int32) (m v : Nat) : Prop := ∃ d : Nat → Nat, (∀ j, j < m → Q j = nI (d j) ∧ d j < 256) ∧ v = az_fd d m
theorem az_fp_0 (Q : Nat → Int32) : az_fp Q 0 0 := ⟨fun _ => 0, fun j h => absurd h (Nat.not_lt_zero j), rfl⟩
theorem az_fp_s {Q : Nat → Int32} {m v x : Nat} (h : az_fp Q m v) (hx : x ≤ 255) : az_fp (upd Q m (nI x)) (m + 1) (v * 256 + x) := by
  obtain ⟨d, h1, h2⟩ := h
  refine ⟨az_u d m x, fun j hj => ?_, ?_⟩
  · by_cases q : j = m
    · subst q
      rw [pk_us]
      simp [az_u]
      omega
    · rw [pk_un q]
      simp [az_u, q]
      exact h1 j (by omega)
  · show v * 256 + x = az_fd (az_u d m x) m * 256 + az_u d m x m
    rw [az_fd_c (d := az_u d m x) (e := d) (fun j hj => by simp [az_u, show j ≠ m by omega]), ← h2]
    simp [az_u]
/-! the two phases as one -/
def az_cc (T : Nat → Nat) (n : Nat) (g : Option Nat) (i : Nat) (L : List Nat) : Option (List Nat × Option Nat) := match g with
  | none => az_c1 T n i L
  | some q => az_c2 T n q i L
theorem az_gp_pos {T : Nat → Nat} {n : Nat} (h : 0 < n) (h2 : ¬ (T 0 = 58 ∧ 1 < n ∧ T 1 = 58)) : 0 < az_gp T n 0 := by
  obtain ⟨g1, g2, g3, g4⟩ := az_gp_spec (T := T) (n := n) (n - 0) 0 (Nat.zero_le _) rfl
  rcases Nat.eq_zero_or_pos (az_gp T n 0) with q | q
  · rw [q] at g4
    exact absurd (g4 h) h2
  · exact q
theorem az_gp_ge {T : Nat → Nat} {n i : Nat} (h : i < n) (h2 : T i ≠ 58) : i < az_gp T n i := by
  obtain ⟨g1, g2, g3, g4⟩ := az_gp_spec (T := T) (n := n) (n - i) i (Nat.le_of_lt h) rfl
  rcases Nat.lt_or_eq_of_le g1 with q | q
  · exact q
  · rw [← q] at g4
    exact absurd (g4 h).1 h2
theorem az_c1_0 {T : Nat → Nat} {n : Nat} (h : 1 < n) (h0 : T 0 = 58) (h1 : T 1 = 58) : az_cc T n (some 0) 2 [] = az_c1 T n 0 [] := by
  have hg : az_gp T n 0 = 0 := az_gp_hit (by omega) h0 h h1
  show az_c2 T n 0 2 [] = _
  unfold az_c1 az_c2
  rw [hg, az_cn_0 (Nat.le_refl 0)]
  simp only [List.length_nil, Nat.zero_add, Nat.add_zero]
  by_cases q : az_cn T 2 n < 8
  · rw [if_pos q, if_pos (Or.inl ⟨by omega, q⟩)]
    show _ = (az_rl T n n (az_cn T 2 n) 2).map (fun B => ([] ++ [] ++ B, if 0 < n then some ([] ++ [] : List Nat).length else none))
    rw [if_pos (show 0 < n by omega)]
    rfl
  · rw [if_neg q, if_neg (by omega)]
section CC
variable {T : Nat → Nat} {n i j v : Nat} {L : List Nat} {g : Option Nat}
theorem az_cc_bad (hi : i < n) (hg : g = none → i < n ∧ i < az_gp T n i) (e : az_hx T i (az_pl T n 58 i) = none) : az_cc T n g i L = none := by
  cases g with
  | none => exact ay_1bad hi (hg rfl).2 e
  | some q => exact ay_2bad hi e
theorem az_cc_full (hg : g = none → i < n ∧ i < az_gp T n i) (h : L.length = 8) : az_cc T n g i L = none := by
  cases g with
  | none => exact ay_1full (hg rfl).2 h
  | some q => exact ay_2full h
theorem az_cc_last (hi : i < n) (hc : az_pl T n 58 i + 1 = n) (e : az_hx T i (az_pl T n 58 i) = some v) : az_cc T n g i L = none := by
  cases g with
  | none => exact ay_1last hi hc e
  | some q => exact ay_2last hi hc e
theorem az_cc_end (hi : i < n) (hc : az_pl T n 58 i = n) (e : az_hx T i (az_pl T n 58 i) = some v) : az_cc T n g i L = if (g = none ∧ L.length + 1 = 8) ∨ (g ≠ none ∧ L.length + 1 < 8) then some (L ++ [v], g) else none := by
  cases g with
  | none =>
    refine (ay_1end hi hc e).trans ?_
    by_cases q : L.length + 1 = 8
    · rw [if_pos q, if_pos (Or.inl ⟨rfl, q⟩)]
    · rw [if_neg q, if_neg (fun z => by rcases z with ⟨_, z⟩ | ⟨z, _⟩; exact (q z); exact (z rfl))]
  | some p =>
    refine (ay_2end hi hc e).trans ?_
    by_cases q : L.length + 1 < 8
    · rw [if_pos q, if_pos (Or.inr ⟨(fun z => by cases z), q⟩)]
    · rw [if_neg q, if_neg (fun z => by rcases z with ⟨z, _⟩ | ⟨_, z⟩; exact (by cases z); exact (q z))]
theorem az_cc_next (hi : i < n) (hc : i + j + 1 < n) (hp : az_pl T n 58 i = i + j) (hT : T (i + j + 1) ≠ 58) (e : az_hx T i (az_pl T n 58 i) = some v) : az_cc T n g i L = az_cc T n g (i + j + 1) (L ++ [v]) := by
  cases g with
  | none =>
    have h := ay_1next (L := L) hi (by rw [hp]; exact hc) (by rw [hp]; exact hT) e
    rw [hp] at h
    exact h
  | some q =>
    have h := ay_2next (L := L) (g := q) hi (by rw [hp]; exact hc) e
    rw [hp] at h
    exact h
theorem az_cc_gapn (hi : i < n) (hc : i + j + 1 < n) (hp : az_pl T n 58 i = i + j) (hT : T (i + j + 1) = 58) (e : az_hx T i (az_pl T n 58 i) = some v) : az_cc T n none i L = az_cc T n (some (L ++ [v]).length) (i + j + 1 + 1) (L ++ [v]) := by
  have h := ay_1gap (L := L) hi (by rw [hp]; exact hc) (by rw [hp]; exact hT) e
  rw [hp] at h
  exact h
theorem az_cc_gaps {q : Nat} (hi : i < n) (hc : i + j + 1 < n) (hp : az_pl T n 58 i = i + j) (hT : T (i + j + 1) = 58) (e : az_hx T i (az_pl T n 58 i) = some v) : az_cc T n (some q) i L = none :=
  ay_2gap hi (by rw [hp]; exact hc) (by rw [hp]; exact hT) e
end CC
