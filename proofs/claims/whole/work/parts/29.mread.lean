/-! the reference reads: where the parts go -/
theorem az_pl_some {T : Nat → Nat} {n k : Nat} (h : k < n) (e : T k = 58) : az_pl T n 58 0 < n := by
  rcases Nat.lt_or_ge (az_pl T n 58 0) n with q | q
  · exact q
  · exact absurd e (az_pl_ne (T := T) (n := n) (mk := 58) (i := 0) (Nat.zero_le _) (Nat.zero_le _) (by omega))
theorem az_pl_none {T : Nat → Nat} {n : Nat} (h : ∀ j, j < n → T j ≠ 58) : ¬ az_pl T n 58 0 < n := fun q => h _ q (az_pl_at (Nat.zero_le _) q)
theorem az_shift_s {B E : Nat → Int32} {k : Nat} (hk : k < 16) (h : ∀ j, j < 16 → (j < k → E (16 + j) = B j ∧ E j = nI 0) ∧ (k ≤ j → E j = B j)) : ∀ j, j < 16 → (j < k + 1 → upd (upd E (16 + k) (E k)) k (nI 0) (16 + j) = B j ∧ upd (upd E (16 + k) (E k)) k (nI 0) j = nI 0) ∧ (k + 1 ≤ j → upd (upd E (16 + k) (E k)) k (nI 0) j = B j) := by
  intro j hj
  obtain ⟨a1, a2⟩ := h j hj
  have b2 := (h k hk).2 (Nat.le_refl k)
  refine ⟨fun q => ?_, fun q => ?_⟩
  · by_cases e : j = k
    · subst e
      rw [pk_un (show 16 + j ≠ j by omega), pk_us, pk_us]
      exact ⟨b2, rfl⟩
    · rw [pk_un (show 16 + j ≠ k by omega), pk_un (show 16 + j ≠ 16 + k by omega), pk_un e, pk_un (show j ≠ 16 + k by omega)]
      exact a1 (by omega)
  · rw [pk_un (show j ≠ k by omega), pk_un (show j ≠ 16 + k by omega)]
    exact a2 (by omega)
theorem az_by_0 {E : Nat → Int32} (h : ∀ j, j < 16 → E j = nI 0) : az_by E 0 0 := by
  intro k hk
  rw [Nat.zero_add, h k hk]
  unfold az_byte
  rw [Nat.zero_div]
def az_ps (g : Option Nat) (m k : Nat) : Nat := match g with
  | none => k
  | some q => if q ≤ k then 8 - m + k else k
def az_pw (L : List Nat) (g : Option Nat) : Nat → Nat
  | 0 => 0
  | k + 1 => az_sp (az_pw L g k) (az_ps g L.length k) (L.getD k 0)
theorem az_ps_lt {g : Option Nat} {m k : Nat} (hm : m ≤ 8) (hk : k < m) : az_ps g m k < 8 := by
  cases g with
  | none => show k < 8; omega
  | some q =>
    show (if q ≤ k then 8 - m + k else k) < 8
    split <;> omega
theorem az_ps_s {g : Option Nat} {m k : Nat} (hm : m ≤ 8) (hk : k + 1 < m) : az_ps g m k + 1 ≤ az_ps g m (k + 1) := by
  cases g with
  | none => exact Nat.le_refl _
  | some q =>
    show (if q ≤ k then 8 - m + k else k) + 1 ≤ (if q ≤ k + 1 then 8 - m + (k + 1) else k + 1)
    split <;> split <;> omega
/-- a part set: it alone changes -/
theorem az_pt_sp {W p v q : Nat} (hp : p < 8) (hq : q < 8) (hv : v < 65536) (hz : W % 2 ^ (16 * (8 - p)) = 0) : az_pt (az_sp W p v) q = if q = p then v else az_pt W q := by
  unfold az_pt az_sp
  rcases (show p = 0 ∨ p = 1 ∨ p = 2 ∨ p = 3 ∨ p = 4 ∨ p = 5 ∨ p = 6 ∨ p = 7 by omega) with rfl | rfl | rfl | rfl | rfl | rfl | rfl | rfl <;>
  rcases (show q = 0 ∨ q = 1 ∨ q = 2 ∨ q = 3 ∨ q = 4 ∨ q = 5 ∨ q = 6 ∨ q = 7 by omega) with rfl | rfl | rfl | rfl | rfl | rfl | rfl | rfl <;>
  simp only [Nat.reduceMul, Nat.reduceSub, Nat.reducePow, Nat.reduceEqDiff, if_true, if_false] at hz ⊢ <;> omega
theorem az_by_sp {E : Nat → Int32} {W p v : Nat} (hE : az_by E 0 W) (hp : p < 8) (hv : v < 65536) (hz : W % 2 ^ (16 * (8 - p)) = 0) : az_by (upd (upd E (2 * p) (nI (v / 256))) (2 * p + 1) (nI (v % 256))) 0 (az_sp W p v) := by
  intro k hk
  rw [Nat.zero_add]
  have h0 := hE k hk
  rw [Nat.zero_add] at h0
  have hq : k / 2 < 8 := by omega
  have e1 := az_bpt (V := az_sp W p v) hq
  have e2 := az_bpt (V := W) hq
  rw [az_pt_sp hp hq hv hz] at e1
  rcases (show k = 2 * (k / 2) ∨ k = 2 * (k / 2) + 1 by omega) with ek | ek
  · by_cases q : k / 2 = p
    · rw [if_pos q, q] at e1
      rw [pk_un (show k ≠ 2 * p + 1 by omega), show k = 2 * p by omega, pk_us, e1.1]
    · rw [if_neg q] at e1
      rw [pk_un (show k ≠ 2 * p + 1 by omega), pk_un (show k ≠ 2 * p by omega), h0]
      rw [ek, e1.1, e2.1]
  · by_cases q : k / 2 = p
    · rw [if_pos q, q] at e1
      rw [show k = 2 * p + 1 by omega, pk_us, e1.2]
    · rw [if_neg q] at e1
      rw [pk_un (show k ≠ 2 * p + 1 by omega), pk_un (show k ≠ 2 * p by omega), h0]
      rw [ek, e1.2, e2.2]
theorem az_sp_ok {W p v : Nat} (hW : W < 340282366920938463463374607431768211456) (hp : p < 8) (hv : v < 65536) (hz : W % 2 ^ (16 * (8 - p)) = 0) : az_sp W p v < 340282366920938463463374607431768211456 ∧ az_sp W p v % 2 ^ (16 * (8 - (p + 1))) = 0 := by
  rcases Nat.lt_or_ge p 4 with q | q
  · exact ⟨(az_sp_u hW q hv hz).2.2.1, (az_sp_u hW q hv hz).2.2.2⟩
  · exact ⟨(az_sp_l hW q hp hv hz).2.2.1, (az_sp_l hW q hp hv hz).2.2.2⟩
theorem az_ac_app : ∀ (L : List Nat) (V j v : Nat), az_ac V j (L ++ [v]) = az_sp (az_ac V j L) (j + L.length) v
  | [], V, j, v => rfl
  | x :: L, V, j, v => by
    show az_ac (az_sp V j x) (j + 1) (L ++ [v]) = az_sp (az_ac (az_sp V j x) (j + 1) L) (j + (L.length + 1)) v
    rw [az_ac_app L, show j + 1 + L.length = j + (L.length + 1) by omega]
theorem az_take_s {L : List Nat} {k : Nat} (h : k < L.length) : L.take (k + 1) = L.take k ++ [L.getD k 0] := by
  rw [List.take_succ]
  congr 1
  show L[k]?.toList = [L[k]?.getD 0]
  rw [List.getElem?_eq_getElem h]
  rfl
theorem az_pw_0 {L : List Nat} {g : Option Nat} : ∀ {k : Nat}, k ≤ L.length → (∀ q, g = some q → k ≤ q) → az_pw L g k = az_ac 0 0 (L.take k)
  | 0, _, _ => rfl
  | k + 1, h, hg => by
    have hp : az_ps g L.length k = k := by
      cases g with
      | none => rfl
      | some q =>
        have := hg q rfl
        show (if q ≤ k then 8 - L.length + k else k) = k
        rw [if_neg (by omega)]
    show az_sp (az_pw L g k) (az_ps g L.length k) (L.getD k 0) = _
    rw [az_pw_0 (by omega) (fun q e => by have := hg q e; omega), hp, az_take_s (by omega), az_ac_app, Nat.zero_add, List.length_take, Nat.min_eq_left (by omega)]
theorem az_pw_1 {L : List Nat} {q : Nat} (hq : q ≤ L.length) (h8 : L.length ≤ 8) : ∀ {j : Nat}, q + j ≤ L.length → az_pw L (some q) (q + j) = az_ac (az_ac 0 0 (L.take q)) (8 - (L.length - q)) ((L.drop q).take j)
  | 0, h => by
    rw [Nat.add_zero, az_pw_0 hq (fun r e => by cases e; exact Nat.le_refl _)]
    rfl
  | j + 1, h => by
    have hp : az_ps (some q) L.length (q + j) = 8 - (L.length - q) + j := by
      show (if q ≤ q + j then 8 - L.length + (q + j) else q + j) = _
      rw [if_pos (by omega)]
      omega
    have hd : j < (L.drop q).length := by rw [List.length_drop]; omega
    have hgd : (L.drop q).getD j 0 = L.getD (q + j) 0 := by
      show (L.drop q)[j]?.getD 0 = L[q + j]?.getD 0
      rw [List.getElem?_drop]
    show az_sp (az_pw L (some q) (q + j)) (az_ps (some q) L.length (q + j)) (L.getD (q + j) 0) = _
    rw [az_pw_1 hq h8 (by omega), hp, az_take_s hd, az_ac_app, hgd, List.length_take, Nat.min_eq_left (by omega)]
theorem az_pw_val {L : List Nat} {g : Option Nat} (hq : ∀ q, g = some q → q ≤ L.length) (h8 : L.length ≤ 8) : az_pw L g L.length = az_val (L, g) := by
  cases g with
  | none =>
    rw [az_pw_0 (Nat.le_refl _) (fun q e => by cases e), List.take_length]
    rfl
  | some q =>
    have h := az_pw_1 (hq q rfl) h8 (j := L.length - q) (by have := hq q rfl; omega)
    rw [show q + (L.length - q) = L.length by have := hq q rfl; omega] at h
    rw [h]
    show _ = az_ac (az_ac 0 0 (L.take q)) (8 - (L.length - q)) (L.drop q)
    rw [List.take_of_length_le (l := L.drop q) (i := L.length - q) (by rw [List.length_drop]; exact Nat.le_refl _)]
theorem az_c1_ok {T : Nat → Nat} {n : Nat} {L : List Nat} {g : Option Nat} (h : az_c1 T n 0 [] = some (L, g)) : ∀ q, g = some q → q ≤ L.length := by
  intro q hq
  unfold az_c1 at h
  split at h
  · rcases hA : az_rl T n (az_gp T n 0) (az_cn T 0 (az_gp T n 0)) 0 with _ | A
    · rw [hA] at h; cases h
    · rw [hA] at h
      change (az_rl T n n (az_cn T (az_gp T n 0 + 2) n) (az_gp T n 0 + 2)).map (fun B => (([] ++ A ++ B : List Nat), if az_gp T n 0 < n then some ([] ++ A : List Nat).length else none)) = some (L, g) at h
      rcases hB : az_rl T n n (az_cn T (az_gp T n 0 + 2) n) (az_gp T n 0 + 2) with _ | B
      · rw [hB] at h; cases h
      · rw [hB] at h
        have h2 := Option.some.inj h
        have e1 : ([] ++ A ++ B : List Nat) = L := congrArg Prod.fst h2
        have e2 : (if az_gp T n 0 < n then some ([] ++ A : List Nat).length else none) = g := congrArg Prod.snd h2
        rw [hq] at e2
        split at e2
        · have e3 := Option.some.inj e2
          rw [← e1, ← e3]
          simp only [List.nil_append, List.length_append]
          omega
        · cases e2
  · cases h
/-- four numbers are the last four bytes -/
theorem az_by_4 {E : Nat → Int32} {d : Nat → Nat} (hE : ∀ j, j < 16 → E j = nI 0) (hd : ∀ j, j < 4 → d j < 256) : az_by (upd (upd (upd (upd E 12 (nI (d 0))) 13 (nI (d 1))) 14 (nI (d 2))) 15 (nI (d 3))) 0 (az_fd d 4) := by
  have h0 := hd 0 (by omega)
  have h1 := hd 1 (by omega)
  have h2 := hd 2 (by omega)
  have h3 := hd 3 (by omega)
  have hv : az_fd d 4 = (((0 * 256 + d 0) * 256 + d 1) * 256 + d 2) * 256 + d 3 := rfl
  intro k hk
  rw [Nat.zero_add]
  unfold az_byte
  rcases (show k < 12 ∨ k = 12 ∨ k = 13 ∨ k = 14 ∨ k = 15 by omega) with q | rfl | rfl | rfl | rfl
  · rw [pk_un (by omega), pk_un (by omega), pk_un (by omega), pk_un (by omega), hE k hk]
    have hs : 32 ≤ 8 * (15 - k) := by omega
    have hl : az_fd d 4 < 2 ^ (8 * (15 - k)) := Nat.lt_of_lt_of_le (show az_fd d 4 < 2 ^ 32 by omega) (Nat.pow_le_pow_right (by decide) hs)
    rw [Nat.div_eq_of_lt hl]
  · rw [pk_un (by decide), pk_un (by decide), pk_un (by decide), pk_us]
    congr 1
    simp only [Nat.reduceSub, Nat.reduceMul, Nat.reducePow]
    omega
  · rw [pk_un (by decide), pk_un (by decide), pk_us]
    congr 1
    simp only [Nat.reduceSub, Nat.reduceMul, Nat.reducePow]
    omega
  · rw [pk_un (by decide), pk_us]
    congr 1
    simp only [Nat.reduceSub, Nat.reduceMul, Nat.reducePow]
    omega
  · rw [pk_us]
    congr 1
    simp only [Nat.reduceSub, Nat.reduceMul, Nat.reducePow]
    omega
