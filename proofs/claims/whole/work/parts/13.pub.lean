/-! what the class's public methods answer -/
theorem az_cmp0 {x y : Int64} : lg_cmp x y = 0 ↔ x = y := by
  unfold lg_cmp
  constructor
  · intro h
    split at h
    · cases h
    · split at h
      · assumption
      · cases h
  · intro h
    subst h
    simp
theorem az_cmpge {x y : Int64} : 0 ≤ lg_cmp x y ↔ y ≤ x := by
  unfold lg_cmp
  constructor
  · intro h
    split at h
    · rename_i q; exact Int64.le_of_lt q
    · split at h
      · rename_i q; rw [q]; exact Int64.le_refl _
      · exact absurd h (by decide)
  · intro h
    split
    · decide
    · split
      · decide
      · rename_i q1 q2
        exact absurd (Int64.le_antisymm (Int64.not_lt.mp q1) h) q2
/-- an address with a length of its family -/
def az_ad (f l V : Nat) : Prop := az_ok (f, V) ∧ l ≤ az_wl f
theorem az_ad_f {f l V : Nat} (h : az_ad f l V) : f = 4 ∨ f = 6 := by rcases h.1 with q | q; exact (Or.inl q.1); exact (Or.inr q.1)
theorem az_ad_6 {f l V : Nat} (h : az_ad f l V) : f ≤ 6 := by rcases az_ad_f h with q | q <;> omega
theorem az_ad_V {f l V : Nat} (h : az_ad f l V) : V < 340282366920938463463374607431768211456 := by
  rcases h.1 with q | q
  · have := q.2
    exact Nat.lt_trans this (by decide)
  · exact q.2
theorem az_ad_4 {l V : Nat} (h : az_ad 4 l V) : V < 4294967296 := by
  rcases h.1 with q | q
  · exact q.2
  · exact absurd q.1 (show ¬ (4 : Nat) = 6 by decide)
theorem az_ad_k {f l V : Nat} (h : az_ad f l V) : 128 - az_wl f + l ≤ 128 := by have := h.2; have := az_wl_le f; omega
theorem az_ad_m {f l V : Nat} (h : az_ad f l V) : 128 - (128 - az_wl f + l) = az_wl f - l := by have := h.2; have := az_wl_le f; omega
theorem az_ad_cut {f l V : Nat} (h : az_ad f l V) (m : Nat) : az_ad f l (az_cut V m) := by
  refine ⟨?_, h.2⟩
  have := az_cut_le V m
  rcases h.1 with q | q
  · exact Or.inl ⟨q.1, Nat.lt_of_le_of_lt this q.2⟩
  · exact Or.inr ⟨q.1, Nat.lt_of_le_of_lt this q.2⟩
def az_ord (f1 V1 l1 f2 V2 l2 : Nat) : Int32 := if f1 ≠ f2 then (if f1 = 4 then -1 else nI 1) else if V1 ≠ V2 then (if V1 < V2 then -1 else nI 1) else if l1 ≠ l2 then (if l1 < l2 then -1 else nI 1) else nI 0
theorem az_vlt {V U : Nat} (h : V / 18446744073709551616 ≠ U / 18446744073709551616) : V < U ↔ V / 18446744073709551616 < U / 18446744073709551616 := by omega
theorem az_vlt2 {V U : Nat} (h : V / 18446744073709551616 = U / 18446744073709551616) : V < U ↔ V % 18446744073709551616 < U % 18446744073709551616 := by omega
def az_bits (V : Nat) (x : Int32) : Int64 := if x = 0 then lN (V / 18446744073709551616) else if x = nI 1 then lN (V % 18446744073709551616) else lN 0
/-- what stands at place x of what was written -/
def az_wat (O : List Nat) (x : Int32) : Int32 := if x < 0 then -1 else if nI O.length ≤ x then -1 else nI (O.getD x.toNatClampNeg 0)
/-- the text of an address -/
def az_out (f V : Nat) : List Nat := if f = 4 then az_w4 V else az_wp V (az_lr V 8).1 ((az_lr V 8).1 + az_zr V (az_lr V 8).1) 8
def az_a20 (T : Nat → Nat) (n : Nat) (a b c d e : Int32) : Nat → Nat := az_a4 (az_a4 (az_a4 (az_a4 (az_a4 T n a) (n + 4) b) (n + 8) c) (n + 12) d) (n + 16) e
