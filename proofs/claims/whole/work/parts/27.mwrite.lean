/-! the reference finds the row that it leaves out -/
theorem az_fr_1 (V : Nat) : (az_lr V 1 = (8, 1) ∧ az_zr V 0 ≤ 1) ∨ (az_lr V 1 = (0, az_zr V 0) ∧ 2 ≤ az_zr V 0) := by
  by_cases h : 1 < az_zr V 0
  · exact Or.inr ⟨az_lr_t (st := 8) (lg := 1) rfl h, h⟩
  · exact Or.inl ⟨az_lr_f (st := 8) (lg := 1) rfl (by omega), by omega⟩
theorem az_fr_y {V k fr : Nat} (h : (az_lr V k = (8, 1) ∧ az_zr V fr ≤ 1) ∨ (az_lr V k = (fr, az_zr V fr) ∧ 2 ≤ az_zr V fr)) (c : az_zr V fr < az_zr V k) : (az_lr V (k + 1) = (8, 1) ∧ az_zr V k ≤ 1) ∨ (az_lr V (k + 1) = (k, az_zr V k) ∧ 2 ≤ az_zr V k) := by
  rcases h with ⟨h1, h2⟩ | ⟨h1, h2⟩
  · by_cases q : 1 < az_zr V k
    · exact Or.inr ⟨az_lr_t h1 q, q⟩
    · exact Or.inl ⟨az_lr_f h1 (by omega), by omega⟩
  · exact Or.inr ⟨az_lr_t h1 c, by omega⟩
theorem az_fr_n {V k fr : Nat} (h : (az_lr V k = (8, 1) ∧ az_zr V fr ≤ 1) ∨ (az_lr V k = (fr, az_zr V fr) ∧ 2 ≤ az_zr V fr)) (c : az_zr V k ≤ az_zr V fr) : (az_lr V (k + 1) = (8, 1) ∧ az_zr V fr ≤ 1) ∨ (az_lr V (k + 1) = (fr, az_zr V fr) ∧ 2 ≤ az_zr V fr) := by
  rcases h with ⟨h1, h2⟩ | ⟨h1, h2⟩
  · exact Or.inl ⟨az_lr_f h1 (by omega), h2⟩
  · exact Or.inr ⟨az_lr_f h1 c, h2⟩
/-- the row as the class has it and as the reference has it -/
def az_rw (rs re fr row : Nat) : Prop := (row = 0 ∧ rs = 8 ∧ re = 8) ∨ (2 ≤ row ∧ rs = fr ∧ re = fr + row ∧ fr + row ≤ 8)
theorem az_rw_0 {V fr : Nat} (h : (az_lr V 8 = (8, 1) ∧ az_zr V fr ≤ 1) ∨ (az_lr V 8 = (fr, az_zr V fr) ∧ 2 ≤ az_zr V fr)) (c : az_zr V fr ≤ 1) : az_rw (az_lr V 8).1 ((az_lr V 8).1 + az_zr V (az_lr V 8).1) fr 0 := by
  rcases h with ⟨h1, _⟩ | ⟨_, h2⟩
  · rw [h1]
    exact Or.inl ⟨rfl, rfl, by show 8 + az_zr V 8 = 8; rw [az_zr_end (by omega)]⟩
  · omega
theorem az_rw_1 {V fr : Nat} (h : (az_lr V 8 = (8, 1) ∧ az_zr V fr ≤ 1) ∨ (az_lr V 8 = (fr, az_zr V fr) ∧ 2 ≤ az_zr V fr)) (c : 1 < az_zr V fr) (hf : fr ≤ 7) : az_rw (az_lr V 8).1 ((az_lr V 8).1 + az_zr V (az_lr V 8).1) fr (az_zr V fr) := by
  have hz := az_zr_le V fr
  rcases h with ⟨_, h2⟩ | ⟨h1, h2⟩
  · omega
  · rw [h1]
    exact Or.inr ⟨h2, rfl, rfl, by omega⟩
theorem az_wp_in {V fr row : Nat} (hr : 2 ≤ row) : ∀ j, fr < j → j ≤ fr + row → az_wp V fr (fr + row) j = az_wp V fr (fr + row) fr ++ [58, 58]
  | 0, h, _ => by omega
  | j + 1, h, h2 => by
    show az_wp V fr (fr + row) j ++ az_ws V fr (fr + row) j = _
    by_cases q : j = fr
    · subst q
      unfold az_ws
      rw [if_pos rfl, if_neg (by omega), List.append_nil]
    · rw [az_wp_in hr j (by omega) (by omega)]
      unfold az_ws
      rw [if_neg q, if_neg (by omega), List.append_nil, List.append_nil]
/-- what stands written when part k is at hand -/
def az_st (V rs re fr row k : Nat) (O : List Nat) : Prop := (0 < row ∧ fr < k ∧ k < fr + row ∧ O = az_wp V rs re fr ++ [58]) ∨ (¬ (0 < row ∧ fr < k ∧ k < fr + row) ∧ O = az_wp V rs re k)
section ST
variable {V rs re fr row k : Nat} {O : List Nat}
theorem az_st_0 : az_st V rs re fr row 0 [] := Or.inr ⟨by omega, rfl⟩
theorem az_st_out (hr : az_rw rs re fr row) (h : az_st V rs re fr row k O) (ho : row = 0 ∨ k < fr ∨ fr + row ≤ k) (hk : k < 8) (hm : ¬ (0 < k ∧ k ≠ re)) : az_st V rs re fr row (k + 1) (O ++ az_hex (az_pt V k)) := by
  rcases h with ⟨h1, h2, h3, _⟩ | ⟨_, h⟩
  · omega
  · refine Or.inr ⟨by omega, ?_⟩
    rw [h]
    show _ = az_wp V rs re k ++ az_ws V rs re k
    unfold az_ws
    unfold az_rw at hr
    rw [if_neg (by omega), if_pos (by omega), if_neg hm, List.nil_append, List.nil_append]
theorem az_st_mark (hr : az_rw rs re fr row) (h : az_st V rs re fr row k O) (ho : row = 0 ∨ k < fr ∨ fr + row ≤ k) (hk : k < 8) (hm : 0 < k ∧ k ≠ re) : az_st V rs re fr row (k + 1) ((O ++ [58]) ++ az_hex (az_pt V k)) := by
  rcases h with ⟨h1, h2, h3, _⟩ | ⟨_, h⟩
  · omega
  · refine Or.inr ⟨by omega, ?_⟩
    rw [h]
    show _ = az_wp V rs re k ++ az_ws V rs re k
    unfold az_ws
    unfold az_rw at hr
    rw [if_neg (by omega), if_pos (by omega), if_pos hm, List.nil_append, List.append_assoc]
theorem az_st_first (hr : az_rw rs re fr row) (h : az_st V rs re fr row k O) (h0 : 0 < row) (hk : k = fr) : az_st V rs re fr row (k + 1) (O ++ [58]) := by
  unfold az_rw at hr
  rcases h with ⟨h1, h2, h3, _⟩ | ⟨_, h⟩
  · omega
  · subst hk
    exact Or.inl ⟨h0, by omega, by omega, by rw [h]⟩
theorem az_st_in (h : az_st V rs re fr row k O) (h0 : 0 < row) (h1 : fr < k) (h2 : k + 1 < fr + row) : az_st V rs re fr row (k + 1) O := by
  rcases h with ⟨_, _, _, h⟩ | ⟨h3, _⟩
  · exact Or.inl ⟨h0, by omega, h2, h⟩
  · exact absurd ⟨h0, h1, by omega⟩ h3
theorem az_st_last (hr : az_rw rs re fr row) (h : az_st V rs re fr row k O) (h0 : 0 < row) (h1 : fr < k) (h2 : k + 1 = fr + row) : az_st V rs re fr row (k + 1) (O ++ [58]) := by
  unfold az_rw at hr
  rcases hr with hr | ⟨r1, r2, r3, r4⟩
  · omega
  · subst r2 r3
    rcases h with ⟨_, _, _, h⟩ | ⟨h3, _⟩
    · refine Or.inr ⟨by omega, ?_⟩
      rw [az_wp_in r1 (k + 1) (by omega) (by omega), h, List.append_assoc]
      rfl
    · exact absurd ⟨h0, h1, by omega⟩ h3
end ST
