/-! characters, parts of a text, names and bases: in mathematics -/
/-- a character of a name -/
def nm_c (c : Int32) : Prop := (¬ c < 97 ∧ c ≤ 122) ∨ (¬ c < 65 ∧ c ≤ 90) ∨ (¬ c < 48 ∧ c ≤ 57) ∨ c = 95
theorem nm_m1 : ¬ nm_c (-1) := by unfold nm_c; decide
/-- the symbol of a base, -1 for others -/
def sy_c (c : Int32) : Int32 := if 65 = c then 2 else if 67 = c then 3 else if 71 = c then 4 else if 78 = c then 5 else if 84 = c then 6 else -1
theorem sy_m1 : sy_c (-1) = -1 := by decide
theorem sy_cases (c : Int32) : sy_c c = -1 ∨ sy_c c = 2 ∨ sy_c c = 3 ∨ sy_c c = 4 ∨ sy_c c = 5 ∨ sy_c c = 6 := by
  unfold sy_c
  split
  · exact Or.inr (Or.inl rfl)
  · split
    · exact Or.inr (Or.inr (Or.inl rfl))
    · split
      · exact Or.inr (Or.inr (Or.inr (Or.inl rfl)))
      · split
        · exact Or.inr (Or.inr (Or.inr (Or.inr (Or.inl rfl))))
        · split
          · exact Or.inr (Or.inr (Or.inr (Or.inr (Or.inr rfl))))
          · exact Or.inl rfl
/-- the part of a list from b to e -/
def sl_p (L : List Int32) (b e : Nat) : List Int32 := (L.drop b).take (e - b)
theorem sl_self (L : List Int32) (b : Nat) : sl_p L b b = [] := by unfold sl_p; rw [Nat.sub_self]; rfl
theorem sl_len {L : List Int32} {b e : Nat} (h : e ≤ L.length) : (sl_p L b e).length = e - b := by
  unfold sl_p; rw [List.length_take, List.length_drop]; omega
theorem sl_snoc {L : List Int32} {b i : Nat} (h : b ≤ i) (hi : i < L.length) : sl_p L b i ++ [L.getD i 0] = sl_p L b (i + 1) := by
  unfold sl_p
  have h1 : (L.drop b).getD (i - b) 0 = L.getD i 0 := by
    simp only [List.getD_eq_getElem?_getD, List.getElem?_drop]
    rw [show b + (i - b) = i by omega]
  rw [← h1, li_take (by rw [List.length_drop]; omega), show i + 1 - b = i - b + 1 by omega]
theorem sl_get {L : List Int32} {b e j : Nat} (h : j < e - b) : (sl_p L b e).getD j 0 = L.getD (b + j) 0 := by
  unfold sl_p
  simp only [List.getD_eq_getElem?_getD, List.getElem?_take, h, if_true, List.getElem?_drop]
/-- readName's question -/
def nm_ok (L : List Int32) (b e : Nat) : Prop := b < e ∧ e - b ≤ 8 ∧ e ≤ L.length ∧ ∀ j, b ≤ j → j < e → nm_c (L.getD j 0)
/-- readBases's question -/
def bs_ok (L : List Int32) (b e cap : Nat) : Prop := b < e ∧ e - b ≤ cap ∧ e ≤ L.length ∧ ∀ j, b ≤ j → j < e → sy_c (L.getD j 0) ≠ -1
theorem nm_at {L : List Int32} {i : Nat} (hL : L.length ≤ 1000) (hi : i ≤ 2000) (h : nm_c (at_c L (nI i))) : i < L.length ∧ at_c L (nI i) = L.getD i 0 := by
  rcases Nat.lt_or_ge i L.length with z | z
  · exact ⟨z, at_n z hL⟩
  · rw [at_o z (by omega)] at h; exact absurd h nm_m1
theorem nm_out {L : List Int32} {i : Nat} (hL : L.length ≤ 1000) (h : ¬ nm_c (at_c L (nI i))) (hi : i < L.length) : ¬ nm_c (L.getD i 0) := by rw [← at_n hi hL]; exact h
theorem sy_at {L : List Int32} {i : Nat} (hL : L.length ≤ 1000) (hi : i ≤ 2000) (h : ¬ sy_c (at_c L (nI i)) = -1) : i < L.length ∧ at_c L (nI i) = L.getD i 0 := by
  rcases Nat.lt_or_ge i L.length with z | z
  · exact ⟨z, at_n z hL⟩
  · rw [at_o z (by omega)] at h; exact absurd sy_m1 h
theorem bs_snoc {L : List Int32} {b i : Nat} (h : b ≤ i) (hi : i < L.length) : (sl_p L b i).map sy_c ++ [sy_c (L.getD i 0)] = (sl_p L b (i + 1)).map sy_c := by
  rw [← sl_snoc h hi, List.map_append]; rfl
theorem bs_len {L : List Int32} {b e : Nat} (h : e ≤ L.length) : ((sl_p L b e).map sy_c).length = e - b := by rw [List.length_map, sl_len h]
/-- a byte of a long -/
def by_c (w : Int64) (k : Nat) : Int32 := (w.toUInt64 >>> ((nI k).toInt64.toUInt64 &&& Int64.toUInt64 63)).toInt64.toInt32 &&& 255
theorem bs_len2 {L : List Int32} {b e : Nat} (h : e ≤ L.length ∨ e = b) : ((sl_p L b e).map sy_c).length = e - b := by
  rcases h with h | h
  · exact bs_len h
  · subst h; rw [sl_self, Nat.sub_self]; rfl
