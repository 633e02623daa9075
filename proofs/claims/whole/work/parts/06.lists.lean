/-! a Codes object as a list: its array holds the list's entries, what lies behind them is free -/
def cd_r (cap : Nat) (f : Nat → Int32) (L : List Int32) : Prop := L.length ≤ cap ∧ cap ≤ 1000 ∧ ∀ i, i < L.length → f i = L.getD i 0
/-- at(i) -/
def at_c (L : List Int32) (i : Int32) : Int32 := if ¬ i < 0 ∧ ¬ nI L.length ≤ i then L.getD i.toNatClampNeg 0 else -1
/-- set(i, x) -/
def st_c (L : List Int32) (i x : Int32) : List Int32 := if ¬ i < 0 ∧ ¬ nI L.length ≤ i then L.set i.toNatClampNeg x else L
theorem cd_nil {cap : Nat} {f : Nat → Int32} (h : cap ≤ 1000) : cd_r cap f [] := ⟨Nat.zero_le _, h, fun i hi => absurd hi (Nat.not_lt_zero i)⟩
theorem cd_clear {cap : Nat} {f : Nat → Int32} {L : List Int32} (h : cd_r cap f L) : cd_r cap f [] := cd_nil h.2.1
theorem gd_app {L : List Int32} {x : Int32} {i : Nat} (h : i < L.length) : (L ++ [x]).getD i 0 = L.getD i 0 := by
  simp [List.getD_eq_getElem?_getD, List.getElem?_append_left h]
theorem gd_last {L : List Int32} {x : Int32} : (L ++ [x]).getD L.length 0 = x := by
  simp [List.getD_eq_getElem?_getD]
theorem cd_app {cap : Nat} {f : Nat → Int32} {L : List Int32} {x : Int32} (h : cd_r cap f L) (hl : L.length < cap) : cd_r cap (upd f L.length x) (L ++ [x]) := by
  refine ⟨by rw [List.length_append]; exact hl, h.2.1, fun i hi => ?_⟩
  rw [List.length_append] at hi
  have hi : i < L.length + 1 := hi
  by_cases e : i = L.length
  · subst e; rw [gd_last, pk_us]
  · rw [gd_app (by omega), pk_un e, h.2.2 i (by omega)]
theorem cd_set {cap : Nat} {f : Nat → Int32} {L : List Int32} {x : Int32} {k : Nat} (h : cd_r cap f L) (hk : k < L.length) : cd_r cap (upd f k x) (L.set k x) := by
  refine ⟨by rw [List.length_set]; exact h.1, h.2.1, fun i hi => ?_⟩
  rw [List.length_set] at hi
  by_cases e : i = k
  · subst e; rw [pk_us]; simp [List.getD_eq_getElem?_getD, hk]
  · rw [pk_un e, h.2.2 i hi]; simp [List.getD_eq_getElem?_getD, List.getElem?_set, Ne.symm e]
theorem cd_drop {cap : Nat} {f : Nat → Int32} {L : List Int32} (h : cd_r cap f L) : cd_r cap f L.dropLast := by
  refine ⟨by rw [List.length_dropLast]; have := h.1; omega, h.2.1, fun i hi => ?_⟩
  rw [List.length_dropLast] at hi
  rw [h.2.2 i (by omega)]
  have h2 : i < L.length := by omega
  simp [List.getD_eq_getElem?_getD, List.getElem?_dropLast, hi, h2]
theorem cd_len {cap : Nat} {f : Nat → Int32} {L : List Int32} (h : cd_r cap f L) : L.length ≤ cap ∧ cap ≤ 1000 := ⟨h.1, h.2.1⟩
theorem cd_in {cap : Nat} {f : Nat → Int32} {L : List Int32} {i : Int32} (h : cd_r cap f L) (h0 : ¬ i < 0) (h1 : ¬ nI L.length ≤ i) : ∃ k : Nat, k < L.length ∧ i = nI k := by
  have hc := h.1; have hd := h.2.1
  rcases pk_ix i (n := L.length) (by omega) with z | z | z
  · exact absurd z h0
  · exact absurd z h1
  · exact z
theorem cd_vin {cap : Nat} {f : Nat → Int32} {L : List Int32} {i : Int32} (h : cd_r cap f L) (h0 : ¬ i < 0) (h1 : ¬ nI L.length ≤ i) : vp_in i cap := by
  obtain ⟨k, hk, rfl⟩ := cd_in h h0 h1
  have hc := h.1; have hd := h.2.1
  exact vp_in_nI (by omega) (by omega)
theorem at_neg {L : List Int32} {i : Int32} (h : i < 0) : at_c L i = -1 := by rw [at_c, if_neg (fun z => z.1 h)]
theorem at_big {L : List Int32} {i : Int32} (h : nI L.length ≤ i) : at_c L i = -1 := by rw [at_c, if_neg (fun z => z.2 h)]
theorem at_in {cap : Nat} {f : Nat → Int32} {L : List Int32} {i : Int32} (h : cd_r cap f L) (h0 : ¬ i < 0) (h1 : ¬ nI L.length ≤ i) : f i.toNatClampNeg = at_c L i := by
  rw [at_c, if_pos ⟨h0, h1⟩]
  obtain ⟨k, hk, rfl⟩ := cd_in h h0 h1
  have hc := h.1; have hd := h.2.1
  rw [nI_clamp (by omega), h.2.2 k hk]
theorem at_n {L : List Int32} {i : Nat} (h : i < L.length) (hL : L.length ≤ 1000) : at_c L (nI i) = L.getD i 0 := by
  rw [at_c, if_pos ⟨nI_pos (by omega), nI_ge h (by omega)⟩, nI_clamp (by omega)]
theorem at_o {L : List Int32} {i : Nat} (h : L.length ≤ i) (hi : i < 2 ^ 31) : at_c L (nI i) = -1 := at_big (nI_le h hi)
theorem st_in {cap : Nat} {f : Nat → Int32} {L : List Int32} {i x : Int32} (h : cd_r cap f L) (h0 : ¬ i < 0) (h1 : ¬ nI L.length ≤ i) : st_c L i x = L.set i.toNatClampNeg x := by rw [st_c, if_pos ⟨h0, h1⟩]
theorem st_neg {L : List Int32} {i x : Int32} (h : i < 0) : st_c L i x = L := by rw [st_c, if_neg (fun z => z.1 h)]
theorem st_big {L : List Int32} {i x : Int32} (h : nI L.length ≤ i) : st_c L i x = L := by rw [st_c, if_neg (fun z => z.2 h)]
theorem st_len {L : List Int32} {i x : Int32} : (st_c L i x).length = L.length := by
  unfold st_c; split
  · exact List.length_set
  · rfl
theorem li_ext {L M : List Int32} (h : L.length = M.length) (he : ∀ i, i < L.length → L.getD i 0 = M.getD i 0) : L = M := by
  refine List.ext_getElem h (fun i h1 h2 => ?_)
  have := he i h1
  simpa [List.getD_eq_getElem?_getD, h1, h2] using this
/-- next(c, b) is k -/
def nx_p (L : List Int32) (c : Int32) (b k : Nat) : Prop := (k = L.length ∧ ∀ j, b ≤ j → j < L.length → L.getD j 0 ≠ c) ∨ (b ≤ k ∧ k < L.length ∧ L.getD k 0 = c ∧ ∀ j, b ≤ j → j < k → L.getD j 0 ≠ c)
theorem nx_le {L : List Int32} {c : Int32} {b k : Nat} (h : nx_p L c b k) : k ≤ L.length := by
  rcases h with h | h
  · omega
  · omega
theorem li_take {L : List Int32} {i : Nat} (h : i < L.length) : L.take i ++ [L.getD i 0] = L.take (i + 1) := by
  rw [List.take_add_one, List.getD_eq_getElem?_getD, List.getElem?_eq_getElem h]
  rfl
