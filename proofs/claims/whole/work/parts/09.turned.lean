/-! the turned row: which ending begins one place before -/
/-- T is the turned row of k -/
def tn_d (k T : Nat → Int) (n : Nat) : Prop := ∀ p, p < n → T (rk_a k n p) = if p = 0 then 0 else k (p - 1)
theorem tn_ij {k : Nat → Int} {n : Nat} (hk : rw_k k n) : ij_n (fun q => rk_a k n (if q + 1 < n then q + 1 else 0)) n := by
  have h := rk_ij hk
  have h0 := hk.1
  refine ⟨fun q hq => ?_, fun q r hq hr e => ?_⟩
  · by_cases z : q + 1 < n
    · simp only [z, if_true]; exact h.1 _ z
    · simp only [z, if_false]; exact h.1 _ h0
  · by_cases z : q + 1 < n
    · by_cases w : r + 1 < n
      · simp only [z, w, if_true] at e
        have := h.2 _ _ z w e
        omega
      · simp only [z, w, if_true, if_false] at e
        have := h.2 _ _ z h0 e
        omega
    · by_cases w : r + 1 < n
      · simp only [z, w, if_true, if_false] at e
        have := h.2 _ _ h0 w e
        omega
      · omega
theorem tn_at {k T : Nat → Int} {n : Nat} (hk : rw_k k n) (hT : tn_d k T n) {q : Nat} (hq : q < n) : T (rk_a k n (if q + 1 < n then q + 1 else 0)) = k q := by
  by_cases z : q + 1 < n
  · simp only [z, if_true]
    rw [hT _ z, if_neg (by omega)]
    rw [show q + 1 - 1 = q by omega]
  · simp only [z, if_false]
    rw [hT _ hk.1, if_pos rfl, show q = n - 1 by omega, hk.2.1]
/-- the ending one place before: as many as have a lesser symbol in front, and as many of the same as stand before it -/
theorem tn_lf {k T : Nat → Int} {n p : Nat} (hk : rw_k k n) (hT : tn_d k T n) (hp : p + 1 < n) : cn_t (fun j => T j < k p ∨ (T j = k p ∧ j < rk_a k n (p + 1))) n = rk_a k n p := by
  rw [← cn_perm (tn_ij hk)]
  refine cn_congr (fun q hq => ?_)
  rw [tn_at hk hT hq]
  have e := el_step (k := k) (n := n) (p := q) (q := p) hq (by omega)
  rw [show (0 ≤ q ∧ el_t k n q p) ↔ el_t k n q p from ⟨fun z => z.2, fun z => ⟨Nat.zero_le _, z⟩⟩, e]
  have hs := hk.2.2 p hp
  refine ⟨fun z => z.elim Or.inl (fun w => Or.inr ⟨w.1, ?_⟩), fun z => z.elim Or.inl (fun w => Or.inr ⟨w.1, ?_⟩)⟩
  · have h1 : q + 1 < n := by
      rcases Nat.lt_or_ge (q + 1) n with h | h
      · exact h
      · have : q = n - 1 := by omega
        rw [this, hk.2.1] at w; omega
    have w2 := w.2
    simp only [h1, if_true] at w2
    exact (rk_iff hk h1 hp (Nat.zero_le _) (Nat.zero_le _)).mpr w2
  · have h1 : q + 1 < n := by
      rcases Nat.lt_or_ge (q + 1) n with h | h
      · exact h
      · have : q = n - 1 := by omega
        rw [this, hk.2.1] at w; omega
    simp only [h1, if_true]
    exact (rk_iff hk h1 hp (Nat.zero_le _) (Nat.zero_le _)).mp w.2
/-- the least ending is the last place's -/
theorem tn_0 {k : Nat → Int} {n : Nat} (hk : rw_k k n) : rk_a k n (n - 1) = 0 := by
  refine cn_none (fun q hq z => ?_)
  obtain ⟨_, j, h1, h2, h3, h4⟩ := z
  have e : j = 0 := by omega
  subst e
  rw [show n - 1 + 0 = n - 1 by omega, hk.2.1] at h4
  by_cases e : q = n - 1
  · subst e
    rw [show n - 1 + 0 = n - 1 by omega, hk.2.1] at h4
    omega
  · have := hk.2.2 (q + 0) (by omega)
    omega
