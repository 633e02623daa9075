/-! counting below a bound; rows (keys) and their endings, sorted; no step of the machine here -/
/-- how many i < n have P -/
noncomputable def cn_t (P : Nat → Prop) : Nat → Nat
  | 0 => 0
  | n + 1 => cn_t P n + @ite Nat (P n) (Classical.propDecidable (P n)) 1 0
theorem cn_yes {P : Nat → Prop} {n : Nat} (h : P n) : cn_t P (n + 1) = cn_t P n + 1 := by
  show cn_t P n + @ite Nat (P n) (Classical.propDecidable (P n)) 1 0 = _
  rw [if_pos h]
theorem cn_no {P : Nat → Prop} {n : Nat} (h : ¬ P n) : cn_t P (n + 1) = cn_t P n := by
  show cn_t P n + @ite Nat (P n) (Classical.propDecidable (P n)) 1 0 = _
  rw [if_neg h]; rfl
theorem cn_0 {P : Nat → Prop} : cn_t P 0 = 0 := rfl
theorem cn_le (P : Nat → Prop) (n : Nat) : cn_t P n ≤ n := by
  induction n with
  | zero => exact Nat.le_refl _
  | succ n ih =>
    by_cases h : P n
    · rw [cn_yes h]; omega
    · rw [cn_no h]; omega
theorem cn_congr {P Q : Nat → Prop} {n : Nat} (h : ∀ i, i < n → (P i ↔ Q i)) : cn_t P n = cn_t Q n := by
  induction n with
  | zero => rfl
  | succ n ih =>
    have e := ih (fun i hi => h i (by omega))
    by_cases hp : P n
    · rw [cn_yes hp, cn_yes ((h n (by omega)).mp hp), e]
    · rw [cn_no hp, cn_no (fun q => hp ((h n (by omega)).mpr q)), e]
theorem cn_mono {P Q : Nat → Prop} {n : Nat} (h : ∀ i, i < n → P i → Q i) : cn_t P n ≤ cn_t Q n := by
  induction n with
  | zero => exact Nat.le_refl _
  | succ n ih =>
    have e := ih (fun i hi => h i (by omega))
    by_cases hp : P n
    · rw [cn_yes hp, cn_yes (h n (by omega) hp)]; omega
    · by_cases hq : Q n
      · rw [cn_no hp, cn_yes hq]; omega
      · rw [cn_no hp, cn_no hq]; omega
theorem cn_lt {P Q : Nat → Prop} {n : Nat} (h : ∀ i, i < n → P i → Q i) {a : Nat} (ha : a < n) (hq : Q a) (hp : ¬ P a) : cn_t P n < cn_t Q n := by
  induction n with
  | zero => omega
  | succ n ih =>
    by_cases e : a = n
    · subst e
      have := cn_mono (P := P) (Q := Q) (n := a) (fun i hi => h i (by omega))
      rw [cn_no hp, cn_yes hq]; omega
    · have h1 := ih (fun i hi => h i (by omega)) (by omega)
      by_cases hp' : P n
      · rw [cn_yes hp', cn_yes (h n (by omega) hp')]; omega
      · by_cases hq' : Q n
        · rw [cn_no hp', cn_yes hq']; omega
        · rw [cn_no hp', cn_no hq']; omega
theorem cn_none {P : Nat → Prop} {n : Nat} (h : ∀ i, i < n → ¬ P i) : cn_t P n = 0 := by
  induction n with
  | zero => rfl
  | succ n ih => rw [cn_no (h n (by omega)), ih (fun i hi => h i (by omega))]
theorem cn_or {P Q : Nat → Prop} {n : Nat} (h : ∀ i, i < n → P i → ¬ Q i) : cn_t (fun i => P i ∨ Q i) n = cn_t P n + cn_t Q n := by
  induction n with
  | zero => rfl
  | succ n ih =>
    have e := ih (fun i hi => h i (by omega))
    by_cases hp : P n
    · have hq := h n (by omega) hp
      rw [cn_yes (P := fun i => P i ∨ Q i) (Or.inl hp), cn_yes hp, cn_no hq]; omega
    · by_cases hq : Q n
      · rw [cn_yes (P := fun i => P i ∨ Q i) (Or.inr hq), cn_no hp, cn_yes hq]; omega
      · rw [cn_no (P := fun i => P i ∨ Q i) (fun z => z.elim hp hq), cn_no hp, cn_no hq]; omega
/-- one place changed -/
theorem cn_chg {P Q : Nat → Prop} {n a : Nat} (ha : a < n) (h : ∀ i, i < n → i ≠ a → (P i ↔ Q i)) : cn_t Q n + @ite Nat (P a) (Classical.propDecidable (P a)) 1 0 = cn_t P n + @ite Nat (Q a) (Classical.propDecidable (Q a)) 1 0 := by
  induction n with
  | zero => omega
  | succ n ih =>
    by_cases e : a = n
    · subst e
      have h1 : cn_t P a = cn_t Q a := cn_congr (fun i hi => h i (by omega) (by omega))
      show cn_t Q a + @ite Nat (Q a) (Classical.propDecidable (Q a)) 1 0 + _ = cn_t P a + @ite Nat (P a) (Classical.propDecidable (P a)) 1 0 + _
      omega
    · have h1 := ih (by omega) (fun i hi hn => h i (by omega) hn)
      have h2 := h n (by omega) (fun z => e z.symm)
      by_cases hp : P n
      · rw [cn_yes hp, cn_yes (h2.mp hp)]; omega
      · rw [cn_no hp, cn_no (fun z => hp (h2.mpr z))]; omega
/-- a one-to-one map of the numbers below n -/
def ij_n (g : Nat → Nat) (n : Nat) : Prop := (∀ i, i < n → g i < n) ∧ ∀ i j, i < n → j < n → g i = g j → i = j
theorem ij_down {g : Nat → Nat} {n : Nat} (h : ij_n g (n + 1)) : ij_n (fun i => if g i = n then g n else g i) n := by
  refine ⟨fun i hi => ?_, fun i j hi hj e => ?_⟩
  · have h1 := h.1 i (by omega)
    have h2 := h.1 n (by omega)
    by_cases e : g i = n
    · have : g n ≠ n := fun z => by
        have := h.2 i n (by omega) (by omega) (by rw [e, z])
        omega
      simp only [e, if_true]
      omega
    · simp only [e, if_false]
      omega
  · by_cases e1 : g i = n
    · by_cases e2 : g j = n
      · exact h.2 i j (by omega) (by omega) (by rw [e1, e2])
      · simp only [e1, e2, if_true, if_false] at e
        have := h.2 n j (by omega) (by omega) e
        omega
    · by_cases e2 : g j = n
      · simp only [e1, e2, if_true, if_false] at e
        have := h.2 i n (by omega) (by omega) e
        omega
      · simp only [e1, e2, if_false] at e
        exact h.2 i j (by omega) (by omega) e
theorem ij_onto {g : Nat → Nat} {n : Nat} (h : ij_n g n) : ∀ v, v < n → ∃ i, i < n ∧ g i = v := by
  induction n generalizing g with
  | zero => intro v hv; omega
  | succ n ih =>
    intro v hv
    have h1 := ih (ij_down h)
    by_cases e : v = g n
    · exact ⟨n, by omega, e.symm⟩
    · by_cases ev : v = n
      · have hn : g n < n := by
          have := h.1 n (by omega)
          omega
        obtain ⟨i, hi, hg⟩ := h1 (g n) hn
        by_cases e1 : g i = n
        · exact ⟨i, by omega, by rw [e1, ev]⟩
        · simp only [e1, if_false] at hg
          have := h.2 i n (by omega) (by omega) hg
          omega
      · obtain ⟨i, hi, hg⟩ := h1 v (by omega)
        by_cases e1 : g i = n
        · simp only [e1, if_true] at hg
          exact absurd hg.symm e
        · simp only [e1, if_false] at hg
          exact ⟨i, by omega, hg⟩
theorem cn_perm {g : Nat → Nat} {n : Nat} (h : ij_n g n) (P : Nat → Prop) : cn_t (fun i => P (g i)) n = cn_t P n := by
  induction n generalizing g P with
  | zero => rfl
  | succ n ih =>
    by_cases e : g n = n
    · have h1 : ij_n g n := ⟨fun i hi => by
        have a := h.1 i (by omega)
        have b : g i ≠ n := fun z => by
          have := h.2 i n (by omega) (by omega) (by rw [z, e])
          omega
        omega, fun i j hi hj => h.2 i j (by omega) (by omega)⟩
      have h2 := ih h1 P
      by_cases hp : P n
      · rw [cn_yes (P := fun i => P (g i)) (show P (g n) by rw [e]; exact hp), cn_yes hp, h2]
      · rw [cn_no (P := fun i => P (g i)) (show ¬ P (g n) by rw [e]; exact hp), cn_no hp, h2]
    · have hlt : g n < n := by
        have := h.1 n (by omega)
        omega
      have h2 := ih (ij_down h) (fun v => (v = g n ∧ P n) ∨ (v ≠ g n ∧ P v))
      have h3 : cn_t (fun i => P (g i)) n = cn_t (fun v => (v = g n ∧ P n) ∨ (v ≠ g n ∧ P v)) n := by
        rw [← h2]
        refine cn_congr (fun i hi => ?_)
        by_cases e1 : g i = n
        · simp only [e1, if_true]
          exact ⟨fun z => Or.inl ⟨trivial, z⟩, fun z => z.elim (fun a => a.2) (fun a => absurd rfl a.1)⟩
        · have hne : g i ≠ g n := fun z => by
            have := h.2 i n (by omega) (by omega) z
            omega
          simp only [e1, if_false]
          exact ⟨fun z => Or.inr ⟨hne, z⟩, fun z => z.elim (fun a => absurd a.1 hne) (fun a => a.2)⟩
      have h4 := cn_chg (P := P) (Q := fun v => (v = g n ∧ P n) ∨ (v ≠ g n ∧ P v)) hlt (fun i hi hn => ⟨fun z => Or.inr ⟨hn, z⟩, fun z => z.elim (fun a => absurd a.1 hn) (fun a => a.2)⟩)
      have h5 : ((g n = g n ∧ P n) ∨ (g n ≠ g n ∧ P (g n))) ↔ P n := ⟨fun z => z.elim (fun a => a.2) (fun a => absurd rfl a.1), fun z => Or.inl ⟨rfl, z⟩⟩
      by_cases hp : P n
      · rw [if_pos (h5.mpr hp)] at h4
        rw [cn_yes hp]
        by_cases hg : P (g n)
        · rw [if_pos hg] at h4
          rw [cn_yes (P := fun i => P (g i)) hg, h3]; omega
        · rw [if_neg hg] at h4
          rw [cn_no (P := fun i => P (g i)) hg, h3]; omega
      · rw [if_neg (fun z => hp (h5.mp z))] at h4
        rw [cn_no hp]
        by_cases hg : P (g n)
        · rw [if_pos hg] at h4
          rw [cn_yes (P := fun i => P (g i)) hg, h3]; omega
        · rw [if_neg hg] at h4
          rw [cn_no (P := fun i => P (g i)) hg, h3]; omega
/-- the ending at p is less than that at q (keys k, n places) -/
def el_t (k : Nat → Int) (n p q : Nat) : Prop := ∃ j, p + j < n ∧ q + j < n ∧ (∀ i, i < j → k (p + i) = k (q + i)) ∧ k (p + j) < k (q + j)
/-- a row: its last key is 0, the others are more -/
def rw_k (k : Nat → Int) (n : Nat) : Prop := 0 < n ∧ k (n - 1) = 0 ∧ ∀ i, i + 1 < n → 0 < k i
theorem el_irr {k : Nat → Int} {n p : Nat} : ¬ el_t k n p p := fun ⟨j, _, _, _, h⟩ => by omega
theorem el_trans {k : Nat → Int} {n p q r : Nat} (h1 : el_t k n p q) (h2 : el_t k n q r) : el_t k n p r := by
  obtain ⟨a, a1, a2, a3, a4⟩ := h1
  obtain ⟨b, b1, b2, b3, b4⟩ := h2
  rcases Nat.lt_trichotomy a b with h | h | h
  · exact ⟨a, a1, by omega, fun i hi => by rw [a3 i hi, b3 i (by omega)], by rw [← b3 a h]; exact a4⟩
  · subst h
    exact ⟨a, a1, b2, fun i hi => by rw [a3 i hi, b3 i hi], by omega⟩
  · exact ⟨b, by omega, b2, fun i hi => by rw [a3 i (by omega), b3 i hi], by rw [a3 b h]; exact b4⟩
theorem el_step {k : Nat → Int} {n p q : Nat} (hp : p < n) (hq : q < n) : el_t k n p q ↔ (k p < k q ∨ (k p = k q ∧ el_t k n (p + 1) (q + 1))) := by
  constructor
  · rintro ⟨j, h1, h2, h3, h4⟩
    cases j with
    | zero => exact Or.inl h4
    | succ j =>
      refine Or.inr ⟨h3 0 (by omega), j, by omega, by omega, fun i hi => ?_, ?_⟩
      · have := h3 (i + 1) (by omega)
        rw [show p + 1 + i = p + (i + 1) by omega, show q + 1 + i = q + (i + 1) by omega]
        exact this
      · rw [show p + 1 + j = p + (j + 1) by omega, show q + 1 + j = q + (j + 1) by omega]
        exact h4
  · rintro (h | ⟨h, j, h1, h2, h3, h4⟩)
    · exact ⟨0, hp, hq, fun i hi => by omega, h⟩
    · refine ⟨j + 1, by omega, by omega, fun i hi => ?_, ?_⟩
      · cases i with
        | zero => exact h
        | succ i =>
          have := h3 i (by omega)
          rw [show p + 1 + i = p + (i + 1) by omega, show q + 1 + i = q + (i + 1) by omega] at this
          exact this
      · rw [show p + 1 + j = p + (j + 1) by omega, show q + 1 + j = q + (j + 1) by omega] at h4
        exact h4
theorem el_tot {k : Nat → Int} {n p q : Nat} (hk : rw_k k n) (hp : p < n) (hq : q < n) (hne : p ≠ q) : el_t k n p q ∨ el_t k n q p := by
  have key : ∀ a b, a < b → b < n → el_t k n a b ∨ el_t k n b a := by
    intro a b hab hb
    obtain ⟨j, hj1, hj2⟩ := pk_least (fun j => k (a + j) ≠ k (b + j)) ⟨n - 1 - b, by
      have e : b + (n - 1 - b) = n - 1 := by omega
      have := hk.2.2 (a + (n - 1 - b)) (by omega)
      rw [e, hk.2.1]; omega⟩
    have hjn : b + j < n := by
      rcases Nat.lt_or_ge (b + j) n with h | h
      · exact h
      · exact absurd (by
          have e : b + (n - 1 - b) = n - 1 := by omega
          have := hk.2.2 (a + (n - 1 - b)) (by omega)
          show k (a + (n - 1 - b)) ≠ k (b + (n - 1 - b))
          rw [e, hk.2.1]; omega) (hj2 (n - 1 - b) (by omega))
    have heq : ∀ i, i < j → k (a + i) = k (b + i) := fun i hi => Classical.byContradiction (fun z => hj2 i hi z)
    rcases Int.lt_or_gt_of_ne hj1 with h | h
    · exact Or.inl ⟨j, by omega, hjn, heq, h⟩
    · exact Or.inr ⟨j, hjn, by omega, fun i hi => (heq i hi).symm, h⟩
  rcases Nat.lt_or_gt_of_ne hne with h | h
  · exact key p q h hq
  · exact (key q p h hp).symm
theorem el_asym {k : Nat → Int} {n p q : Nat} (h : el_t k n p q) : ¬ el_t k n q p := fun z => el_irr (el_trans h z)
/-- how many endings that begin at m or later are less than that at p -/
noncomputable def rk_m (k : Nat → Int) (n m p : Nat) : Nat := cn_t (fun q => m ≤ q ∧ el_t k n q p) n
theorem rk_lt {k : Nat → Int} {n m p q : Nat} (hp : p < n) (hm : m ≤ p) (h : el_t k n p q) : rk_m k n m p < rk_m k n m q :=
  cn_lt (fun _ _ z => ⟨z.1, el_trans z.2 h⟩) hp ⟨hm, h⟩ (fun z => el_irr z.2)
theorem rk_iff {k : Nat → Int} {n m p q : Nat} (hk : rw_k k n) (hp : p < n) (hq : q < n) (hmp : m ≤ p) (hmq : m ≤ q) : el_t k n p q ↔ rk_m k n m p < rk_m k n m q := by
  refine ⟨rk_lt hp hmp, fun h => ?_⟩
  by_cases e : p = q
  · subst e; omega
  · rcases el_tot hk hp hq e with z | z
    · exact z
    · have := rk_lt (m := m) hq hmq z
      omega
theorem rk_bnd {k : Nat → Int} {n m p : Nat} (hp : p < n) (hm : m ≤ p) : rk_m k n m p + m < n := by
  have h1 : rk_m k n m p < cn_t (fun q => m ≤ q) n := cn_lt (fun _ _ z => z.1) hp hm (fun z => el_irr z.2)
  have h2 : ∀ c, cn_t (fun q => m ≤ q) c = c - m := by
    intro c
    induction c with
    | zero => show 0 = _; omega
    | succ c ih =>
      by_cases h : m ≤ c
      · rw [cn_yes (P := fun q => m ≤ q) h, ih]; omega
      · rw [cn_no (P := fun q => m ≤ q) h, ih]; omega
  rw [h2] at h1
  omega
/-- the rank of an ending among all -/
noncomputable def rk_a (k : Nat → Int) (n p : Nat) : Nat := rk_m k n 0 p
theorem rk_ij {k : Nat → Int} {n : Nat} (hk : rw_k k n) : ij_n (rk_a k n) n := by
  refine ⟨fun p hp => by have := rk_bnd (k := k) (m := 0) hp (Nat.zero_le _); unfold rk_a; omega, fun p q hp hq e => ?_⟩
  by_cases z : p = q
  · exact z
  · rcases el_tot hk hp hq z with h | h
    · have := rk_lt (m := 0) hp (Nat.zero_le _) h
      unfold rk_a at e; omega
    · have := rk_lt (m := 0) hq (Nat.zero_le _) h
      unfold rk_a at e; omega
/-- one more ending in front: its rank, and what that does to the others' -/
theorem rk_new {k : Nat → Int} {n m p : Nat} (hk : rw_k k n) (hm : m < n) (hp : p < n) (hmp : m < p) : rk_m k n m p = rk_m k n (m + 1) p + @ite Nat (rk_m k n (m + 1) m ≤ rk_m k n (m + 1) p) (Nat.decLe _ _) 1 0 := by
  have h1 : rk_m k n m p = cn_t (fun q => (m + 1 ≤ q ∧ el_t k n q p) ∨ (q = m ∧ el_t k n m p)) n := by
    refine cn_congr (fun q hq => ⟨fun z => ?_, fun z => ?_⟩)
    · by_cases e : q = m
      · subst e; exact Or.inr ⟨rfl, z.2⟩
      · exact Or.inl ⟨by omega, z.2⟩
    · rcases z with z | ⟨e, z⟩
      · exact ⟨by omega, z.2⟩
      · subst e; exact ⟨Nat.le_refl _, z⟩
  rw [h1, cn_or (fun q hq z w => by omega)]
  have h2 : el_t k n m p ↔ rk_m k n (m + 1) m ≤ rk_m k n (m + 1) p := by
    constructor
    · intro z
      exact cn_mono (fun q _ w => ⟨w.1, el_trans w.2 z⟩)
    · intro z
      rcases el_tot hk hm hp (by omega) with w | w
      · exact w
      · have := rk_lt (k := k) (n := n) (m := m + 1) (p := p) (q := m) hp (by omega) w
        omega
  have h3 : ∀ c, cn_t (fun q => q = m ∧ el_t k n m p) c = if m < c ∧ rk_m k n (m + 1) m ≤ rk_m k n (m + 1) p then 1 else 0 := by
    intro c
    induction c with
    | zero => rw [if_neg (by omega)]; rfl
    | succ c ih =>
      by_cases h : rk_m k n (m + 1) m ≤ rk_m k n (m + 1) p
      · by_cases e : c = m
        · rw [cn_yes (P := fun q => q = m ∧ el_t k n m p) ⟨e, h2.mpr h⟩, ih, if_neg (by omega), if_pos ⟨by omega, h⟩]
        · rw [cn_no (P := fun q => q = m ∧ el_t k n m p) (fun z => e z.1), ih]
          by_cases g : m < c
          · rw [if_pos ⟨g, h⟩, if_pos ⟨by omega, h⟩]
          · rw [if_neg (fun z => g z.1), if_neg (fun z => by omega)]
      · rw [cn_no (P := fun q => q = m ∧ el_t k n m p) (fun z => h (h2.mp z.2)), ih, if_neg (fun z => h z.2), if_neg (fun z => h z.2)]
  rw [h3 n]
  by_cases h : rk_m k n (m + 1) m ≤ rk_m k n (m + 1) p
  · rw [if_pos ⟨hm, h⟩, if_pos h]; rfl
  · rw [if_neg (fun z => h z.2), if_neg h]; rfl
theorem rk_self {k : Nat → Int} {n m : Nat} : rk_m k n m m = rk_m k n (m + 1) m := by
  refine cn_congr (fun q hq => ⟨fun z => ⟨?_, z.2⟩, fun z => ⟨by omega, z.2⟩⟩)
  by_cases e : q = m
  · subst e; exact absurd z.2 el_irr
  · omega
