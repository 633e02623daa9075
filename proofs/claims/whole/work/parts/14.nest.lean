/-! words of nest mates -/
theorem n_mem {w : Cond} (h : w ∈ tables_1) (hn : n_isN w = true) : w ∈ n_all := List.mem_filter.mpr ⟨h, hn⟩
theorem n_46 : (.methodLinkNest "ReadMapper" 26 y_In_init "ReadMapper") ∈ n_all := n_mem (List.mem_append_left _ (List.mem_of_getElem? (i := 46) (by decide +kernel))) (by decide +kernel)
theorem n_60 : (.fieldLinkNest "ReadMapper$Index" 94 "ReadMapper$Pieces" "names" "[LReadMapper$Codes;" "ReadMapper") ∈ n_all := n_mem (List.mem_append_left _ (List.mem_of_getElem? (i := 60) (by decide +kernel))) (by decide +kernel)
theorem n_63 : (.fieldLinkNest "ReadMapper$Index" 98 "ReadMapper$Pieces" "lengths" "[I" "ReadMapper") ∈ n_all := n_mem (List.mem_append_left _ (List.mem_of_getElem? (i := 63) (by decide +kernel))) (by decide +kernel)
theorem n_65 : (.fieldLinkNest "ReadMapper$Index" 46 "ReadMapper$Pieces" "row" "[I" "ReadMapper") ∈ n_all := n_mem (List.mem_append_left _ (List.mem_of_getElem? (i := 65) (by decide +kernel))) (by decide +kernel)
theorem n_67 : (.fieldLinkNest "ReadMapper$Index" 91 "ReadMapper$Pieces" "number" "I" "ReadMapper") ∈ n_all := n_mem (List.mem_append_left _ (List.mem_of_getElem? (i := 67) (by decide +kernel))) (by decide +kernel)
theorem n_68 : (.fieldLinkNest "ReadMapper$Index" 32 "ReadMapper$Pieces" "places" "I" "ReadMapper") ∈ n_all := n_mem (List.mem_append_left _ (List.mem_of_getElem? (i := 68) (by decide +kernel))) (by decide +kernel)
theorem n_84 : (.fieldLinkNest "ReadMapper$ImageReader" 32 "ReadMapper$Index" "pieces" "LReadMapper$Pieces;" "ReadMapper") ∈ n_all := n_mem (List.mem_append_left _ (List.mem_of_getElem? (i := 84) (by decide +kernel))) (by decide +kernel)
theorem n_85 : (.fieldLinkNest "ReadMapper" 103 "ReadMapper$Index" "pieces" "LReadMapper$Pieces;" "ReadMapper") ∈ n_all := n_mem (List.mem_append_left _ (List.mem_of_getElem? (i := 85) (by decide +kernel))) (by decide +kernel)
theorem n_88 : (.fieldLinkNest "ReadMapper$ImageReader" 92 "ReadMapper$Index" "turnedRow" "[I" "ReadMapper") ∈ n_all := n_mem (List.mem_append_left _ (List.mem_of_getElem? (i := 88) (by decide +kernel))) (by decide +kernel)
theorem n_104 : (.methodLinkNest "ReadMapper" 40 y_Re_init "ReadMapper") ∈ n_all := n_mem (List.mem_append_left _ (List.mem_of_getElem? (i := 104) (by decide +kernel))) (by decide +kernel)
theorem n_111 : (.fieldLinkNest "ReadMapper$RecordWriter" 23 "ReadMapper$Read" "name" "LReadMapper$Codes;" "ReadMapper") ∈ n_all := n_mem (List.mem_append_left _ (List.mem_of_getElem? (i := 111) (by decide +kernel))) (by decide +kernel)
theorem n_115 : (.fieldLinkNest "ReadMapper$RecordWriter" 107 "ReadMapper$Read" "qualities" "LReadMapper$Codes;" "ReadMapper") ∈ n_all := n_mem (List.mem_append_left _ (List.mem_of_getElem? (i := 115) (by decide +kernel))) (by decide +kernel)
theorem n_127 : (.methodLinkNest "ReadMapper" 50 y_Hi_init "ReadMapper") ∈ n_all := n_mem (List.mem_append_left _ (List.mem_of_getElem? (i := 127) (by decide +kernel))) (by decide +kernel)
theorem n_134 : (.fieldLinkNest "ReadMapper$RecordWriter" 61 "ReadMapper$Hits" "pieceNumbers" "LReadMapper$Codes;" "ReadMapper") ∈ n_all := n_mem (List.mem_append_left _ (List.mem_of_getElem? (i := 134) (by decide +kernel))) (by decide +kernel)
theorem n_136 : (.fieldLinkNest "ReadMapper$RecordWriter" 70 "ReadMapper$Hits" "placeNumbers" "LReadMapper$Codes;" "ReadMapper") ∈ n_all := n_mem (List.mem_append_left _ (List.mem_of_getElem? (i := 136) (by decide +kernel))) (by decide +kernel)
theorem n_138 : (.fieldLinkNest "ReadMapper$RecordWriter" 42 "ReadMapper$Hits" "strands" "LReadMapper$Codes;" "ReadMapper") ∈ n_all := n_mem (List.mem_append_left _ (List.mem_of_getElem? (i := 138) (by decide +kernel))) (by decide +kernel)
theorem n_140 : (.fieldLinkNest "ReadMapper$RecordWriter" 84 "ReadMapper$Hits" "mismatches" "LReadMapper$Codes;" "ReadMapper") ∈ n_all := n_mem (List.mem_append_left _ (List.mem_of_getElem? (i := 140) (by decide +kernel))) (by decide +kernel)
theorem n_141 : (.fieldLinkNest "ReadMapper$RecordWriter" 54 "ReadMapper$Hits" "best" "I" "ReadMapper") ∈ n_all := n_mem (List.mem_append_left _ (List.mem_of_getElem? (i := 141) (by decide +kernel))) (by decide +kernel)
theorem n_143 : (.fieldLinkNest "ReadMapper$RecordWriter" 73 "ReadMapper$Hits" "quality" "I" "ReadMapper") ∈ n_all := n_mem (List.mem_append_left _ (List.mem_of_getElem? (i := 143) (by decide +kernel))) (by decide +kernel)
theorem n_160 : (.methodLinkNest "ReadMapper" 57 y_Wr_init "ReadMapper") ∈ n_all := n_mem (List.mem_append_left _ (List.mem_of_getElem? (i := 160) (by decide +kernel))) (by decide +kernel)
theorem n_167 : (.fieldLinkNest "ReadMapper" 193 "ReadMapper$RecordWriter" "line" "LReadMapper$Codes;" "ReadMapper") ∈ n_all := n_mem (List.mem_append_left _ (List.mem_of_getElem? (i := 167) (by decide +kernel))) (by decide +kernel)
theorem n_173 : (.methodLinkNest "ReadMapper" 70 y_Im_init "ReadMapper") ∈ n_all := n_mem (List.mem_append_left _ (List.mem_of_getElem? (i := 173) (by decide +kernel))) (by decide +kernel)
theorem n_435 : (.methodLinkNest "ReadMapper$RecordWriter" 117 y_Rm_differ "ReadMapper") ∈ n_all := n_mem (List.mem_append_right _ (List.mem_append_left _ (List.mem_of_getElem? (i := 195) (by decide +kernel)))) (by decide +kernel)
theorem n_603 : (.methodLinkNest "ReadMapper$Pieces" 61 y_Rm_isMark "ReadMapper") ∈ n_all := n_mem (List.mem_append_right _ (List.mem_append_right _ (List.mem_append_left _ (List.mem_of_getElem? (i := 123) (by decide +kernel))))) (by decide +kernel)
theorem n_690 : (.methodLinkNest "ReadMapper$Read" 33 y_Rm_readName "ReadMapper") ∈ n_all := n_mem (List.mem_append_right _ (List.mem_append_right _ (List.mem_append_left _ (List.mem_of_getElem? (i := 210) (by decide +kernel))))) (by decide +kernel)
theorem n_691 : (.methodLinkNest "ReadMapper$Read" 37 y_Rm_readBases "ReadMapper") ∈ n_all := n_mem (List.mem_append_right _ (List.mem_append_right _ (List.mem_append_left _ (List.mem_of_getElem? (i := 211) (by decide +kernel))))) (by decide +kernel)
theorem n_697 : (.fieldLinkNest "ReadMapper$Read" 54 "ReadMapper" "COMPLEMENTS" "[I" "ReadMapper") ∈ n_all := n_mem (List.mem_append_right _ (List.mem_append_right _ (List.mem_append_left _ (List.mem_of_getElem? (i := 217) (by decide +kernel))))) (by decide +kernel)
theorem n_722 : (.methodLinkNest "ReadMapper$Pieces" 69 y_Rm_differ "ReadMapper") ∈ n_all := n_mem (List.mem_append_right _ (List.mem_append_right _ (List.mem_append_right _ (List.mem_append_left _ (List.mem_of_getElem? (i := 2) (by decide +kernel)))))) (by decide +kernel)
theorem n_754 : (.fieldLinkNest "ReadMapper$Index" 75 "ReadMapper" "IMAGE_HEAD" "[I" "ReadMapper") ∈ n_all := n_mem (List.mem_append_right _ (List.mem_append_right _ (List.mem_append_right _ (List.mem_append_left _ (List.mem_of_getElem? (i := 34) (by decide +kernel)))))) (by decide +kernel)
theorem n_776 : (.fieldLinkNest "ReadMapper$ImageReader" 20 "ReadMapper" "IMAGE_HEAD" "[I" "ReadMapper") ∈ n_all := n_mem (List.mem_append_right _ (List.mem_append_right _ (List.mem_append_right _ (List.mem_append_left _ (List.mem_of_getElem? (i := 56) (by decide +kernel)))))) (by decide +kernel)
theorem n_817 : (.methodLinkNest "ReadMapper$ImageReader" 77 y_Rm_readName "ReadMapper") ∈ n_all := n_mem (List.mem_append_right _ (List.mem_append_right _ (List.mem_append_right _ (List.mem_append_left _ (List.mem_of_getElem? (i := 97) (by decide +kernel)))))) (by decide +kernel)
/-! settle, mismatches in mathematics -/
def se_c (rw : Nat → Int32) (p : Nat) (x : Int32) : Nat → Int32 := if 1 < x ∧ 1 < rw p then upd rw p x else rw
/-- do two symbols differ (N differs from everything): 1 or 0 -/
def df_n (x z : Int32) : Nat := if x = z ∧ ¬ x = 5 then 0 else 1
/-- how many of the first n bases differ from the row's from o on -/
def mm_c (f : Nat → Int32) (o : Nat) (B : List Int32) : Nat → Nat
  | 0 => 0
  | n + 1 => mm_c f o B n + df_n (f (o + n)) (B.getD n 0)
theorem mm_1 {f : Nat → Int32} {o i n : Nat} {B : List Int32} (h : n = mm_c f o B i) (hd : ¬ f (o + i) = B.getD i 0 ∨ f (o + i) = 5) : n + 1 = mm_c f o B (i + 1) := by
  show _ = mm_c f o B i + df_n _ _
  rw [← h, df_n, if_neg (fun z => hd.elim (fun a => a z.1) (fun a => z.2 a))]
theorem mm_0 {f : Nat → Int32} {o i n : Nat} {B : List Int32} (h : n = mm_c f o B i) (hd : f (o + i) = B.getD i 0 ∧ ¬ f (o + i) = 5) : n = mm_c f o B (i + 1) := by
  show _ = mm_c f o B i + df_n _ _
  rw [← h, df_n, if_pos hd]; rfl
theorem mm_le (f : Nat → Int32) (o : Nat) (B : List Int32) (i : Nat) : mm_c f o B i ≤ i := by
  induction i with
  | zero => exact Nat.le_refl _
  | succ i ih =>
    have : df_n (f (o + i)) (B.getD i 0) ≤ 1 := by unfold df_n; split <;> omega
    show mm_c f o B i + df_n _ _ ≤ i + 1
    omega
theorem mm_mono (f : Nat → Int32) (o : Nat) (B : List Int32) {i j : Nat} (h : i ≤ j) : mm_c f o B i ≤ mm_c f o B j := by
  induction j with
  | zero => rw [show i = 0 by omega]; exact Nat.le_refl _
  | succ j ih =>
    by_cases e : i = j + 1
    · subst e; exact Nat.le_refl _
    · have := ih (by omega)
      show _ ≤ mm_c f o B j + df_n _ _
      omega
