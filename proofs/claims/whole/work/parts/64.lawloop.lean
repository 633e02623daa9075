/-! the law's loop: what holds between the class and the reference -/
abbrev b_La_law : ByteArray := code
def lw_1 (cf tf : Nat → Int32) (L : List Int32) : Prop := cd_r 72 cf L ∧ cd_r 72 tf L ∧ tx_p L
def lw_2 (tnf tbf wlf duf mnf : Nat → Int32) (TN TB WLl LD MN : List Int32) : Prop := cd_r 8 tnf TN ∧ cd_r 72 tbf TB ∧ cd_r 128 wlf WLl ∧ cd_r 189 duf LD ∧ cd_r 8 mnf MN
def lw_3 (g : Nat → Option Nat) (na : Nat → Nat) (cnf : Nat → Nat → Int32) (NM : Nat → List Int32) : Prop := (∀ i, i < 5 → g i = some (na i)) ∧ ∀ i, i < 5 → cd_r 8 (cnf i) (NM i)
def lw_4 (fn ff fb fq : Nat → Int32) (RN RF RB RQ : List Int32) : Prop := cd_r 8 fn RN ∧ cd_r 20 ff RF ∧ cd_r 20 fb RB ∧ cd_r 20 fq RQ
/-- the pieces -/
def lw_5 (np : Nat) (NM BS : Nat → List Int32) (pl : Nat) (st ln rw nf sz bc bf : Nat → Int32) (tot : Nat) : Prop := vq_p np NM BS ∧ pl = pl_c np BS ∧ sl_q np BS st ln ∧ gr_p np BS rw ∧ rq_p np NM BS nf sz bc bf ∧ tot = tt_c (bl_c BS) np ∧ ∀ z, z < 40 → ch_p (nf z)
/-- the index -/
def lw_6 (rd : Bool) (np rt mrt pl mpl : Nat) (rw sf tr mrw of1 : Nat → Int32) (so : Nat → Nat) : Prop := mpl ≤ 65 ∧ (rd = true → 1 ≤ np ∧ (1 ≤ rt ∧ rt ≤ 8) ∧ mrt = rt ∧ mpl = pl ∧ rw_k (ky_c rw) pl ∧ (∀ z, z < pl → mrw z = rw z) ∧ (∀ j, j < pl → sf j = nI (so j) ∧ so j < pl) ∧ (∀ j, j < pl → of1 j = nI (so j) ∧ so j < pl) ∧ iv_p rw pl so ∧ ∀ j, j < pl → tr j = bf_c rw so j)
/-- what was sought last -/
def lw_7 (wf : Nat → Int32) (Wd : List Int32) (fo : Int32) (rd : Bool) (pl : Nat) (rw : Nat → Int32) (so : Nat → Nat) : Prop := cd_r 72 wf Wd ∧ ((Wd = [] ∧ fo = -1) ∨ (¬ Wd = [] ∧ rd = true ∧ ((∃ k, fo = nI k ∧ k < pl ∧ bw_p rw pl Wd (so k) ∧ ∀ j, j < k → ¬ bw_p rw pl Wd (so j)) ∨ (fo = -1 ∧ ∀ j, j < pl → ¬ bw_p rw pl Wd (so j)))))
def lw_8 (h1f h2f h3f h4f : Nat → Int32) (XC : List (Nat × Nat × Nat × Nat)) (g1 g2 g3 g4 : Nat → Int32) (XM : List (Nat × Nat × Nat × Nat)) : Prop := (cd_r 120 h1f (hp_c XC) ∧ cd_r 120 h2f (hl_c XC) ∧ cd_r 120 h3f (hs_c XC) ∧ cd_r 120 h4f (hm_c XC)) ∧ cd_r 128 g1 (hp_c XM) ∧ cd_r 128 g2 (hl_c XM) ∧ cd_r 128 g3 (hs_c XM) ∧ cd_r 128 g4 (hm_c XM)
/-- the read that was mapped last -/
def lw_9 (mp rd : Bool) (XC XM : List (Nat × Nat × Nat × Nat)) (rw : Nat → Int32) (BS : Nat → List Int32) (np : Nat) (RN RF RB RQ : List Int32) (bst qn : Nat) (df : Nat → Int32) (RL : List Int32) (mrn mrs : Nat) (gd : Bool) (kk : Nat) : Prop :=
  (mp = false → XM = []) ∧ (mp = true → rd = true ∧ XC = XM ∧ XM = hn_c rw (bl_c BS) RF RB kk np ∧ kk ≤ 3 ∧ (cd_r 72 df RL ∧ tx_p RL) ∧ (RF = (sl_p RL (mrn + 1) (mrn + 1 + mrs)).map sy_c ∧ mrn + 1 + mrs ≤ RL.length ∧ (1 ≤ mrs ∧ mrs ≤ 20) ∧ mrn ≤ 8 ∧ (gd = true → RL.length = mrn + mrs + 2 + mrs)) ∧ (∀ i, i < RF.length → s5_p (RF.getD i 0)) ∧ (RN = sl_p RL 0 mrn ∧ RB = tb_c RF 0 ∧ RQ = rq_c RL gd mrn mrs) ∧ bst = be_c (fun j => (hm_c XM).getD j 0) XM.length ∧ qn < 100 ∧ nI qn = qy_c (at_c (hm_c XM) (nI (be_c (fun j => (hm_c XM).getD j 0) XM.length))) XM)
def lw_10 (imf yf : Nat → Int32) (J : List Int32) : Prop := cd_r 189 imf J ∧ cd_r 200 yf J ∧ by_p J
/-- what stays as it is while the law runs -/
def lw_C (p : Program) (e : Env) (s : State) (m : MethodId) (c : Code) (D : va_G) (cA : Nat → ClassId) (K : Nat → Nat) (A : Nat → Prop) (b Ls : Nat) (xs : Nat → Int32) : Prop :=
  p.tables.exec = Jvm.exec ∧ c.code = b_La_law ∧ c.maxLocals = 7 ∧ s.vm.findClass "ReadMapperLaw" = some m.cls ∧ (∀ w ∈ w_all, w.before #[Value.ref b] s = true) ∧ va_K D vwCl (ty_s cA) s ∧ en_v K A s s.heap ∧ (∀ q, s.heap.size ≤ q → A q) ∧ e.platform.stackTraces = false ∧ th_v A s s.heap ∧ va_X b Ls xs s s.heap ∧ b < s.heap.size ∧ ¬ A b ∧ Ls ≤ 1536

set_option maxRecDepth 100000 in
/-- the loop's state at a place of the law -/
def lw_I (p : Program) (l : Launch) (e : Env) (s : State) (m : MethodId) (below : List Frame) (meth : Method) (c : Code) (Q : State → Prop) (D : va_G) (cA : Nat → ClassId) (A : Nat → Prop) (b i pc cells slots : Nat) : Prop :=
  ∀ (xa tx txb tn tnb tb tbb ia pa pn ps pln pr ix it ik ia9 pa9 pn9 ps9 pln9 pr9 ix9 it9 ik9 ra rn rnb rf rfb rb rbb rq rqb ra9 rn9 rnb9 rf9 rfb9 rb9 rbb9 rq9 rqb9 ha hp hpb hl_ hlb hs_ hsb hm_ hmb wa wl wlb im imb du dub ma mn mnb oa : Nat) (na nb na9 nb9 so : Nat → Nat) (g g9 : Nat → Option Nat) (mo ta aN aS aC aB aR aO aW aD a1 a2 a3 a4 aL aY aM bN bS bC bB bR bO aU : Nat) (rd mp gd : Bool) (fo zt ir : Int32) (rt np pl rt9 np9 pl9 bst qn nx tot mrt mpl mrn mrs td ms ip mit il kk : Nat) (cf tnf tbf st ln rw sf tr rk st9 ln9 rw9 sf9 tr9 rk9 fn ff fb fq fn9 ff9 fb9 fq9 h1f h2f h3f h4f wlf imf duf mnf tf nf sz bc bf mrw of wf df g1 g2 g3 g4 lf yf mf uf kr ko kb kn ks kc : Nat → Int32) (cnf cnf9 : Nat → Nat → Int32) (NM NM9 BS : Nat → List Int32) (L TN TB RN RF RB RQ RN9 RF9 RB9 RQ9 WLl J LD MN Wd RL : List Int32) (XC XM : List (Nat × Nat × Nat × Nat)) (ou : Nat → Int64) (H : Heap) (locs : List Loc) (ls : Array Slot), (lw_1 cf tf L) → (lw_2 tnf tbf wlf duf mnf TN TB WLl LD MN) → (lw_3 g na cnf NM) → (lw_3 g9 na9 cnf9 NM9) → (lw_4 fn ff fb fq RN RF RB RQ) → (lw_4 fn9 ff9 fb9 fq9 RN9 RF9 RB9 RQ9) → (lw_5 np NM BS pl st ln rw nf sz bc bf tot) → (lw_6 rd np rt mrt pl mpl rw sf tr mrw of so) → (lw_7 wf Wd fo rd pl rw so) → (lw_8 h1f h2f h3f h4f XC g1 g2 g3 g4 XM) → (lw_9 mp rd XC XM rw BS np RN RF RB RQ bst qn df RL mrn mrs gd kk) → (lw_10 imf yf J) → va_P D vwCl [(xa, .inr (7, [.ref tx, .ref tn, .ref tb, .ref ia, .ref ia9, .int (bz_c rd), .int fo, .ref ra, .ref ra9, .int (bz_c mp), .ref ha, .ref wa, .ref im, .ref du, .ref ma])), (tx, .inr (0, [.ref txb, .int (nI L.length)])), (txb, .inl (cA 0, 72, .inl cf)), (tn, .inr (0, [.ref tnb, .int (nI TN.length)])), (tnb, .inl (cA 0, 8, .inl tnf)), (tb, .inr (0, [.ref tbb, .int (nI TB.length)])), (tbb, .inl (cA 0, 72, .inl tbf)), (ia, .inr (3, [.ref pa, .ref ix, .ref it, .ref ik, .int (nI rt)])), (pa, .inr (4, [.ref pn, .ref ps, .ref pln, .ref pr, .int (nI np), .int (nI pl)])), (pn, .inl (cA 3, 5, .inr (.inr (.inr (.inr g))))), (ps, .inl (cA 0, 5, .inl st)), (pln, .inl (cA 0, 5, .inl ln)), (pr, .inl (cA 0, 65, .inl rw)), (na 0, .inr (0, [.ref (nb 0), .int (nI ((NM 0).length))])), (nb 0, .inl (cA 0, 8, .inl (cnf 0))), (na 1, .inr (0, [.ref (nb 1), .int (nI ((NM 1).length))])), (nb 1, .inl (cA 0, 8, .inl (cnf 1))), (na 2, .inr (0, [.ref (nb 2), .int (nI ((NM 2).length))])), (nb 2, .inl (cA 0, 8, .inl (cnf 2))), (na 3, .inr (0, [.ref (nb 3), .int (nI ((NM 3).length))])), (nb 3, .inl (cA 0, 8, .inl (cnf 3))), (na 4, .inr (0, [.ref (nb 4), .int (nI ((NM 4).length))])), (nb 4, .inl (cA 0, 8, .inl (cnf 4))), (ix, .inl (cA 0, 65, .inl sf)), (it, .inl (cA 0, 65, .inl tr)), (ik, .inl (cA 0, 66, .inl rk)), (ia9, .inr (3, [.ref pa9, .ref ix9, .ref it9, .ref ik9, .int (nI rt9)])), (pa9, .inr (4, [.ref pn9, .ref ps9, .ref pln9, .ref pr9, .int (nI np9), .int (nI pl9)])), (pn9, .inl (cA 3, 5, .inr (.inr (.inr (.inr g9))))), (ps9, .inl (cA 0, 5, .inl st9)), (pln9, .inl (cA 0, 5, .inl ln9)), (pr9, .inl (cA 0, 65, .inl rw9)), (na9 0, .inr (0, [.ref (nb9 0), .int (nI ((NM9 0).length))])), (nb9 0, .inl (cA 0, 8, .inl (cnf9 0))), (na9 1, .inr (0, [.ref (nb9 1), .int (nI ((NM9 1).length))])), (nb9 1, .inl (cA 0, 8, .inl (cnf9 1))), (na9 2, .inr (0, [.ref (nb9 2), .int (nI ((NM9 2).length))])), (nb9 2, .inl (cA 0, 8, .inl (cnf9 2))), (na9 3, .inr (0, [.ref (nb9 3), .int (nI ((NM9 3).length))])), (nb9 3, .inl (cA 0, 8, .inl (cnf9 3))), (na9 4, .inr (0, [.ref (nb9 4), .int (nI ((NM9 4).length))])), (nb9 4, .inl (cA 0, 8, .inl (cnf9 4))), (ix9, .inl (cA 0, 65, .inl sf9)), (it9, .inl (cA 0, 65, .inl tr9)), (ik9, .inl (cA 0, 66, .inl rk9)), (ra, .inr (5, [.ref rn, .ref rf, .ref rb, .ref rq])), (rn, .inr (0, [.ref rnb, .int (nI RN.length)])), (rnb, .inl (cA 0, 8, .inl fn)), (rf, .inr (0, [.ref rfb, .int (nI RF.length)])), (rfb, .inl (cA 0, 20, .inl ff)), (rb, .inr (0, [.ref rbb, .int (nI RB.length)])), (rbb, .inl (cA 0, 20, .inl fb)), (rq, .inr (0, [.ref rqb, .int (nI RQ.length)])), (rqb, .inl (cA 0, 20, .inl fq)), (ra9, .inr (5, [.ref rn9, .ref rf9, .ref rb9, .ref rq9])), (rn9, .inr (0, [.ref rnb9, .int (nI RN9.length)])), (rnb9, .inl (cA 0, 8, .inl fn9)), (rf9, .inr (0, [.ref rfb9, .int (nI RF9.length)])), (rfb9, .inl (cA 0, 20, .inl ff9)), (rb9, .inr (0, [.ref rbb9, .int (nI RB9.length)])), (rbb9, .inl (cA 0, 20, .inl fb9)), (rq9, .inr (0, [.ref rqb9, .int (nI RQ9.length)])), (rqb9, .inl (cA 0, 20, .inl fq9)), (ha, .inr (1, [.ref hp, .ref hl_, .ref hs_, .ref hm_, .int (nI bst), .int (nI qn)])), (hp, .inr (0, [.ref hpb, .int (nI ((hp_c XC).length))])), (hpb, .inl (cA 0, 120, .inl h1f)), (hl_, .inr (0, [.ref hlb, .int (nI ((hl_c XC).length))])), (hlb, .inl (cA 0, 120, .inl h2f)), (hs_, .inr (0, [.ref hsb, .int (nI ((hs_c XC).length))])), (hsb, .inl (cA 0, 120, .inl h3f)), (hm_, .inr (0, [.ref hmb, .int (nI ((hm_c XC).length))])), (hmb, .inl (cA 0, 120, .inl h4f)), (wa, .inr (6, [.ref wl])), (wl, .inr (0, [.ref wlb, .int (nI WLl.length)])), (wlb, .inl (cA 0, 128, .inl wlf)), (im, .inr (0, [.ref imb, .int (nI J.length)])), (imb, .inl (cA 0, 189, .inl imf)), (du, .inr (0, [.ref dub, .int (nI LD.length)])), (dub, .inl (cA 0, 189, .inl duf)), (ma, .inr (2, [.ref mn, .int (nI nx)])), (mn, .inr (0, [.ref mnb, .int (nI MN.length)])), (mnb, .inl (cA 0, 8, .inl mnf)), (oa, .inl (cA 2, 1, .inr (.inl ou))), (mo, .inr (8, [.int zt, .int (nI L.length), .ref ta, .int (nI np), .ref aN, .ref aS, .ref aC, .int (nI tot), .ref aB, .int (bz_c rd), .int (nI mrt), .int (nI mpl), .ref aR, .ref aO, .int (nI Wd.length), .ref aW, .int (bz_c mp), .int (nI mrn), .int (nI mrs), .int (bz_c gd), .ref aD, .int (nI XM.length), .ref a1, .ref a2, .ref a3, .ref a4, .int (nI td), .ref aL, .int (nI J.length), .ref aY, .int (nI ms), .ref aM, .int (nI ip), .int (nI mit), .int ir, .int (nI il), .ref bN, .ref bS, .ref bC, .ref bB, .ref bR, .ref bO, .ref aU])), (ta, .inl (cA 1, 72, .inl tf)), (aN, .inl (cA 1, 40, .inl nf)), (aS, .inl (cA 0, 5, .inl sz)), (aC, .inl (cA 0, 5, .inl bc)), (aB, .inl (cA 0, 64, .inl bf)), (aR, .inl (cA 0, 66, .inl mrw)), (aO, .inl (cA 0, 66, .inl of)), (aW, .inl (cA 0, 72, .inl wf)), (aD, .inl (cA 1, 72, .inl df)), (a1, .inl (cA 0, 128, .inl g1)), (a2, .inl (cA 0, 128, .inl g2)), (a3, .inl (cA 0, 128, .inl g3)), (a4, .inl (cA 0, 128, .inl g4)), (aL, .inl (cA 1, 240, .inl lf)), (aY, .inl (cA 0, 200, .inl yf)), (aM, .inl (cA 0, 200, .inl mf)), (aU, .inl (cA 0, 66, .inl uf)), (bR, .inl (cA 0, 66, .inl kr)), (bO, .inl (cA 0, 66, .inl ko)), (bB, .inl (cA 0, 64, .inl kb)), (bN, .inl (cA 1, 40, .inl kn)), (bS, .inl (cA 0, 5, .inl ks)), (bC, .inl (cA 0, 5, .inl kc))] H → va_D A [(xa, .inr (7, [.ref tx, .ref tn, .ref tb, .ref ia, .ref ia9, .int (bz_c rd), .int fo, .ref ra, .ref ra9, .int (bz_c mp), .ref ha, .ref wa, .ref im, .ref du, .ref ma])), (tx, .inr (0, [.ref txb, .int (nI L.length)])), (txb, .inl (cA 0, 72, .inl cf)), (tn, .inr (0, [.ref tnb, .int (nI TN.length)])), (tnb, .inl (cA 0, 8, .inl tnf)), (tb, .inr (0, [.ref tbb, .int (nI TB.length)])), (tbb, .inl (cA 0, 72, .inl tbf)), (ia, .inr (3, [.ref pa, .ref ix, .ref it, .ref ik, .int (nI rt)])), (pa, .inr (4, [.ref pn, .ref ps, .ref pln, .ref pr, .int (nI np), .int (nI pl)])), (pn, .inl (cA 3, 5, .inr (.inr (.inr (.inr g))))), (ps, .inl (cA 0, 5, .inl st)), (pln, .inl (cA 0, 5, .inl ln)), (pr, .inl (cA 0, 65, .inl rw)), (na 0, .inr (0, [.ref (nb 0), .int (nI ((NM 0).length))])), (nb 0, .inl (cA 0, 8, .inl (cnf 0))), (na 1, .inr (0, [.ref (nb 1), .int (nI ((NM 1).length))])), (nb 1, .inl (cA 0, 8, .inl (cnf 1))), (na 2, .inr (0, [.ref (nb 2), .int (nI ((NM 2).length))])), (nb 2, .inl (cA 0, 8, .inl (cnf 2))), (na 3, .inr (0, [.ref (nb 3), .int (nI ((NM 3).length))])), (nb 3, .inl (cA 0, 8, .inl (cnf 3))), (na 4, .inr (0, [.ref (nb 4), .int (nI ((NM 4).length))])), (nb 4, .inl (cA 0, 8, .inl (cnf 4))), (ix, .inl (cA 0, 65, .inl sf)), (it, .inl (cA 0, 65, .inl tr)), (ik, .inl (cA 0, 66, .inl rk)), (ia9, .inr (3, [.ref pa9, .ref ix9, .ref it9, .ref ik9, .int (nI rt9)])), (pa9, .inr (4, [.ref pn9, .ref ps9, .ref pln9, .ref pr9, .int (nI np9), .int (nI pl9)])), (pn9, .inl (cA 3, 5, .inr (.inr (.inr (.inr g9))))), (ps9, .inl (cA 0, 5, .inl st9)), (pln9, .inl (cA 0, 5, .inl ln9)), (pr9, .inl (cA 0, 65, .inl rw9)), (na9 0, .inr (0, [.ref (nb9 0), .int (nI ((NM9 0).length))])), (nb9 0, .inl (cA 0, 8, .inl (cnf9 0))), (na9 1, .inr (0, [.ref (nb9 1), .int (nI ((NM9 1).length))])), (nb9 1, .inl (cA 0, 8, .inl (cnf9 1))), (na9 2, .inr (0, [.ref (nb9 2), .int (nI ((NM9 2).length))])), (nb9 2, .inl (cA 0, 8, .inl (cnf9 2))), (na9 3, .inr (0, [.ref (nb9 3), .int (nI ((NM9 3).length))])), (nb9 3, .inl (cA 0, 8, .inl (cnf9 3))), (na9 4, .inr (0, [.ref (nb9 4), .int (nI ((NM9 4).length))])), (nb9 4, .inl (cA 0, 8, .inl (cnf9 4))), (ix9, .inl (cA 0, 65, .inl sf9)), (it9, .inl (cA 0, 65, .inl tr9)), (ik9, .inl (cA 0, 66, .inl rk9)), (ra, .inr (5, [.ref rn, .ref rf, .ref rb, .ref rq])), (rn, .inr (0, [.ref rnb, .int (nI RN.length)])), (rnb, .inl (cA 0, 8, .inl fn)), (rf, .inr (0, [.ref rfb, .int (nI RF.length)])), (rfb, .inl (cA 0, 20, .inl ff)), (rb, .inr (0, [.ref rbb, .int (nI RB.length)])), (rbb, .inl (cA 0, 20, .inl fb)), (rq, .inr (0, [.ref rqb, .int (nI RQ.length)])), (rqb, .inl (cA 0, 20, .inl fq)), (ra9, .inr (5, [.ref rn9, .ref rf9, .ref rb9, .ref rq9])), (rn9, .inr (0, [.ref rnb9, .int (nI RN9.length)])), (rnb9, .inl (cA 0, 8, .inl fn9)), (rf9, .inr (0, [.ref rfb9, .int (nI RF9.length)])), (rfb9, .inl (cA 0, 20, .inl ff9)), (rb9, .inr (0, [.ref rbb9, .int (nI RB9.length)])), (rbb9, .inl (cA 0, 20, .inl fb9)), (rq9, .inr (0, [.ref rqb9, .int (nI RQ9.length)])), (rqb9, .inl (cA 0, 20, .inl fq9)), (ha, .inr (1, [.ref hp, .ref hl_, .ref hs_, .ref hm_, .int (nI bst), .int (nI qn)])), (hp, .inr (0, [.ref hpb, .int (nI ((hp_c XC).length))])), (hpb, .inl (cA 0, 120, .inl h1f)), (hl_, .inr (0, [.ref hlb, .int (nI ((hl_c XC).length))])), (hlb, .inl (cA 0, 120, .inl h2f)), (hs_, .inr (0, [.ref hsb, .int (nI ((hs_c XC).length))])), (hsb, .inl (cA 0, 120, .inl h3f)), (hm_, .inr (0, [.ref hmb, .int (nI ((hm_c XC).length))])), (hmb, .inl (cA 0, 120, .inl h4f)), (wa, .inr (6, [.ref wl])), (wl, .inr (0, [.ref wlb, .int (nI WLl.length)])), (wlb, .inl (cA 0, 128, .inl wlf)), (im, .inr (0, [.ref imb, .int (nI J.length)])), (imb, .inl (cA 0, 189, .inl imf)), (du, .inr (0, [.ref dub, .int (nI LD.length)])), (dub, .inl (cA 0, 189, .inl duf)), (ma, .inr (2, [.ref mn, .int (nI nx)])), (mn, .inr (0, [.ref mnb, .int (nI MN.length)])), (mnb, .inl (cA 0, 8, .inl mnf)), (oa, .inl (cA 2, 1, .inr (.inl ou))), (mo, .inr (8, [.int zt, .int (nI L.length), .ref ta, .int (nI np), .ref aN, .ref aS, .ref aC, .int (nI tot), .ref aB, .int (bz_c rd), .int (nI mrt), .int (nI mpl), .ref aR, .ref aO, .int (nI Wd.length), .ref aW, .int (bz_c mp), .int (nI mrn), .int (nI mrs), .int (bz_c gd), .ref aD, .int (nI XM.length), .ref a1, .ref a2, .ref a3, .ref a4, .int (nI td), .ref aL, .int (nI J.length), .ref aY, .int (nI ms), .ref aM, .int (nI ip), .int (nI mit), .int ir, .int (nI il), .ref bN, .ref bS, .ref bC, .ref bB, .ref bR, .ref bO, .ref aU])), (ta, .inl (cA 1, 72, .inl tf)), (aN, .inl (cA 1, 40, .inl nf)), (aS, .inl (cA 0, 5, .inl sz)), (aC, .inl (cA 0, 5, .inl bc)), (aB, .inl (cA 0, 64, .inl bf)), (aR, .inl (cA 0, 66, .inl mrw)), (aO, .inl (cA 0, 66, .inl of)), (aW, .inl (cA 0, 72, .inl wf)), (aD, .inl (cA 1, 72, .inl df)), (a1, .inl (cA 0, 128, .inl g1)), (a2, .inl (cA 0, 128, .inl g2)), (a3, .inl (cA 0, 128, .inl g3)), (a4, .inl (cA 0, 128, .inl g4)), (aL, .inl (cA 1, 240, .inl lf)), (aY, .inl (cA 0, 200, .inl yf)), (aM, .inl (cA 0, 200, .inl mf)), (aU, .inl (cA 0, 66, .inl uf)), (bR, .inl (cA 0, 66, .inl kr)), (bO, .inl (cA 0, 66, .inl ko)), (bB, .inl (cA 0, 64, .inl kb)), (bN, .inl (cA 1, 40, .inl kn)), (bS, .inl (cA 0, 5, .inl ks)), (bC, .inl (cA 0, 5, .inl kc))] → va_S A s.heap H locs → lv_has ls 7 [(0, .ref b), (1, .ref xa), (2, .ref mo), (3, .ref oa), (4, .int (nI i))] → W p l e room_1 s m #[Value.ref b] below meth c H locs cells slots Q (F0 m pc ls [])
theorem d_La_law_0 : decode b_La_law 0 = .ok (.new 8, 3) := by decide +kernel
theorem d_La_law_3 : decode b_La_law 3 = .ok (.dup, 1) := by decide +kernel
theorem d_La_law_4 : decode b_La_law 4 = .ok (.invokespecial 40, 3) := by decide +kernel
theorem d_La_law_7 : decode b_La_law 7 = .ok (.astore_n 1, 1) := by decide +kernel
theorem d_La_law_8 : decode b_La_law 8 = .ok (.new 41, 3) := by decide +kernel
theorem d_La_law_11 : decode b_La_law 11 = .ok (.dup, 1) := by decide +kernel
theorem d_La_law_12 : decode b_La_law 12 = .ok (.invokespecial 43, 3) := by decide +kernel
theorem d_La_law_15 : decode b_La_law 15 = .ok (.astore_n 2, 1) := by decide +kernel
theorem d_La_law_16 : decode b_La_law 16 = .ok (.iconst 1, 1) := by decide +kernel
theorem d_La_law_17 : decode b_La_law 17 = .ok (.newarray .long, 2) := by decide +kernel
theorem d_La_law_19 : decode b_La_law 19 = .ok (.astore_n 3, 1) := by decide +kernel
theorem d_La_law_20 : decode b_La_law 20 = .ok (.iconst 0, 1) := by decide +kernel
theorem d_La_law_21 : decode b_La_law 21 = .ok (.istore 4, 2) := by decide +kernel
theorem d_La_law_23 : decode b_La_law 23 = .ok (.iload 4, 2) := by decide +kernel
theorem d_La_law_25 : decode b_La_law 25 = .ok (.aload_n 0, 1) := by decide +kernel
theorem d_La_law_26 : decode b_La_law 26 = .ok (.arraylength, 1) := by decide +kernel
theorem d_La_law_27 : decode b_La_law 27 = .ok (.iconst 3, 1) := by decide +kernel
theorem d_La_law_28 : decode b_La_law 28 = .ok (.isub, 1) := by decide +kernel
theorem d_La_law_29 : decode b_La_law 29 = .ok (.if_icmp .gt 793, 3) := by decide +kernel
theorem d_La_law_32 : decode b_La_law 32 = .ok (.aload_n 0, 1) := by decide +kernel
theorem d_La_law_33 : decode b_La_law 33 = .ok (.iload 4, 2) := by decide +kernel
theorem d_La_law_35 : decode b_La_law 35 = .ok (.iaload, 1) := by decide +kernel
theorem d_La_law_36 : decode b_La_law 36 = .ok (.bipush 31, 2) := by decide +kernel
theorem d_La_law_38 : decode b_La_law 38 = .ok (.iand, 1) := by decide +kernel
theorem d_La_law_128 : decode b_La_law 128 = .ok (.aload_n 1, 1) := by decide +kernel
theorem d_La_law_129 : decode b_La_law 129 = .ok (.aload_n 0, 1) := by decide +kernel
theorem d_La_law_130 : decode b_La_law 130 = .ok (.iload 4, 2) := by decide +kernel
theorem d_La_law_132 : decode b_La_law 132 = .ok (.iconst 1, 1) := by decide +kernel
theorem d_La_law_133 : decode b_La_law 133 = .ok (.iadd, 1) := by decide +kernel
theorem d_La_law_134 : decode b_La_law 134 = .ok (.iaload, 1) := by decide +kernel
theorem d_La_law_135 : decode b_La_law 135 = .ok (.i2l, 1) := by decide +kernel
theorem d_La_law_136 : decode b_La_law 136 = .ok (.bipush 32, 2) := by decide +kernel
theorem d_La_law_138 : decode b_La_law 138 = .ok (.lshl, 1) := by decide +kernel
theorem d_La_law_139 : decode b_La_law 139 = .ok (.aload_n 0, 1) := by decide +kernel
theorem d_La_law_140 : decode b_La_law 140 = .ok (.iload 4, 2) := by decide +kernel
theorem d_La_law_142 : decode b_La_law 142 = .ok (.iconst 2, 1) := by decide +kernel
theorem d_La_law_143 : decode b_La_law 143 = .ok (.iadd, 1) := by decide +kernel
theorem d_La_law_144 : decode b_La_law 144 = .ok (.iaload, 1) := by decide +kernel
theorem d_La_law_145 : decode b_La_law 145 = .ok (.i2l, 1) := by decide +kernel
theorem d_La_law_146 : decode b_La_law 146 = .ok (.ldc2_w 44, 3) := by decide +kernel
theorem d_La_law_149 : decode b_La_law 149 = .ok (.land, 1) := by decide +kernel
theorem d_La_law_150 : decode b_La_law 150 = .ok (.lor, 1) := by decide +kernel
theorem d_La_law_151 : decode b_La_law 151 = .ok (.invokevirtual 46, 3) := by decide +kernel
theorem d_La_law_154 : decode b_La_law 154 = .ok (.aload_n 2, 1) := by decide +kernel
theorem d_La_law_155 : decode b_La_law 155 = .ok (.aload_n 0, 1) := by decide +kernel
theorem d_La_law_156 : decode b_La_law 156 = .ok (.iload 4, 2) := by decide +kernel
theorem d_La_law_158 : decode b_La_law 158 = .ok (.iconst 1, 1) := by decide +kernel
theorem d_La_law_159 : decode b_La_law 159 = .ok (.iadd, 1) := by decide +kernel
theorem d_La_law_160 : decode b_La_law 160 = .ok (.iaload, 1) := by decide +kernel
theorem d_La_law_161 : decode b_La_law 161 = .ok (.i2l, 1) := by decide +kernel
theorem d_La_law_162 : decode b_La_law 162 = .ok (.bipush 32, 2) := by decide +kernel
theorem d_La_law_164 : decode b_La_law 164 = .ok (.lshl, 1) := by decide +kernel
theorem d_La_law_165 : decode b_La_law 165 = .ok (.aload_n 0, 1) := by decide +kernel
theorem d_La_law_166 : decode b_La_law 166 = .ok (.iload 4, 2) := by decide +kernel
theorem d_La_law_168 : decode b_La_law 168 = .ok (.iconst 2, 1) := by decide +kernel
theorem d_La_law_169 : decode b_La_law 169 = .ok (.iadd, 1) := by decide +kernel
theorem d_La_law_170 : decode b_La_law 170 = .ok (.iaload, 1) := by decide +kernel
theorem d_La_law_171 : decode b_La_law 171 = .ok (.i2l, 1) := by decide +kernel
theorem d_La_law_172 : decode b_La_law 172 = .ok (.ldc2_w 44, 3) := by decide +kernel
theorem d_La_law_175 : decode b_La_law 175 = .ok (.land, 1) := by decide +kernel
theorem d_La_law_176 : decode b_La_law 176 = .ok (.lor, 1) := by decide +kernel
theorem d_La_law_177 : decode b_La_law 177 = .ok (.invokevirtual 50, 3) := by decide +kernel
theorem d_La_law_180 : decode b_La_law 180 = .ok (.if_icmp .eq 636, 3) := by decide +kernel
theorem d_La_law_183 : decode b_La_law 183 = .ok (.iconst 0, 1) := by decide +kernel
theorem d_La_law_184 : decode b_La_law 184 = .ok (.ireturn, 1) := by decide +kernel
theorem d_La_law_185 : decode b_La_law 185 = .ok (.aload_n 1, 1) := by decide +kernel
theorem d_La_law_186 : decode b_La_law 186 = .ok (.aload_n 3, 1) := by decide +kernel
theorem d_La_law_187 : decode b_La_law 187 = .ok (.invokestatic 51, 3) := by decide +kernel
theorem d_La_law_190 : decode b_La_law 190 = .ok (.istore 5, 2) := by decide +kernel
theorem d_La_law_192 : decode b_La_law 192 = .ok (.aload_n 2, 1) := by decide +kernel
theorem d_La_law_193 : decode b_La_law 193 = .ok (.invokevirtual 56, 3) := by decide +kernel
theorem d_La_law_196 : decode b_La_law 196 = .ok (.istore 6, 2) := by decide +kernel
theorem d_La_law_198 : decode b_La_law 198 = .ok (.aload_n 2, 1) := by decide +kernel
theorem d_La_law_199 : decode b_La_law 199 = .ok (.invokevirtual 57, 3) := by decide +kernel
theorem d_La_law_202 : decode b_La_law 202 = .ok (.iload 5, 2) := by decide +kernel
theorem d_La_law_204 : decode b_La_law 204 = .ok (.if_icmp .eq 5, 3) := by decide +kernel
theorem d_La_law_207 : decode b_La_law 207 = .ok (.iconst 0, 1) := by decide +kernel
theorem d_La_law_208 : decode b_La_law 208 = .ok (.ireturn, 1) := by decide +kernel
theorem d_La_law_209 : decode b_La_law 209 = .ok (.iload 5, 2) := by decide +kernel
theorem d_La_law_211 : decode b_La_law 211 = .ok (.ifCond .ne 15, 3) := by decide +kernel
theorem d_La_law_214 : decode b_La_law 214 = .ok (.aload_n 3, 1) := by decide +kernel
theorem d_La_law_215 : decode b_La_law 215 = .ok (.iconst 0, 1) := by decide +kernel
theorem d_La_law_216 : decode b_La_law 216 = .ok (.laload, 1) := by decide +kernel
theorem d_La_law_217 : decode b_La_law 217 = .ok (.iload 6, 2) := by decide +kernel
theorem d_La_law_219 : decode b_La_law 219 = .ok (.i2l, 1) := by decide +kernel
theorem d_La_law_220 : decode b_La_law 220 = .ok (.lcmp, 1) := by decide +kernel
theorem d_La_law_221 : decode b_La_law 221 = .ok (.ifCond .eq 5, 3) := by decide +kernel
theorem d_La_law_224 : decode b_La_law 224 = .ok (.iconst 0, 1) := by decide +kernel
theorem d_La_law_225 : decode b_La_law 225 = .ok (.ireturn, 1) := by decide +kernel
theorem d_La_law_226 : decode b_La_law 226 = .ok (.goto 590, 3) := by decide +kernel
theorem d_La_law_229 : decode b_La_law 229 = .ok (.aload_n 1, 1) := by decide +kernel
theorem d_La_law_230 : decode b_La_law 230 = .ok (.aload_n 0, 1) := by decide +kernel
theorem d_La_law_231 : decode b_La_law 231 = .ok (.iload 4, 2) := by decide +kernel
theorem d_La_law_233 : decode b_La_law 233 = .ok (.iconst 1, 1) := by decide +kernel
theorem d_La_law_234 : decode b_La_law 234 = .ok (.iadd, 1) := by decide +kernel
theorem d_La_law_235 : decode b_La_law 235 = .ok (.iaload, 1) := by decide +kernel
theorem d_La_law_236 : decode b_La_law 236 = .ok (.aload_n 3, 1) := by decide +kernel
theorem d_La_law_237 : decode b_La_law 237 = .ok (.invokestatic 60, 3) := by decide +kernel
theorem d_La_law_240 : decode b_La_law 240 = .ok (.istore 5, 2) := by decide +kernel
theorem d_La_law_242 : decode b_La_law 242 = .ok (.aload_n 2, 1) := by decide +kernel
theorem d_La_law_243 : decode b_La_law 243 = .ok (.aload_n 0, 1) := by decide +kernel
theorem d_La_law_244 : decode b_La_law 244 = .ok (.iload 4, 2) := by decide +kernel
theorem d_La_law_246 : decode b_La_law 246 = .ok (.iconst 1, 1) := by decide +kernel
theorem d_La_law_247 : decode b_La_law 247 = .ok (.iadd, 1) := by decide +kernel
theorem d_La_law_248 : decode b_La_law 248 = .ok (.iaload, 1) := by decide +kernel
theorem d_La_law_249 : decode b_La_law 249 = .ok (.invokevirtual 63, 3) := by decide +kernel
theorem d_La_law_252 : decode b_La_law 252 = .ok (.istore 6, 2) := by decide +kernel
theorem d_La_law_254 : decode b_La_law 254 = .ok (.aload_n 2, 1) := by decide +kernel
theorem d_La_law_255 : decode b_La_law 255 = .ok (.invokevirtual 57, 3) := by decide +kernel
theorem d_La_law_258 : decode b_La_law 258 = .ok (.iload 5, 2) := by decide +kernel
theorem d_La_law_260 : decode b_La_law 260 = .ok (.if_icmp .eq 5, 3) := by decide +kernel
theorem d_La_law_263 : decode b_La_law 263 = .ok (.iconst 0, 1) := by decide +kernel
theorem d_La_law_264 : decode b_La_law 264 = .ok (.ireturn, 1) := by decide +kernel
theorem d_La_law_265 : decode b_La_law 265 = .ok (.iload 5, 2) := by decide +kernel
theorem d_La_law_267 : decode b_La_law 267 = .ok (.ifCond .ne 15, 3) := by decide +kernel
theorem d_La_law_270 : decode b_La_law 270 = .ok (.aload_n 3, 1) := by decide +kernel
theorem d_La_law_271 : decode b_La_law 271 = .ok (.iconst 0, 1) := by decide +kernel
theorem d_La_law_272 : decode b_La_law 272 = .ok (.laload, 1) := by decide +kernel
theorem d_La_law_273 : decode b_La_law 273 = .ok (.iload 6, 2) := by decide +kernel
theorem d_La_law_275 : decode b_La_law 275 = .ok (.i2l, 1) := by decide +kernel
theorem d_La_law_276 : decode b_La_law 276 = .ok (.lcmp, 1) := by decide +kernel
theorem d_La_law_277 : decode b_La_law 277 = .ok (.ifCond .eq 5, 3) := by decide +kernel
theorem d_La_law_280 : decode b_La_law 280 = .ok (.iconst 0, 1) := by decide +kernel
theorem d_La_law_281 : decode b_La_law 281 = .ok (.ireturn, 1) := by decide +kernel
theorem d_La_law_282 : decode b_La_law 282 = .ok (.goto 534, 3) := by decide +kernel
theorem d_La_law_285 : decode b_La_law 285 = .ok (.aload_n 1, 1) := by decide +kernel
theorem d_La_law_286 : decode b_La_law 286 = .ok (.invokevirtual 64, 3) := by decide +kernel
theorem d_La_law_289 : decode b_La_law 289 = .ok (.aload_n 2, 1) := by decide +kernel
theorem d_La_law_290 : decode b_La_law 290 = .ok (.invokevirtual 68, 3) := by decide +kernel
theorem d_La_law_293 : decode b_La_law 293 = .ok (.if_icmp .eq 523, 3) := by decide +kernel
theorem d_La_law_296 : decode b_La_law 296 = .ok (.iconst 0, 1) := by decide +kernel
theorem d_La_law_297 : decode b_La_law 297 = .ok (.ireturn, 1) := by decide +kernel
theorem d_La_law_298 : decode b_La_law 298 = .ok (.aload_n 1, 1) := by decide +kernel
theorem d_La_law_299 : decode b_La_law 299 = .ok (.aload_n 0, 1) := by decide +kernel
theorem d_La_law_300 : decode b_La_law 300 = .ok (.iload 4, 2) := by decide +kernel
theorem d_La_law_302 : decode b_La_law 302 = .ok (.iconst 1, 1) := by decide +kernel
theorem d_La_law_303 : decode b_La_law 303 = .ok (.iadd, 1) := by decide +kernel
theorem d_La_law_304 : decode b_La_law 304 = .ok (.iaload, 1) := by decide +kernel
theorem d_La_law_305 : decode b_La_law 305 = .ok (.aload_n 3, 1) := by decide +kernel
theorem d_La_law_306 : decode b_La_law 306 = .ok (.invokestatic 69, 3) := by decide +kernel
theorem d_La_law_309 : decode b_La_law 309 = .ok (.istore 5, 2) := by decide +kernel
theorem d_La_law_311 : decode b_La_law 311 = .ok (.aload_n 2, 1) := by decide +kernel
theorem d_La_law_312 : decode b_La_law 312 = .ok (.aload_n 0, 1) := by decide +kernel
theorem d_La_law_313 : decode b_La_law 313 = .ok (.iload 4, 2) := by decide +kernel
theorem d_La_law_315 : decode b_La_law 315 = .ok (.iconst 1, 1) := by decide +kernel
theorem d_La_law_316 : decode b_La_law 316 = .ok (.iadd, 1) := by decide +kernel
theorem d_La_law_317 : decode b_La_law 317 = .ok (.iaload, 1) := by decide +kernel
theorem d_La_law_318 : decode b_La_law 318 = .ok (.invokevirtual 71, 3) := by decide +kernel
theorem d_La_law_321 : decode b_La_law 321 = .ok (.istore 6, 2) := by decide +kernel
theorem d_La_law_323 : decode b_La_law 323 = .ok (.aload_n 2, 1) := by decide +kernel
theorem d_La_law_324 : decode b_La_law 324 = .ok (.invokevirtual 57, 3) := by decide +kernel
theorem d_La_law_327 : decode b_La_law 327 = .ok (.iload 5, 2) := by decide +kernel
theorem d_La_law_329 : decode b_La_law 329 = .ok (.if_icmp .eq 5, 3) := by decide +kernel
theorem d_La_law_332 : decode b_La_law 332 = .ok (.iconst 0, 1) := by decide +kernel
theorem d_La_law_333 : decode b_La_law 333 = .ok (.ireturn, 1) := by decide +kernel
theorem d_La_law_334 : decode b_La_law 334 = .ok (.iload 5, 2) := by decide +kernel
theorem d_La_law_336 : decode b_La_law 336 = .ok (.ifCond .ne 15, 3) := by decide +kernel
theorem d_La_law_339 : decode b_La_law 339 = .ok (.aload_n 3, 1) := by decide +kernel
theorem d_La_law_340 : decode b_La_law 340 = .ok (.iconst 0, 1) := by decide +kernel
theorem d_La_law_341 : decode b_La_law 341 = .ok (.laload, 1) := by decide +kernel
theorem d_La_law_342 : decode b_La_law 342 = .ok (.iload 6, 2) := by decide +kernel
theorem d_La_law_344 : decode b_La_law 344 = .ok (.i2l, 1) := by decide +kernel
theorem d_La_law_345 : decode b_La_law 345 = .ok (.lcmp, 1) := by decide +kernel
theorem d_La_law_346 : decode b_La_law 346 = .ok (.ifCond .eq 5, 3) := by decide +kernel
theorem d_La_law_349 : decode b_La_law 349 = .ok (.iconst 0, 1) := by decide +kernel
theorem d_La_law_350 : decode b_La_law 350 = .ok (.ireturn, 1) := by decide +kernel
theorem d_La_law_351 : decode b_La_law 351 = .ok (.goto 465, 3) := by decide +kernel
theorem d_La_law_354 : decode b_La_law 354 = .ok (.aload_n 1, 1) := by decide +kernel
theorem d_La_law_355 : decode b_La_law 355 = .ok (.aload_n 0, 1) := by decide +kernel
theorem d_La_law_356 : decode b_La_law 356 = .ok (.iload 4, 2) := by decide +kernel
theorem d_La_law_358 : decode b_La_law 358 = .ok (.iconst 1, 1) := by decide +kernel
theorem d_La_law_359 : decode b_La_law 359 = .ok (.iadd, 1) := by decide +kernel
theorem d_La_law_360 : decode b_La_law 360 = .ok (.iaload, 1) := by decide +kernel
theorem d_La_law_361 : decode b_La_law 361 = .ok (.invokevirtual 72, 3) := by decide +kernel
theorem d_La_law_364 : decode b_La_law 364 = .ok (.aload_n 2, 1) := by decide +kernel
theorem d_La_law_365 : decode b_La_law 365 = .ok (.aload_n 0, 1) := by decide +kernel
theorem d_La_law_366 : decode b_La_law 366 = .ok (.iload 4, 2) := by decide +kernel
theorem d_La_law_368 : decode b_La_law 368 = .ok (.iconst 1, 1) := by decide +kernel
theorem d_La_law_369 : decode b_La_law 369 = .ok (.iadd, 1) := by decide +kernel
theorem d_La_law_370 : decode b_La_law 370 = .ok (.iaload, 1) := by decide +kernel
theorem d_La_law_371 : decode b_La_law 371 = .ok (.invokevirtual 75, 3) := by decide +kernel
theorem d_La_law_374 : decode b_La_law 374 = .ok (.if_icmp .eq 442, 3) := by decide +kernel
theorem d_La_law_377 : decode b_La_law 377 = .ok (.iconst 0, 1) := by decide +kernel
theorem d_La_law_378 : decode b_La_law 378 = .ok (.ireturn, 1) := by decide +kernel
theorem d_La_law_379 : decode b_La_law 379 = .ok (.aload_n 1, 1) := by decide +kernel
theorem d_La_law_380 : decode b_La_law 380 = .ok (.aload_n 0, 1) := by decide +kernel
theorem d_La_law_381 : decode b_La_law 381 = .ok (.iload 4, 2) := by decide +kernel
theorem d_La_law_383 : decode b_La_law 383 = .ok (.iconst 1, 1) := by decide +kernel
theorem d_La_law_384 : decode b_La_law 384 = .ok (.iadd, 1) := by decide +kernel
theorem d_La_law_385 : decode b_La_law 385 = .ok (.iaload, 1) := by decide +kernel
theorem d_La_law_386 : decode b_La_law 386 = .ok (.invokevirtual 76, 3) := by decide +kernel
theorem d_La_law_389 : decode b_La_law 389 = .ok (.aload_n 2, 1) := by decide +kernel
theorem d_La_law_390 : decode b_La_law 390 = .ok (.aload_n 0, 1) := by decide +kernel
theorem d_La_law_391 : decode b_La_law 391 = .ok (.iload 4, 2) := by decide +kernel
theorem d_La_law_393 : decode b_La_law 393 = .ok (.iconst 1, 1) := by decide +kernel
theorem d_La_law_394 : decode b_La_law 394 = .ok (.iadd, 1) := by decide +kernel
theorem d_La_law_395 : decode b_La_law 395 = .ok (.iaload, 1) := by decide +kernel
theorem d_La_law_396 : decode b_La_law 396 = .ok (.invokevirtual 79, 3) := by decide +kernel
theorem d_La_law_399 : decode b_La_law 399 = .ok (.if_icmp .eq 417, 3) := by decide +kernel
theorem d_La_law_402 : decode b_La_law 402 = .ok (.iconst 0, 1) := by decide +kernel
theorem d_La_law_403 : decode b_La_law 403 = .ok (.ireturn, 1) := by decide +kernel
theorem d_La_law_404 : decode b_La_law 404 = .ok (.aload_n 1, 1) := by decide +kernel
theorem d_La_law_405 : decode b_La_law 405 = .ok (.aload_n 0, 1) := by decide +kernel
theorem d_La_law_406 : decode b_La_law 406 = .ok (.iload 4, 2) := by decide +kernel
theorem d_La_law_408 : decode b_La_law 408 = .ok (.iconst 1, 1) := by decide +kernel
theorem d_La_law_409 : decode b_La_law 409 = .ok (.iadd, 1) := by decide +kernel
theorem d_La_law_410 : decode b_La_law 410 = .ok (.iaload, 1) := by decide +kernel
theorem d_La_law_411 : decode b_La_law 411 = .ok (.aload_n 0, 1) := by decide +kernel
theorem d_La_law_412 : decode b_La_law 412 = .ok (.iload 4, 2) := by decide +kernel
theorem d_La_law_414 : decode b_La_law 414 = .ok (.iconst 2, 1) := by decide +kernel
theorem d_La_law_415 : decode b_La_law 415 = .ok (.iadd, 1) := by decide +kernel
theorem d_La_law_416 : decode b_La_law 416 = .ok (.iaload, 1) := by decide +kernel
theorem d_La_law_417 : decode b_La_law 417 = .ok (.invokevirtual 80, 3) := by decide +kernel
theorem d_La_law_420 : decode b_La_law 420 = .ok (.aload_n 2, 1) := by decide +kernel
theorem d_La_law_421 : decode b_La_law 421 = .ok (.aload_n 0, 1) := by decide +kernel
theorem d_La_law_422 : decode b_La_law 422 = .ok (.iload 4, 2) := by decide +kernel
theorem d_La_law_424 : decode b_La_law 424 = .ok (.iconst 1, 1) := by decide +kernel
theorem d_La_law_425 : decode b_La_law 425 = .ok (.iadd, 1) := by decide +kernel
theorem d_La_law_426 : decode b_La_law 426 = .ok (.iaload, 1) := by decide +kernel
theorem d_La_law_427 : decode b_La_law 427 = .ok (.aload_n 0, 1) := by decide +kernel
theorem d_La_law_428 : decode b_La_law 428 = .ok (.iload 4, 2) := by decide +kernel
theorem d_La_law_430 : decode b_La_law 430 = .ok (.iconst 2, 1) := by decide +kernel
theorem d_La_law_431 : decode b_La_law 431 = .ok (.iadd, 1) := by decide +kernel
theorem d_La_law_432 : decode b_La_law 432 = .ok (.iaload, 1) := by decide +kernel
theorem d_La_law_433 : decode b_La_law 433 = .ok (.invokevirtual 84, 3) := by decide +kernel
theorem d_La_law_436 : decode b_La_law 436 = .ok (.if_icmp .eq 380, 3) := by decide +kernel
theorem d_La_law_439 : decode b_La_law 439 = .ok (.iconst 0, 1) := by decide +kernel
theorem d_La_law_440 : decode b_La_law 440 = .ok (.ireturn, 1) := by decide +kernel
theorem d_La_law_441 : decode b_La_law 441 = .ok (.aload_n 1, 1) := by decide +kernel
theorem d_La_law_442 : decode b_La_law 442 = .ok (.aload_n 3, 1) := by decide +kernel
theorem d_La_law_443 : decode b_La_law 443 = .ok (.invokestatic 85, 3) := by decide +kernel
theorem d_La_law_446 : decode b_La_law 446 = .ok (.istore 5, 2) := by decide +kernel
theorem d_La_law_448 : decode b_La_law 448 = .ok (.aload_n 2, 1) := by decide +kernel
theorem d_La_law_449 : decode b_La_law 449 = .ok (.invokevirtual 87, 3) := by decide +kernel
theorem d_La_law_452 : decode b_La_law 452 = .ok (.istore 6, 2) := by decide +kernel
theorem d_La_law_454 : decode b_La_law 454 = .ok (.aload_n 2, 1) := by decide +kernel
theorem d_La_law_455 : decode b_La_law 455 = .ok (.invokevirtual 57, 3) := by decide +kernel
theorem d_La_law_458 : decode b_La_law 458 = .ok (.iload 5, 2) := by decide +kernel
theorem d_La_law_460 : decode b_La_law 460 = .ok (.if_icmp .eq 5, 3) := by decide +kernel
theorem d_La_law_463 : decode b_La_law 463 = .ok (.iconst 0, 1) := by decide +kernel
theorem d_La_law_464 : decode b_La_law 464 = .ok (.ireturn, 1) := by decide +kernel
theorem d_La_law_465 : decode b_La_law 465 = .ok (.iload 5, 2) := by decide +kernel
theorem d_La_law_467 : decode b_La_law 467 = .ok (.ifCond .ne 15, 3) := by decide +kernel
theorem d_La_law_470 : decode b_La_law 470 = .ok (.aload_n 3, 1) := by decide +kernel
theorem d_La_law_471 : decode b_La_law 471 = .ok (.iconst 0, 1) := by decide +kernel
theorem d_La_law_472 : decode b_La_law 472 = .ok (.laload, 1) := by decide +kernel
theorem d_La_law_473 : decode b_La_law 473 = .ok (.iload 6, 2) := by decide +kernel
theorem d_La_law_475 : decode b_La_law 475 = .ok (.i2l, 1) := by decide +kernel
theorem d_La_law_476 : decode b_La_law 476 = .ok (.lcmp, 1) := by decide +kernel
theorem d_La_law_477 : decode b_La_law 477 = .ok (.ifCond .eq 5, 3) := by decide +kernel
theorem d_La_law_480 : decode b_La_law 480 = .ok (.iconst 0, 1) := by decide +kernel
theorem d_La_law_481 : decode b_La_law 481 = .ok (.ireturn, 1) := by decide +kernel
theorem d_La_law_482 : decode b_La_law 482 = .ok (.goto 334, 3) := by decide +kernel
theorem d_La_law_485 : decode b_La_law 485 = .ok (.aload_n 1, 1) := by decide +kernel
theorem d_La_law_486 : decode b_La_law 486 = .ok (.invokevirtual 88, 3) := by decide +kernel
theorem d_La_law_489 : decode b_La_law 489 = .ok (.aload_n 2, 1) := by decide +kernel
theorem d_La_law_490 : decode b_La_law 490 = .ok (.invokevirtual 91, 3) := by decide +kernel
theorem d_La_law_493 : decode b_La_law 493 = .ok (.if_icmp .eq 323, 3) := by decide +kernel
theorem d_La_law_496 : decode b_La_law 496 = .ok (.iconst 0, 1) := by decide +kernel
theorem d_La_law_497 : decode b_La_law 497 = .ok (.ireturn, 1) := by decide +kernel
theorem d_La_law_498 : decode b_La_law 498 = .ok (.aload_n 1, 1) := by decide +kernel
theorem d_La_law_499 : decode b_La_law 499 = .ok (.aload_n 0, 1) := by decide +kernel
theorem d_La_law_500 : decode b_La_law 500 = .ok (.iload 4, 2) := by decide +kernel
theorem d_La_law_502 : decode b_La_law 502 = .ok (.iconst 1, 1) := by decide +kernel
theorem d_La_law_503 : decode b_La_law 503 = .ok (.iadd, 1) := by decide +kernel
theorem d_La_law_504 : decode b_La_law 504 = .ok (.iaload, 1) := by decide +kernel
theorem d_La_law_505 : decode b_La_law 505 = .ok (.aload_n 3, 1) := by decide +kernel
theorem d_La_law_506 : decode b_La_law 506 = .ok (.invokestatic 92, 3) := by decide +kernel
theorem d_La_law_509 : decode b_La_law 509 = .ok (.istore 5, 2) := by decide +kernel
theorem d_La_law_511 : decode b_La_law 511 = .ok (.aload_n 2, 1) := by decide +kernel
theorem d_La_law_512 : decode b_La_law 512 = .ok (.aload_n 0, 1) := by decide +kernel
theorem d_La_law_513 : decode b_La_law 513 = .ok (.iload 4, 2) := by decide +kernel
theorem d_La_law_515 : decode b_La_law 515 = .ok (.iconst 1, 1) := by decide +kernel
theorem d_La_law_516 : decode b_La_law 516 = .ok (.iadd, 1) := by decide +kernel
theorem d_La_law_517 : decode b_La_law 517 = .ok (.iaload, 1) := by decide +kernel
theorem d_La_law_518 : decode b_La_law 518 = .ok (.invokevirtual 94, 3) := by decide +kernel
theorem d_La_law_521 : decode b_La_law 521 = .ok (.istore 6, 2) := by decide +kernel
theorem d_La_law_523 : decode b_La_law 523 = .ok (.aload_n 2, 1) := by decide +kernel
theorem d_La_law_524 : decode b_La_law 524 = .ok (.invokevirtual 57, 3) := by decide +kernel
theorem d_La_law_527 : decode b_La_law 527 = .ok (.iload 5, 2) := by decide +kernel
theorem d_La_law_529 : decode b_La_law 529 = .ok (.if_icmp .eq 5, 3) := by decide +kernel
theorem d_La_law_532 : decode b_La_law 532 = .ok (.iconst 0, 1) := by decide +kernel
theorem d_La_law_533 : decode b_La_law 533 = .ok (.ireturn, 1) := by decide +kernel
theorem d_La_law_534 : decode b_La_law 534 = .ok (.iload 5, 2) := by decide +kernel
theorem d_La_law_536 : decode b_La_law 536 = .ok (.ifCond .ne 15, 3) := by decide +kernel
theorem d_La_law_539 : decode b_La_law 539 = .ok (.aload_n 3, 1) := by decide +kernel
theorem d_La_law_540 : decode b_La_law 540 = .ok (.iconst 0, 1) := by decide +kernel
theorem d_La_law_541 : decode b_La_law 541 = .ok (.laload, 1) := by decide +kernel
theorem d_La_law_542 : decode b_La_law 542 = .ok (.iload 6, 2) := by decide +kernel
theorem d_La_law_544 : decode b_La_law 544 = .ok (.i2l, 1) := by decide +kernel
theorem d_La_law_545 : decode b_La_law 545 = .ok (.lcmp, 1) := by decide +kernel
theorem d_La_law_546 : decode b_La_law 546 = .ok (.ifCond .eq 5, 3) := by decide +kernel
theorem d_La_law_549 : decode b_La_law 549 = .ok (.iconst 0, 1) := by decide +kernel
theorem d_La_law_550 : decode b_La_law 550 = .ok (.ireturn, 1) := by decide +kernel
theorem d_La_law_551 : decode b_La_law 551 = .ok (.goto 265, 3) := by decide +kernel
theorem d_La_law_554 : decode b_La_law 554 = .ok (.aload_n 1, 1) := by decide +kernel
theorem d_La_law_555 : decode b_La_law 555 = .ok (.aload_n 0, 1) := by decide +kernel
theorem d_La_law_556 : decode b_La_law 556 = .ok (.iload 4, 2) := by decide +kernel
theorem d_La_law_558 : decode b_La_law 558 = .ok (.iconst 1, 1) := by decide +kernel
theorem d_La_law_559 : decode b_La_law 559 = .ok (.iadd, 1) := by decide +kernel
theorem d_La_law_560 : decode b_La_law 560 = .ok (.iaload, 1) := by decide +kernel
theorem d_La_law_561 : decode b_La_law 561 = .ok (.aload_n 0, 1) := by decide +kernel
theorem d_La_law_562 : decode b_La_law 562 = .ok (.iload 4, 2) := by decide +kernel
theorem d_La_law_564 : decode b_La_law 564 = .ok (.iconst 2, 1) := by decide +kernel
theorem d_La_law_565 : decode b_La_law 565 = .ok (.iadd, 1) := by decide +kernel
theorem d_La_law_566 : decode b_La_law 566 = .ok (.iaload, 1) := by decide +kernel
theorem d_La_law_567 : decode b_La_law 567 = .ok (.invokevirtual 95, 3) := by decide +kernel
theorem d_La_law_570 : decode b_La_law 570 = .ok (.aload_n 2, 1) := by decide +kernel
theorem d_La_law_571 : decode b_La_law 571 = .ok (.aload_n 0, 1) := by decide +kernel
theorem d_La_law_572 : decode b_La_law 572 = .ok (.iload 4, 2) := by decide +kernel
theorem d_La_law_574 : decode b_La_law 574 = .ok (.iconst 1, 1) := by decide +kernel
theorem d_La_law_575 : decode b_La_law 575 = .ok (.iadd, 1) := by decide +kernel
theorem d_La_law_576 : decode b_La_law 576 = .ok (.iaload, 1) := by decide +kernel
theorem d_La_law_577 : decode b_La_law 577 = .ok (.aload_n 0, 1) := by decide +kernel
theorem d_La_law_578 : decode b_La_law 578 = .ok (.iload 4, 2) := by decide +kernel
theorem d_La_law_580 : decode b_La_law 580 = .ok (.iconst 2, 1) := by decide +kernel
theorem d_La_law_581 : decode b_La_law 581 = .ok (.iadd, 1) := by decide +kernel
theorem d_La_law_582 : decode b_La_law 582 = .ok (.iaload, 1) := by decide +kernel
theorem d_La_law_583 : decode b_La_law 583 = .ok (.invokevirtual 98, 3) := by decide +kernel
theorem d_La_law_586 : decode b_La_law 586 = .ok (.if_icmp .eq 230, 3) := by decide +kernel
theorem d_La_law_589 : decode b_La_law 589 = .ok (.iconst 0, 1) := by decide +kernel
theorem d_La_law_590 : decode b_La_law 590 = .ok (.ireturn, 1) := by decide +kernel
theorem d_La_law_591 : decode b_La_law 591 = .ok (.aload_n 1, 1) := by decide +kernel
theorem d_La_law_592 : decode b_La_law 592 = .ok (.aload_n 0, 1) := by decide +kernel
theorem d_La_law_593 : decode b_La_law 593 = .ok (.iload 4, 2) := by decide +kernel
theorem d_La_law_595 : decode b_La_law 595 = .ok (.iconst 1, 1) := by decide +kernel
theorem d_La_law_596 : decode b_La_law 596 = .ok (.iadd, 1) := by decide +kernel
theorem d_La_law_597 : decode b_La_law 597 = .ok (.iaload, 1) := by decide +kernel
theorem d_La_law_598 : decode b_La_law 598 = .ok (.invokevirtual 99, 3) := by decide +kernel
theorem d_La_law_601 : decode b_La_law 601 = .ok (.aload_n 2, 1) := by decide +kernel
theorem d_La_law_602 : decode b_La_law 602 = .ok (.aload_n 0, 1) := by decide +kernel
theorem d_La_law_603 : decode b_La_law 603 = .ok (.iload 4, 2) := by decide +kernel
theorem d_La_law_605 : decode b_La_law 605 = .ok (.iconst 1, 1) := by decide +kernel
theorem d_La_law_606 : decode b_La_law 606 = .ok (.iadd, 1) := by decide +kernel
theorem d_La_law_607 : decode b_La_law 607 = .ok (.iaload, 1) := by decide +kernel
theorem d_La_law_608 : decode b_La_law 608 = .ok (.invokevirtual 102, 3) := by decide +kernel
theorem d_La_law_611 : decode b_La_law 611 = .ok (.if_icmp .eq 205, 3) := by decide +kernel
theorem d_La_law_614 : decode b_La_law 614 = .ok (.iconst 0, 1) := by decide +kernel
theorem d_La_law_615 : decode b_La_law 615 = .ok (.ireturn, 1) := by decide +kernel
theorem d_La_law_616 : decode b_La_law 616 = .ok (.aload_n 1, 1) := by decide +kernel
theorem d_La_law_617 : decode b_La_law 617 = .ok (.aload_n 0, 1) := by decide +kernel
theorem d_La_law_618 : decode b_La_law 618 = .ok (.iload 4, 2) := by decide +kernel
theorem d_La_law_620 : decode b_La_law 620 = .ok (.iconst 1, 1) := by decide +kernel
theorem d_La_law_621 : decode b_La_law 621 = .ok (.iadd, 1) := by decide +kernel
theorem d_La_law_622 : decode b_La_law 622 = .ok (.iaload, 1) := by decide +kernel
theorem d_La_law_623 : decode b_La_law 623 = .ok (.aload_n 0, 1) := by decide +kernel
theorem d_La_law_624 : decode b_La_law 624 = .ok (.iload 4, 2) := by decide +kernel
theorem d_La_law_626 : decode b_La_law 626 = .ok (.iconst 2, 1) := by decide +kernel
theorem d_La_law_627 : decode b_La_law 627 = .ok (.iadd, 1) := by decide +kernel
theorem d_La_law_628 : decode b_La_law 628 = .ok (.iaload, 1) := by decide +kernel
theorem d_La_law_629 : decode b_La_law 629 = .ok (.invokevirtual 103, 3) := by decide +kernel
theorem d_La_law_632 : decode b_La_law 632 = .ok (.aload_n 2, 1) := by decide +kernel
theorem d_La_law_633 : decode b_La_law 633 = .ok (.aload_n 0, 1) := by decide +kernel
theorem d_La_law_634 : decode b_La_law 634 = .ok (.iload 4, 2) := by decide +kernel
theorem d_La_law_636 : decode b_La_law 636 = .ok (.iconst 1, 1) := by decide +kernel
theorem d_La_law_637 : decode b_La_law 637 = .ok (.iadd, 1) := by decide +kernel
theorem d_La_law_638 : decode b_La_law 638 = .ok (.iaload, 1) := by decide +kernel
theorem d_La_law_639 : decode b_La_law 639 = .ok (.aload_n 0, 1) := by decide +kernel
theorem d_La_law_640 : decode b_La_law 640 = .ok (.iload 4, 2) := by decide +kernel
theorem d_La_law_642 : decode b_La_law 642 = .ok (.iconst 2, 1) := by decide +kernel
theorem d_La_law_643 : decode b_La_law 643 = .ok (.iadd, 1) := by decide +kernel
theorem d_La_law_644 : decode b_La_law 644 = .ok (.iaload, 1) := by decide +kernel
theorem d_La_law_645 : decode b_La_law 645 = .ok (.invokevirtual 106, 3) := by decide +kernel
theorem d_La_law_648 : decode b_La_law 648 = .ok (.if_icmp .eq 168, 3) := by decide +kernel
theorem d_La_law_651 : decode b_La_law 651 = .ok (.iconst 0, 1) := by decide +kernel
theorem d_La_law_652 : decode b_La_law 652 = .ok (.ireturn, 1) := by decide +kernel
theorem d_La_law_653 : decode b_La_law 653 = .ok (.aload_n 1, 1) := by decide +kernel
theorem d_La_law_654 : decode b_La_law 654 = .ok (.aload_n 3, 1) := by decide +kernel
theorem d_La_law_655 : decode b_La_law 655 = .ok (.invokestatic 107, 3) := by decide +kernel
theorem d_La_law_658 : decode b_La_law 658 = .ok (.istore 5, 2) := by decide +kernel
theorem d_La_law_660 : decode b_La_law 660 = .ok (.aload_n 2, 1) := by decide +kernel
theorem d_La_law_661 : decode b_La_law 661 = .ok (.invokevirtual 109, 3) := by decide +kernel
theorem d_La_law_664 : decode b_La_law 664 = .ok (.istore 6, 2) := by decide +kernel
theorem d_La_law_666 : decode b_La_law 666 = .ok (.aload_n 2, 1) := by decide +kernel
theorem d_La_law_667 : decode b_La_law 667 = .ok (.invokevirtual 57, 3) := by decide +kernel
theorem d_La_law_670 : decode b_La_law 670 = .ok (.iload 5, 2) := by decide +kernel
theorem d_La_law_672 : decode b_La_law 672 = .ok (.if_icmp .eq 5, 3) := by decide +kernel
theorem d_La_law_675 : decode b_La_law 675 = .ok (.iconst 0, 1) := by decide +kernel
theorem d_La_law_676 : decode b_La_law 676 = .ok (.ireturn, 1) := by decide +kernel
theorem d_La_law_677 : decode b_La_law 677 = .ok (.iload 5, 2) := by decide +kernel
theorem d_La_law_679 : decode b_La_law 679 = .ok (.ifCond .ne 15, 3) := by decide +kernel
theorem d_La_law_682 : decode b_La_law 682 = .ok (.aload_n 3, 1) := by decide +kernel
theorem d_La_law_683 : decode b_La_law 683 = .ok (.iconst 0, 1) := by decide +kernel
theorem d_La_law_684 : decode b_La_law 684 = .ok (.laload, 1) := by decide +kernel
theorem d_La_law_685 : decode b_La_law 685 = .ok (.iload 6, 2) := by decide +kernel
theorem d_La_law_687 : decode b_La_law 687 = .ok (.i2l, 1) := by decide +kernel
theorem d_La_law_688 : decode b_La_law 688 = .ok (.lcmp, 1) := by decide +kernel
theorem d_La_law_689 : decode b_La_law 689 = .ok (.ifCond .eq 5, 3) := by decide +kernel
theorem d_La_law_692 : decode b_La_law 692 = .ok (.iconst 0, 1) := by decide +kernel
theorem d_La_law_693 : decode b_La_law 693 = .ok (.ireturn, 1) := by decide +kernel
theorem d_La_law_694 : decode b_La_law 694 = .ok (.goto 122, 3) := by decide +kernel
theorem d_La_law_697 : decode b_La_law 697 = .ok (.aload_n 1, 1) := by decide +kernel
theorem d_La_law_698 : decode b_La_law 698 = .ok (.aload_n 0, 1) := by decide +kernel
theorem d_La_law_699 : decode b_La_law 699 = .ok (.iload 4, 2) := by decide +kernel
theorem d_La_law_701 : decode b_La_law 701 = .ok (.iconst 1, 1) := by decide +kernel
theorem d_La_law_702 : decode b_La_law 702 = .ok (.iadd, 1) := by decide +kernel
theorem d_La_law_703 : decode b_La_law 703 = .ok (.iaload, 1) := by decide +kernel
theorem d_La_law_704 : decode b_La_law 704 = .ok (.invokevirtual 110, 3) := by decide +kernel
theorem d_La_law_707 : decode b_La_law 707 = .ok (.aload_n 2, 1) := by decide +kernel
theorem d_La_law_708 : decode b_La_law 708 = .ok (.aload_n 0, 1) := by decide +kernel
theorem d_La_law_709 : decode b_La_law 709 = .ok (.iload 4, 2) := by decide +kernel
theorem d_La_law_711 : decode b_La_law 711 = .ok (.iconst 1, 1) := by decide +kernel
theorem d_La_law_712 : decode b_La_law 712 = .ok (.iadd, 1) := by decide +kernel
theorem d_La_law_713 : decode b_La_law 713 = .ok (.iaload, 1) := by decide +kernel
theorem d_La_law_714 : decode b_La_law 714 = .ok (.invokevirtual 113, 3) := by decide +kernel
theorem d_La_law_717 : decode b_La_law 717 = .ok (.if_icmp .eq 99, 3) := by decide +kernel
theorem d_La_law_720 : decode b_La_law 720 = .ok (.iconst 0, 1) := by decide +kernel
theorem d_La_law_721 : decode b_La_law 721 = .ok (.ireturn, 1) := by decide +kernel
theorem d_La_law_722 : decode b_La_law 722 = .ok (.aload_n 1, 1) := by decide +kernel
theorem d_La_law_723 : decode b_La_law 723 = .ok (.aload_n 0, 1) := by decide +kernel
theorem d_La_law_724 : decode b_La_law 724 = .ok (.iload 4, 2) := by decide +kernel
theorem d_La_law_726 : decode b_La_law 726 = .ok (.iconst 1, 1) := by decide +kernel
theorem d_La_law_727 : decode b_La_law 727 = .ok (.iadd, 1) := by decide +kernel
theorem d_La_law_728 : decode b_La_law 728 = .ok (.iaload, 1) := by decide +kernel
theorem d_La_law_729 : decode b_La_law 729 = .ok (.aload_n 0, 1) := by decide +kernel
theorem d_La_law_730 : decode b_La_law 730 = .ok (.iload 4, 2) := by decide +kernel
theorem d_La_law_732 : decode b_La_law 732 = .ok (.iconst 2, 1) := by decide +kernel
theorem d_La_law_733 : decode b_La_law 733 = .ok (.iadd, 1) := by decide +kernel
theorem d_La_law_734 : decode b_La_law 734 = .ok (.iaload, 1) := by decide +kernel
theorem d_La_law_735 : decode b_La_law 735 = .ok (.invokevirtual 114, 3) := by decide +kernel
theorem d_La_law_738 : decode b_La_law 738 = .ok (.aload_n 2, 1) := by decide +kernel
theorem d_La_law_739 : decode b_La_law 739 = .ok (.aload_n 0, 1) := by decide +kernel
theorem d_La_law_740 : decode b_La_law 740 = .ok (.iload 4, 2) := by decide +kernel
theorem d_La_law_742 : decode b_La_law 742 = .ok (.iconst 1, 1) := by decide +kernel
theorem d_La_law_743 : decode b_La_law 743 = .ok (.iadd, 1) := by decide +kernel
theorem d_La_law_744 : decode b_La_law 744 = .ok (.iaload, 1) := by decide +kernel
theorem d_La_law_745 : decode b_La_law 745 = .ok (.aload_n 0, 1) := by decide +kernel
theorem d_La_law_746 : decode b_La_law 746 = .ok (.iload 4, 2) := by decide +kernel
theorem d_La_law_748 : decode b_La_law 748 = .ok (.iconst 2, 1) := by decide +kernel
theorem d_La_law_749 : decode b_La_law 749 = .ok (.iadd, 1) := by decide +kernel
theorem d_La_law_750 : decode b_La_law 750 = .ok (.iaload, 1) := by decide +kernel
theorem d_La_law_751 : decode b_La_law 751 = .ok (.invokevirtual 118, 3) := by decide +kernel
theorem d_La_law_754 : decode b_La_law 754 = .ok (.if_icmp .eq 62, 3) := by decide +kernel
theorem d_La_law_757 : decode b_La_law 757 = .ok (.iconst 0, 1) := by decide +kernel
theorem d_La_law_758 : decode b_La_law 758 = .ok (.ireturn, 1) := by decide +kernel
theorem d_La_law_759 : decode b_La_law 759 = .ok (.aload_n 1, 1) := by decide +kernel
theorem d_La_law_760 : decode b_La_law 760 = .ok (.invokevirtual 119, 3) := by decide +kernel
theorem d_La_law_763 : decode b_La_law 763 = .ok (.aload_n 2, 1) := by decide +kernel
theorem d_La_law_764 : decode b_La_law 764 = .ok (.invokevirtual 122, 3) := by decide +kernel
theorem d_La_law_767 : decode b_La_law 767 = .ok (.if_icmp .eq 49, 3) := by decide +kernel
theorem d_La_law_770 : decode b_La_law 770 = .ok (.iconst 0, 1) := by decide +kernel
theorem d_La_law_771 : decode b_La_law 771 = .ok (.ireturn, 1) := by decide +kernel
theorem d_La_law_772 : decode b_La_law 772 = .ok (.aload_n 1, 1) := by decide +kernel
theorem d_La_law_773 : decode b_La_law 773 = .ok (.aload_n 3, 1) := by decide +kernel
theorem d_La_law_774 : decode b_La_law 774 = .ok (.invokestatic 123, 3) := by decide +kernel
theorem d_La_law_777 : decode b_La_law 777 = .ok (.istore 5, 2) := by decide +kernel
theorem d_La_law_779 : decode b_La_law 779 = .ok (.aload_n 2, 1) := by decide +kernel
theorem d_La_law_780 : decode b_La_law 780 = .ok (.invokevirtual 125, 3) := by decide +kernel
theorem d_La_law_783 : decode b_La_law 783 = .ok (.istore 6, 2) := by decide +kernel
theorem d_La_law_785 : decode b_La_law 785 = .ok (.aload_n 2, 1) := by decide +kernel
theorem d_La_law_786 : decode b_La_law 786 = .ok (.invokevirtual 57, 3) := by decide +kernel
theorem d_La_law_789 : decode b_La_law 789 = .ok (.iload 5, 2) := by decide +kernel
theorem d_La_law_791 : decode b_La_law 791 = .ok (.if_icmp .eq 5, 3) := by decide +kernel
theorem d_La_law_794 : decode b_La_law 794 = .ok (.iconst 0, 1) := by decide +kernel
theorem d_La_law_795 : decode b_La_law 795 = .ok (.ireturn, 1) := by decide +kernel
theorem d_La_law_796 : decode b_La_law 796 = .ok (.iload 5, 2) := by decide +kernel
theorem d_La_law_798 : decode b_La_law 798 = .ok (.ifCond .ne 15, 3) := by decide +kernel
theorem d_La_law_801 : decode b_La_law 801 = .ok (.aload_n 3, 1) := by decide +kernel
theorem d_La_law_802 : decode b_La_law 802 = .ok (.iconst 0, 1) := by decide +kernel
theorem d_La_law_803 : decode b_La_law 803 = .ok (.laload, 1) := by decide +kernel
theorem d_La_law_804 : decode b_La_law 804 = .ok (.iload 6, 2) := by decide +kernel
theorem d_La_law_806 : decode b_La_law 806 = .ok (.i2l, 1) := by decide +kernel
theorem d_La_law_807 : decode b_La_law 807 = .ok (.lcmp, 1) := by decide +kernel
theorem d_La_law_808 : decode b_La_law 808 = .ok (.ifCond .eq 5, 3) := by decide +kernel
theorem d_La_law_811 : decode b_La_law 811 = .ok (.iconst 0, 1) := by decide +kernel
theorem d_La_law_812 : decode b_La_law 812 = .ok (.ireturn, 1) := by decide +kernel
theorem d_La_law_813 : decode b_La_law 813 = .ok (.goto 3, 3) := by decide +kernel
theorem d_La_law_816 : decode b_La_law 816 = .ok (.iinc 4 3, 3) := by decide +kernel
theorem d_La_law_819 : decode b_La_law 819 = .ok (.goto (-796), 3) := by decide +kernel
theorem d_La_law_822 : decode b_La_law 822 = .ok (.iconst 1, 1) := by decide +kernel
theorem d_La_law_823 : decode b_La_law 823 = .ok (.ireturn, 1) := by decide +kernel
theorem d_La_law_39 : decode b_La_law 39 = .ok (.tableswitch 777 0 18 #[89, 146, 190, 246, 259, 315, 340, 365, 402, 446, 459, 515, 552, 577, 614, 658, 683, 720, 733], 89) := by decide +kernel