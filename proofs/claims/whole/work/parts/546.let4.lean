/-! a new letter -/
theorem stP_o {P : Nat → Nat → Int} {p k i j : Nat} {x : Int} (h : i ≠ p ∨ j ≠ k) : stP P p k x i j = P i j := by
  unfold stP
  rw [if_neg (by omega)]
theorem stP_at {P : Nat → Nat → Int} {p k : Nat} {x : Int} : stP P p k x p k = x := by
  unfold stP
  rw [if_pos ⟨rfl, rfl⟩]
theorem isMark_c {F : Nat} {a : Int} (h1 : -2147483648 ≤ a) (h2 : a < 2147483648) : f_X11_isMark F (iI a) = some (bI (0 ≤ a ∧ a ≤ 99)) := by
  simp (disch := omega) only [reduceIte, Nat.reduceEqDiff, Nat.reduceAdd, Nat.reduceSub, Nat.reduceMul, Nat.reduceLT, Int.reduceNeg, Int.reduceAdd, Int.reduceSub, Int.reduceMul, Int.reduceLT, Int.reduceLE, Int.reduceEq, Int.reduceToNat, reduceCtorEq, and_self, and_true, true_and, false_and, and_false, or_false, false_or, or_true, true_or, true_implies, false_implies, implies_true, not_true_eq_false, not_false_eq_true, Int.toNat_natCast, Int.cast_ofNat_Int, eq_self, ne_eq, ite_true, ite_false, if_true, if_false, Int.add_sub_cancel, Int.sub_add_cancel, Int.add_zero, Int.zero_add, cast_s, iI_in, iI_lit, iI_le, iI_lt, iI_eq, iI_cl, iI_add, iI_sub, iI_mul, iI_neg, iI_nI, ok_s, ok_ck, ok_bn, ok_ob, ck_iI, bn_eq, ob_s, om_n, om_s, cb_bI, gI_g, gI_2, gJ_1, gJ_g, gJ_2, gR_1, gR_2, gR_g, within_v, in_v, bI_i0, bI_i1, iI_bI0, iI_bI1, bI_T, bI_F, f_X11_isMark]
theorem isMark_m {F : Nat} {a : Int} (h1 : -2147483648 ≤ a) (h2 : a < 2147483648) : f_X12_isMark F (iI a) = some (bI (0 ≤ a ∧ a ≤ 99)) := by
  by_cases c : a < 0
  · rw [bI_f (by omega)]
    simp (disch := omega) only [reduceIte, Nat.reduceEqDiff, Nat.reduceAdd, Nat.reduceSub, Nat.reduceMul, Nat.reduceLT, Int.reduceNeg, Int.reduceAdd, Int.reduceSub, Int.reduceMul, Int.reduceLT, Int.reduceLE, Int.reduceEq, Int.reduceToNat, reduceCtorEq, and_self, and_true, true_and, false_and, and_false, or_false, false_or, or_true, true_or, true_implies, false_implies, implies_true, not_true_eq_false, not_false_eq_true, Int.toNat_natCast, Int.cast_ofNat_Int, eq_self, ne_eq, ite_true, ite_false, if_true, if_false, Int.add_sub_cancel, Int.sub_add_cancel, Int.add_zero, Int.zero_add, cast_s, iI_in, iI_lit, iI_le, iI_lt, iI_eq, iI_cl, iI_add, iI_sub, iI_mul, iI_neg, iI_nI, ok_s, ok_ck, ok_bn, ok_ob, ck_iI, bn_eq, ob_s, om_n, om_s, cb_bI, gI_g, gI_2, gJ_1, gJ_g, gJ_2, gR_1, gR_2, gR_g, within_v, in_v, bI_i0, bI_i1, iI_bI0, iI_bI1, bI_T, bI_F, f_X12_isMark, c]
  · by_cases c2 : 99 < a
    · rw [bI_f (by omega)]
      simp (disch := omega) only [reduceIte, Nat.reduceEqDiff, Nat.reduceAdd, Nat.reduceSub, Nat.reduceMul, Nat.reduceLT, Int.reduceNeg, Int.reduceAdd, Int.reduceSub, Int.reduceMul, Int.reduceLT, Int.reduceLE, Int.reduceEq, Int.reduceToNat, reduceCtorEq, and_self, and_true, true_and, false_and, and_false, or_false, false_or, or_true, true_or, true_implies, false_implies, implies_true, not_true_eq_false, not_false_eq_true, Int.toNat_natCast, Int.cast_ofNat_Int, eq_self, ne_eq, ite_true, ite_false, if_true, if_false, Int.add_sub_cancel, Int.sub_add_cancel, Int.add_zero, Int.zero_add, cast_s, iI_in, iI_lit, iI_le, iI_lt, iI_eq, iI_cl, iI_add, iI_sub, iI_mul, iI_neg, iI_nI, ok_s, ok_ck, ok_bn, ok_ob, ck_iI, bn_eq, ob_s, om_n, om_s, cb_bI, gI_g, gI_2, gJ_1, gJ_g, gJ_2, gR_1, gR_2, gR_g, within_v, in_v, bI_i0, bI_i1, iI_bI0, iI_bI1, bI_T, bI_F, f_X12_isMark, c, c2]
    · rw [bI_t (by omega)]
      simp (disch := omega) only [reduceIte, Nat.reduceEqDiff, Nat.reduceAdd, Nat.reduceSub, Nat.reduceMul, Nat.reduceLT, Int.reduceNeg, Int.reduceAdd, Int.reduceSub, Int.reduceMul, Int.reduceLT, Int.reduceLE, Int.reduceEq, Int.reduceToNat, reduceCtorEq, and_self, and_true, true_and, false_and, and_false, or_false, false_or, or_true, true_or, true_implies, false_implies, implies_true, not_true_eq_false, not_false_eq_true, Int.toNat_natCast, Int.cast_ofNat_Int, eq_self, ne_eq, ite_true, ite_false, if_true, if_false, Int.add_sub_cancel, Int.sub_add_cancel, Int.add_zero, Int.zero_add, cast_s, iI_in, iI_lit, iI_le, iI_lt, iI_eq, iI_cl, iI_add, iI_sub, iI_mul, iI_neg, iI_nI, ok_s, ok_ck, ok_bn, ok_ob, ck_iI, bn_eq, ob_s, om_n, om_s, cb_bI, gI_g, gI_2, gJ_1, gJ_g, gJ_2, gR_1, gR_2, gR_g, within_v, in_v, bI_i0, bI_i1, iI_bI0, iI_bI1, bI_T, bI_F, f_X12_isMark, c, c2]
set_option maxRecDepth 100000 in
theorem fit_c : ∀ c : Nat, c < 256 → fits .char (.int (iI (c : Int))) = true := by decide +kernel
theorem cyc_ok {α : Type} {m L0 L1 : Nat} {g : Nat → Int32} {x : Option α} (h0 : m ≤ L0) (h1 : m ≤ L1) (hm : m < 2147483648) (hf : ∀ i, i < m → fits .char (.int (g i)) = true) : cyc 0 0 (iI m) L0 L1 g x = x := by
  have e2 : ((0 : Int32).toNatClampNeg) = 0 := by decide
  have e3 : (iI (m : Int)).toNatClampNeg = m := by rw [iI_cl (by omega) (by omega)]; omega
  unfold cyc
  rw [if_neg, if_pos]
  · intro i hi
    rw [e3] at hi
    rw [e2, Nat.zero_add]
    exact hf i hi
  · rw [e2, e3]
    rw [show (0 : Int32) = iI 0 from rfl, iI_lt (by omega) (by omega) (by omega) (by omega), iI_lt (by omega) (by omega) (by omega) (by omega)]
    omega
/-- the attributes of a new letter -/
def nwL (p y d m : Int) (k : Nat) : Int := if k = 0 then p else if k = 1 then y else if k = 2 then d else if k = 6 then m else if k = 9 then d else if k = 10 then -1 else if k = 11 then -1 else 0
def adL (L : Nat → Nat → Int) (ln : Nat) (p y d m : Int) : Nat → Nat → Int := fun j k => if j = ln then nwL p y d m k else L j k
theorem adL_n {L : Nat → Nat → Int} {ln : Nat} {p y d m : Int} (k : Nat) : adL L ln p y d m ln k = nwL p y d m k := if_pos rfl
theorem adL_o {L : Nat → Nat → Int} {ln j : Nat} {p y d m : Int} (k : Nat) (h : j ≠ ln) : adL L ln p y d m j k = L j k := if_neg h
def nwT (t : Nat → Nat) (ln x : Nat) : Nat → Nat := fun j => if j = ln then x else t j
theorem nwT_n {t : Nat → Nat} {ln x : Nat} : nwT t ln x ln = x := if_pos rfl
theorem nwT_o {t : Nat → Nat} {ln x j : Nat} (h : j ≠ ln) : nwT t ln x j = t j := if_neg h
def adX (X : Nat → Nat → Nat) (ln : Nat) (b : Nat → Nat) : Nat → Nat → Nat := fun i => if i = ln then b else X i
theorem adX_n {X : Nat → Nat → Nat} {ln : Nat} {b : Nat → Nat} : adX X ln b ln = b := if_pos rfl
theorem adX_o {X : Nat → Nat → Nat} {ln i : Nat} {b : Nat → Nat} (h : i ≠ ln) : adX X ln b i = X i := if_neg h
def c13 (G13 : Grp) (n t : Nat) (y d m : Int) : Grp := gI (gI (gI (gI (gI (gI (gI (gR G13 n 0 (some t)) n 1 (iI y)) n 6 (iI m)) n 2 (iI d)) n 8 (iI 0)) n 9 (iI d)) n 10 (iI (-1))) n 11 (iI (-1))
def c3 (G3 : Grp) (n m : Nat) : Grp := gC (gR G3 (n + 3) 0 (some m)) (n + 3) (va_cpy (G3.1 1) (G3.1 (n + 3)) 0 0 m)
def m32 (G32 : Grp) (ln : Nat) (p y d m : Int) : Grp := gI (gI (gI (gI (gI (gI (gI (gI G32 132 ln (iI p)) 133 ln (iI y)) 134 ln (iI d)) 135 ln (iI 0)) 136 ln (iI d)) 137 ln (iI (-1))) 138 ln (iI (-1))) 139 ln (iI m)
def mk4 (G : Grp) (a k : Nat) (x0 x1 x2 x3 : Int32) : Grp := gI (gI (gI (gI G a k x0) a (k + 1) x1) a (k + 2) x2) a (k + 3) x3
section PR
variable {F : Nat} {G0 G1 G2 G3 G4 G5 G6 G7 G8 G9 G10 G11 G12 G13 G14 G15 G23 G24 G25 G26 G27 G32 G33 G34 G35 G36 G41 : Grp} {gn cn d n pn ln tn sn z : Nat} {tp tl Ln b : Nat → Nat} {P L T : Nat → Nat → Int} {X : Nat → Nat → Nat} {f : Nat → Int}
theorem RPair.set (h : RPair G7 G9 G25 gn cn d n pn tp P) {p k : Nat} {x : Int} {G25' : Grp} (hp : p < pn) (hk : k = 5 ∨ k = 6 ∨ k = 7 ∨ k = 8) (hx5 : k = 5 → -1 ≤ x ∧ x < 6) (hx7 : k = 7 → 0 ≤ x ∧ x < 256) (e0 : G25'.1 91 4 = G25.1 91 4) (e1 : ∀ i, i < pn → G25'.1 99 i = G25.1 99 i ∧ G25'.1 100 i = G25.1 100 i ∧ G25'.1 101 i = G25.1 101 i ∧ G25'.1 102 i = G25.1 102 i) (e7 : ∀ i, i < pn → G25'.1 103 i = if i = p ∧ k = 7 then iI x else G25.1 103 i) (e5 : ∀ i, i < pn → G25'.1 104 i = if i = p ∧ k = 5 then iI x else G25.1 104 i) : RPair G7 (gI G9 (tp p) k (iI x)) G25' gn cn d n pn tp (stP P p k x) := by
  obtain ⟨h1, h2, h3, h4, h5, h6, h7, h8, h9, h10⟩ := id h
  have hq : ∀ i, i < pn → (tp i = tp p ↔ i = p) := fun i hi => ⟨h6 i p hi hp, fun e => by rw [e]⟩
  have s4 : ∀ i, stP P p k x i 4 = P i 4 := fun i => stP_o (Or.inr (by omega))
  have s2 : ∀ i, stP P p k x i 2 = P i 2 := fun i => stP_o (Or.inr (by omega))
  have s1 : ∀ i, stP P p k x i 1 = P i 1 := fun i => stP_o (Or.inr (by omega))
  have s0 : ∀ i, stP P p k x i 0 = P i 0 := fun i => stP_o (Or.inr (by omega))
  have s3 : ∀ i, stP P p k x i 3 = P i 3 := fun i => stP_o (Or.inr (by omega))
  refine ⟨h1, h2, e0.trans h3, fun i hi => ?_, fun i hi => ?_, h6, fun i j hi hj o1 o2 e => ?_, fun a k' ha => ?_, h9, h10⟩
  · obtain ⟨a1, a2, a3, a4, a5, a6, a7, a8, a9⟩ := h4 i hi
    obtain ⟨b1, b2, b3, b4⟩ := e1 i hi
    rw [s1, s2, s3, s4]
    refine ⟨a1, a2, fun k' hk' => ?_, b1.trans a4, b2.trans a5, b3.trans a6, b4.trans a7, ?_, ?_⟩
    · rw [gI_g]
      by_cases e : i = p ∧ k' = k
      · rw [if_pos ⟨by rw [e.1], e.2⟩, e.1, e.2, stP_at]
      · rw [if_neg fun y => e ⟨(hq i hi).mp y.1, y.2⟩, stP_o (by omega)]
        exact a3 k' hk'
    · rw [e7 i hi]
      by_cases e : i = p ∧ k = 7
      · rw [if_pos e, e.1]
        obtain ⟨-, rfl⟩ := e
        rw [stP_at]
      · rw [if_neg e, stP_o (by omega)]; exact a8
    · rw [e5 i hi]
      by_cases e : i = p ∧ k = 5
      · rw [if_pos e, e.1]
        obtain ⟨-, rfl⟩ := e
        rw [stP_at]
      · rw [if_neg e, stP_o (by omega)]; exact a9
  · obtain ⟨a1, a2, a3, a4, a5, a6, a7⟩ := h5 i hi
    rw [s0, s1, s2, s3, s4]
    refine ⟨a1, a2, a3, a4, a5, ?_, ?_⟩
    · by_cases e : i = p ∧ 5 = k
      · obtain ⟨rfl, rfl⟩ := e
        rw [stP_at]; exact hx5 rfl
      · rw [stP_o (by omega)]; exact a6
    · by_cases e : i = p ∧ 7 = k
      · obtain ⟨rfl, rfl⟩ := e
        rw [stP_at]; exact hx7 rfl
      · rw [stP_o (by omega)]; exact a7
  · rw [s4] at o1 o2
    rw [s2, s2] at e
    exact h7 i j hi hj o1 o2 e
  · have := (h4 p hp).2.1
    rw [gI_g, if_neg (by omega)]
    exact h8 a k' ha
theorem RPair.cls (h : RPair G7 G9 G25 gn cn d n pn tp P) {p k : Nat} {x : Int} (hp : p < pn) (hk : k = 6 ∨ k = 8) : RPair G7 (gI G9 (tp p) k (iI x)) G25 gn cn d n pn tp (stP P p k x) :=
  h.set hp (by omega) (fun e => by omega) (fun e => by omega) rfl (fun _ _ => ⟨rfl, rfl, rfl, rfl⟩) (fun i _ => by rw [if_neg (by omega)]) (fun i _ => by rw [if_neg (by omega)])
theorem RPair.mono (h : RPair G7 G9 G25 gn cn d n pn tp P) {d' n' : Nat} (hd : d ≤ d') (hn : n ≤ n') : RPair G7 G9 G25 gn cn d' n' pn tp P := by
  obtain ⟨h1, h2, h3, h4, h5, h6, h7, h8, h9, h10⟩ := h
  refine ⟨h1, h2, h3, fun i hi => ?_, fun i hi => ?_, h6, h7, fun a k ha => h8 a k (by omega), h9, h10⟩
  · obtain ⟨a1, a2, a3⟩ := h4 i hi
    exact ⟨a1, by omega, a3⟩
  · obtain ⟨a1, a2, a3, a4, a5, a6⟩ := h5 i hi
    exact ⟨a1, a2, a3, by omega, by omega, a6⟩
theorem LC.mono (h : LC G10 G13 n ln tp tl L) {n' : Nat} (hn : n ≤ n') : LC G10 G13 n' ln tp tl L := by
  obtain ⟨h1, h2, h3, h4⟩ := h
  refine ⟨h1, fun i hi => ?_, h3, fun a ha => h4 a (by omega)⟩
  obtain ⟨a1, a2, a3, a4, a5⟩ := h2 i hi
  exact ⟨a1, a2, a3, a4, by omega⟩
theorem LGS.mono (h : LGS G15 G34 n ln tl) {n' : Nat} (hn : n ≤ n') : LGS G15 G34 n' ln tl := ⟨h.1, fun a k ha => h.2.1 a k (by omega), h.2.2⟩
theorem init_c {t m : Nat} {y : Int} (hn : 174 ≤ n) (h240 : G3.2.2 1 0 = some 240) (hm : m ≤ 160) (hb : ∀ i, i < m → G3.1 1 i = iI (b i) ∧ b i < 256) : ∃ G0', f_X4_init F G0 G3 G13 n t (iI y) (iI d) (iI m) = some (G0', c3 G3 n m, c13 G13 n t y d m) := by
  have e1 : (if 0 < (if nI 240 < iI m then nI 240 else iI m) then (if nI 240 < iI m then nI 240 else iI m) else 0) = iI m := by
    have n1 : ¬ nI 240 < iI m := by
      rw [iI_nI, iI_lt (by omega) (by omega) (by omega) (by omega)]
      omega
    rw [if_neg n1]
    by_cases c : m = 0
    · subst c; rfl
    · rw [if_pos]
      rw [show (0 : Int32) = iI 0 from rfl, iI_lt (by omega) (by omega) (by omega) (by omega)]
      omega
  have e2 : ∀ (G : Grp), (gI G n 6 (iI m)).1 n 6 = iI m := fun G => by rw [gI_g, if_pos ⟨rfl, rfl⟩]
  have e3 : (iI (m : Int)).toNatClampNeg = m := by rw [iI_cl (by omega) (by omega)]; omega
  have e4 : (1 = n + 1 + 1 + 1) = False := eq_false (by omega)
  refine ⟨gR (gR (gR G0 n 4 (some (n + 1))) n 5 (some (n + 1 + 1))) n 3 (some (n + 1 + 1 + 1)), ?_⟩
  unfold f_X4_init
  simp only [bn_eq, h240, Option.getD_some, e1, e2, e3]
  rw [ck_iI (by omega) (by omega) (by omega)]
  simp only [gR_g, gR_1, e4, false_and, if_false, and_self, if_true, h240, Option.getD_some]
  rw [cyc_ok (by omega) (Nat.le_refl _) (by omega) (fun i hi => by rw [(hb i hi).1]; exact fit_c _ (hb i hi).2)]
  have m1 : (-1 : Int32) = iI (-1) := by decide +kernel
  rw [m1]
  rfl
theorem cpt_m {m : Nat} (hl : ln < 200) (hm : m ≤ 160) (hb : ∀ i, i < m → G27.1 106 i = iI (b i) ∧ b i < 128) (hF : 200000 ≤ F) (h57 : G32.1 91 57 = iI ln) : ∃ G32', f_X12_letter_l206 F F G23 G25 G27 G32 G33 (iI m) (iI ln) (iI 0) = some (iI ln, gI G27 91 20 (iI 0), gI G32' 91 57 (iI ((ln : Int) + 1)), G33) ∧ (∀ j, j < m → G32'.1 143 (160 * ln + j) = iI (b j)) ∧ (∀ a k, ¬ (a = 143 ∧ 160 * ln ≤ k) → G32'.1 a k = G32.1 a k) ∧ ∀ k, k < 160 * ln → G32'.1 143 k = G32.1 143 k := by
  have key := up_ind (n := m) (Q := fun fu i => ∀ G : Grp, (∀ j, j < i → G.1 143 (160 * ln + j) = iI (b j)) → (∀ a k, ¬ (a = 143 ∧ 160 * ln ≤ k) → G.1 a k = G32.1 a k) → ∃ G32', f_X12_letter_l206 F fu G23 G25 G27 G G33 (iI m) (iI ln) (iI i) = some (iI ln, gI G27 91 20 (iI 0), gI G32' 91 57 (iI ((ln : Int) + 1)), G33) ∧ (∀ j, j < m → G32'.1 143 (160 * ln + j) = iI (b j)) ∧ (∀ a k, ¬ (a = 143 ∧ 160 * ln ≤ k) → G32'.1 a k = G32.1 a k)) ?_ ?_
  · obtain ⟨G', r1, r2, r3⟩ := key 0 F (by omega) (by omega) G32 (fun j hj => absurd hj (Nat.not_lt_zero j)) (fun _ _ _ => rfl)
    exact ⟨G', r1, r2, r3, fun k hk => r3 143 k (by omega)⟩
  · intro fu G g1 g2
    refine ⟨G, ?_, g1, g2⟩
    have e : (m : Int) ≤ m := Int.le_refl _
    have g57 := (g2 91 57 (by omega)).trans h57
    show f_X12_letter_l206b F (f_X12_letter_l206 F fu) G23 G25 G27 G G33 _ _ _ = _
    simp (disch := omega) only [reduceIte, Nat.reduceEqDiff, Nat.reduceAdd, Nat.reduceSub, Nat.reduceMul, Nat.reduceLT, Int.reduceNeg, Int.reduceAdd, Int.reduceSub, Int.reduceMul, Int.reduceLT, Int.reduceLE, Int.reduceEq, Int.reduceToNat, reduceCtorEq, and_self, and_true, true_and, false_and, and_false, or_false, false_or, or_true, true_or, true_implies, false_implies, implies_true, not_true_eq_false, not_false_eq_true, Int.toNat_natCast, Int.cast_ofNat_Int, eq_self, ne_eq, ite_true, ite_false, if_true, if_false, Int.add_sub_cancel, Int.sub_add_cancel, Int.add_zero, Int.zero_add, cast_s, iI_in, iI_lit, iI_le, iI_lt, iI_eq, iI_cl, iI_add, iI_sub, iI_mul, iI_neg, iI_nI, ok_s, ok_ck, ok_bn, ok_ob, ck_iI, bn_eq, ob_s, om_n, om_s, cb_bI, gI_g, gI_2, gJ_1, gJ_g, gJ_2, gR_1, gR_2, gR_g, within_v, in_v, bI_i0, bI_i1, iI_bI0, iI_bI1, bI_T, bI_F, f_X12_letter_l206b, e, g57]
  · intro i fu hi ih G g1 g2
    have e : ¬ (m : Int) ≤ i := by omega
    obtain ⟨u1, u2⟩ := hb i hi
    have nb := nar_b (b i) u2
    have e1 : (160 * (ln : Int) + (i : Int)).toNat = 160 * ln + i := by omega
    obtain ⟨G', r1, r2⟩ := ih (gI G 143 (160 * ln + i) (iI (b i))) (fun j hj => by
      rw [gI_g]
      by_cases c : j = i
      · rw [if_pos ⟨rfl, by omega⟩, c]
      · rw [if_neg (by omega)]; exact g1 j (by omega)) (fun a k h => by
      rw [gI_g, if_neg (by omega)]; exact g2 a k h)
    refine ⟨G', ?_, r2⟩
    show f_X12_letter_l206b F (f_X12_letter_l206 F fu) G23 G25 G27 G G33 _ _ _ = _
    simp (disch := omega) only [reduceIte, Nat.reduceEqDiff, Nat.reduceAdd, Nat.reduceSub, Nat.reduceMul, Nat.reduceLT, Int.reduceNeg, Int.reduceAdd, Int.reduceSub, Int.reduceMul, Int.reduceLT, Int.reduceLE, Int.reduceEq, Int.reduceToNat, reduceCtorEq, and_self, and_true, true_and, false_and, and_false, or_false, false_or, or_true, true_or, true_implies, false_implies, implies_true, not_true_eq_false, not_false_eq_true, Int.toNat_natCast, Int.cast_ofNat_Int, eq_self, ne_eq, ite_true, ite_false, if_true, if_false, Int.add_sub_cancel, Int.sub_add_cancel, Int.add_zero, Int.zero_add, cast_s, iI_in, iI_lit, iI_le, iI_lt, iI_eq, iI_cl, iI_add, iI_sub, iI_mul, iI_neg, iI_nI, ok_s, ok_ck, ok_bn, ok_ob, ck_iI, bn_eq, ob_s, om_n, om_s, cb_bI, gI_g, gI_2, gJ_1, gJ_g, gJ_2, gR_1, gR_2, gR_g, within_v, in_v, bI_i0, bI_i1, iI_bI0, iI_bI1, bI_T, bI_F, f_X12_letter_l206b, e, u1, nb, e1]
    exact r1
-- the pictures with the new letter
theorem c13_at {a k t m : Nat} {y e : Int} : (c13 G13 n t y e m).1 a k = if a = n then (if k = 11 then iI (-1) else if k = 10 then iI (-1) else if k = 9 then iI e else if k = 8 then iI 0 else if k = 2 then iI e else if k = 6 then iI m else if k = 1 then iI y else G13.1 n k) else G13.1 a k := by
  unfold c13
  rw [gI_g, gI_g, gI_g, gI_g, gI_g, gI_g, gI_g, gR_1]
  by_cases c : a = n
  · subst c
    simp only [true_and, if_true, eq_self]
  · simp only [c, false_and, if_false]
theorem LC.new (h : LC G10 G13 n ln tp tl L) {p m : Nat} {y e : Int} (hn : 174 ≤ n) (hl : ln < 200) : LC (gI (gR G10 45 ln (some n)) 44 1 (iI ((ln : Int) + 1))) (c13 G13 n (tp p) y e m) (n + 4) (ln + 1) tp (nwT tl ln n) (adL L ln p y e m) := by
  obtain ⟨h1, h2, h3, h4⟩ := id h
  refine ⟨?_, fun i hi => ?_, fun i j hi hj => ?_, fun a ha => ?_⟩
  · rw [gI_g, if_pos ⟨rfl, rfl⟩]; rfl
  · by_cases c : i = ln
    · subst c
      rw [nwT_n, adL_n]
      refine ⟨?_, ?_, fun k hk hlk => ?_, hn, Nat.le_refl _⟩
      · rw [gI_2, gR_g, if_pos ⟨rfl, rfl⟩]
      · show (if n = n ∧ 0 = 0 then some (tp p) else G13.2.2 n 0) = _
        rw [if_pos ⟨rfl, rfl⟩]; rfl
      · have f7 := h4 n (Nat.le_refl _)
        rw [c13_at, if_pos rfl, adL_n]
        rcases lk_c hlk with rfl | rfl | rfl | rfl | rfl | rfl | rfl | rfl | rfl
        · omega
        · rfl
        · rfl
        · rfl
        · exact f7
        · rfl
        · rfl
        · rfl
        · rfl
    · obtain ⟨a1, a2, a3, a4, a5⟩ := h2 i (by omega)
      rw [nwT_o c, adL_o _ c]
      refine ⟨?_, ?_, fun k hk hlk => ?_, a4, by omega⟩
      · rw [gI_2, gR_g, if_neg (by omega)]; exact a1
      · show (if tl i = n ∧ 0 = 0 then some (tp p) else G13.2.2 (tl i) 0) = _
        rw [if_neg (by omega)]; exact a2
      · rw [c13_at, if_neg (by omega), adL_o _ c]
        exact a3 k hk hlk
  · by_cases c : i = ln
    · subst c
      rw [nwT_n, nwT_o (by omega)]
      exact (h2 j hj).2.2.2.2
    · rw [nwT_o c, nwT_o (by omega)]
      exact h3 i j (by omega) hj
  · rw [c13_at, if_neg (by omega)]
    exact h4 a (by omega)
theorem m32_at {a k m : Nat} {p y e : Int} : (m32 G32 ln p y e m).1 a k = if k = ln then (if a = 139 then iI m else if a = 138 then iI (-1) else if a = 137 then iI (-1) else if a = 136 then iI e else if a = 135 then iI 0 else if a = 134 then iI e else if a = 133 then iI y else if a = 132 then iI p else G32.1 a k) else G32.1 a k := by
  unfold m32
  rw [gI_g, gI_g, gI_g, gI_g, gI_g, gI_g, gI_g, gI_g]
  by_cases c : k = ln
  · subst c
    simp only [and_true, if_true, eq_self]
  · simp only [c, and_false, if_false]
theorem LM.new (h : LM G32 ln L) {p y e : Int} {m : Nat} {G32' : Grp} (hl : ln < 200) (hf : ∀ a k, ¬ (a = 143 ∧ 160 * ln ≤ k) → G32'.1 a k = (m32 G32 ln p y e m).1 a k) : LM (gI G32' 91 57 (iI ((ln : Int) + 1))) (ln + 1) (adL L ln p y e m) := by
  obtain ⟨h0, h1, h2⟩ := id h
  refine ⟨?_, fun i hi k hk => ?_, fun i hi => ?_⟩
  · rw [gI_g, if_pos ⟨rfl, rfl⟩]; rfl
  · have w := mc_8 hk
    rw [gI_g, if_neg fun y => w.2.2.2.2.2.2.2 y.1, hf _ _ (fun y => w.2.2.2.1 y.1), m32_at]
    by_cases c : i = ln
    · subst c
      have f7 := h2 i (Nat.le_refl _)
      rw [if_pos rfl, adL_n]
      rcases lk_c hk with rfl | rfl | rfl | rfl | rfl | rfl | rfl | rfl | rfl
      · rfl
      · rfl
      · rfl
      · rfl
      · exact f7
      · rfl
      · rfl
      · rfl
      · rfl
    · rw [if_neg c, adL_o _ c]
      exact h1 i (by omega) k hk
  · rw [gI_g, if_neg (by omega), hf _ _ (by omega), m32_at, if_neg (by omega)]
    exact h2 i (by omega)
theorem LB.new (h : LB pn d ln L) {p m : Nat} {y : Int} (hp : p < pn) (hy : 0 ≤ y ∧ y ≤ 1) (hm : m ≤ 160) (hl : ln < 200) : LB pn d (ln + 1) (adL L ln p y d m) := by
  refine ⟨by omega, fun i hi => ?_⟩
  by_cases c : i = ln
  · subst c
    simp only [adL_n]
    unfold nwL
    refine ⟨?_, ?_, ?_, ?_, ?_, ?_⟩ <;> simp <;> omega
  · simp only [adL_o _ c]
    exact h.2 i (by omega)
theorem TXS.new (h : TXS G3 G32 ln tl Ln L X) (hc : LC G10 G13 n ln tp tl L) {p y e : Int} {m : Nat} {G32' : Grp} (hm : m ≤ 160) (hb : ∀ i, i < m → G3.1 1 i = iI (b i) ∧ isSg (b i : Int)) (ht : ∀ j, j < m → G32'.1 143 (160 * ln + j) = iI (b j)) (hk : ∀ k, k < 160 * ln → G32'.1 143 k = G32.1 143 k) (hl6 : ∀ i, i < ln → L i 6 ≤ 160) : TXS (c3 G3 n m) (gI G32' 91 57 (iI ((ln : Int) + 1))) (ln + 1) (nwT tl ln n) (nwT Ln ln m) (adL L ln p y e m) (adX X ln b) := fun i hi => by
  by_cases c : i = ln
  · subst c
    rw [nwT_n, nwT_n, adL_n, adX_n]
    have e6 : (nwL p y e m 6).toNat = m := by
      show ((m : Int)).toNat = m
      omega
    rw [e6]
    refine ⟨?_, Nat.le_refl _, hm, fun j hj => ⟨?_, ?_, (hb j hj).2⟩⟩
    · show (if n + 3 = n + 3 ∧ 0 = 0 then some m else _) = some m
      rw [if_pos ⟨rfl, rfl⟩]
    · show (if n + 3 = n + 3 then va_cpy (G3.1 1) (G3.1 (n + 3)) 0 0 m j else _) = _
      rw [if_pos rfl]
      show (if 0 ≤ j ∧ j < 0 + m then G3.1 1 (0 + (j - 0)) else _) = _
      rw [if_pos (by omega), show 0 + (j - 0) = j by omega]
      exact (hb j hj).1
    · rw [gI_g, if_neg (by omega)]
      exact ht j hj
  · obtain ⟨a1, a2, a3, a4⟩ := h i (by omega)
    have w := (hc.2.1 i (by omega)).2.2.2.2
    have w6 := hl6 i (by omega)
    rw [nwT_o c, nwT_o c, adL_o _ c, adX_o c]
    refine ⟨?_, a2, a3, fun j hj => ?_⟩
    · show (if tl i + 3 = n + 3 ∧ 0 = 0 then some m else G3.2.2 (tl i + 3) 0) = _
      rw [if_neg (by omega)]; exact a1
    · obtain ⟨b1, b2, b3⟩ := a4 j hj
      refine ⟨?_, ?_, b3⟩
      · show (if tl i + 3 = n + 3 then _ else G3.1 (tl i + 3) j) = _
        rw [if_neg (by omega)]; exact b1
      · rw [gI_g, if_neg (by omega), hk _ (by omega)]
        exact b2
theorem MKS.new (h : MKS G14 G33 ln tl) (hc : LC G10 G13 n ln tp tl L) (x0 x1 x2 x3 : Int32) : MKS (mk4 G14 (n + 1) 0 x0 x1 x2 x3) (mk4 G33 141 (4 * ln) x0 x1 x2 x3) (ln + 1) (nwT tl ln n) := fun i hi k hk => by
  unfold mk4
  rw [gI_g, gI_g, gI_g, gI_g, gI_g, gI_g, gI_g, gI_g]
  by_cases c : i = ln
  · subst c
    rw [nwT_n]
    have : k = 0 ∨ k = 1 ∨ k = 2 ∨ k = 3 := by omega
    rcases this with rfl | rfl | rfl | rfl
    · rw [if_neg (by omega), if_neg (by omega), if_neg (by omega), if_pos (by omega), if_neg (by omega), if_neg (by omega), if_neg (by omega), if_pos (by omega)]
    · rw [if_neg (by omega), if_neg (by omega), if_pos (by omega), if_neg (by omega), if_neg (by omega), if_pos (by omega)]
    · rw [if_neg (by omega), if_pos (by omega), if_neg (by omega), if_pos (by omega)]
    · rw [if_pos (by omega), if_pos (by omega)]
  · have w := (hc.2.1 i (by omega)).2.2.2.2
    rw [nwT_o c, if_neg (by omega), if_neg (by omega), if_neg (by omega), if_neg (by omega), if_neg (by omega), if_neg (by omega), if_neg (by omega), if_neg (by omega)]
    exact h i (by omega) k hk
theorem LGS.new (h : LGS G15 G34 n ln tl) : LGS G15 G34 (n + 4) (ln + 1) (nwT tl ln n) := by
  obtain ⟨h1, h2, h3⟩ := h
  refine ⟨fun i hi k hk => ?_, fun a k ha => h2 a k (by omega), fun j hj => h3 j (by omega)⟩
  by_cases c : i = ln
  · subst c
    rw [nwT_n, h2 (n + 2) k (by omega), h3 (6 * i + k) (by omega)]
  · rw [nwT_o c]; exact h1 i (by omega) k hk
theorem lcs_new {p y e : Int} {m p' : Nat} {fr : Int} : lcs (adL L ln p y e m) p' fr (ln + 1) = lcs L p' fr ln := by
  have key : ∀ k, k ≤ ln → lcs (adL L ln p y e m) p' fr k = lcs L p' fr k := by
    intro k
    induction k with
    | zero => intro _; rfl
    | succ k ih =>
      intro hk
      rw [lcs_s, lcs_s, ih (by omega), adL_o _ (by omega), adL_o _ (by omega), adL_o _ (by omega), adL_o _ (by omega)]
  rw [lcs_s, adL_n, adL_n, adL_n, adL_n, key ln (Nat.le_refl _), if_neg]
  intro w
  have : (0 : Int) = 6 := w.2.2.1
  omega
theorem RSil.new (h : RSil pn d ln P L) {p m : Nat} {y : Int} (hp : p < pn) : RSil pn d (ln + 1) (stP P p 6 (P p 6 + 1)) (adL L ln p y d m) := fun i hi => by
  obtain ⟨a1, a2, a3⟩ := h i hi
  rw [lcs_new, stP_o (k := 6) (j := 8) (Or.inr (by omega)), stP_o (k := 6) (j := 3) (Or.inr (by omega))]
  refine ⟨?_, a2, a3⟩
  have cc : cnt (fun j => adL L ln p y d m j 0 = i) ln = cnt (fun j => L j 0 = i) ln := cnt_congr fun j hj => by rw [adL_o _ (by omega)]
  by_cases e : i = p
  · subst e
    rw [stP_at, cnt_t (p := fun j => adL L ln i y d m j 0 = i) (by show adL L ln i y d m ln 0 = i; rw [adL_n]; rfl), cc, a1]
    rfl
  · rw [stP_o (Or.inl e), cnt_f (p := fun j => adL L ln p y d m j 0 = i) (by
      show ¬ adL L ln p y d m ln 0 = i
      rw [adL_n]
      show ¬ (p : Int) = i
      omega), cc, a1]
theorem WT.new (h : WT sn ln L) {p y e : Int} {m : Nat} : WT sn (ln + 1) (adL L ln p y e m) := by
  have cc : cnt (fun j => adL L ln p y e m j 8 = 0) ln = cnt (fun j => L j 8 = 0) ln := cnt_congr fun j hj => by rw [adL_o _ (by omega)]
  unfold WT at *
  rw [cnt_t (p := fun j => adL L ln p y e m j 8 = 0) (by show adL L ln p y e m ln 8 = 0; rw [adL_n]; rfl), cc]
  omega
end PR
