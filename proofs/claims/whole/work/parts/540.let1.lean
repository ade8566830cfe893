/-! LETTERS of both: L i k is attribute k of letter i (0 pair, 1 by, 2 written, 6 size, 7 cuts, 8 state, 9 since, 10 sack, 11 translator) -/
def lk (k : Nat) : Prop := k ≤ 2 ∨ (6 ≤ k ∧ k ≤ 11)
def mc (k : Nat) : Nat := ([132, 133, 134, 0, 0, 0, 139, 140, 135, 136, 137, 138] : List Nat).getD k 0
def LC (G10 G13 : Grp) (n ln : Nat) (tp tl : Nat → Nat) (L : Nat → Nat → Int) : Prop :=
  G10.1 44 1 = iI ln ∧ (∀ i, i < ln → G10.2.2 45 i = some (tl i) ∧ G13.2.2 (tl i) 0 = some (tp (L i 0).toNat) ∧ (∀ k, 1 ≤ k → lk k → G13.1 (tl i) k = iI (L i k)) ∧ 174 ≤ tl i ∧ tl i + 4 ≤ n) ∧
  (∀ i j, i < ln → j < i → tl j + 4 ≤ tl i) ∧ ∀ a, n ≤ a → G13.1 a 7 = 0
def LM (G32 : Grp) (ln : Nat) (L : Nat → Nat → Int) : Prop := G32.1 91 57 = iI ln ∧ (∀ i, i < ln → ∀ k, lk k → G32.1 (mc k) i = iI (L i k)) ∧ ∀ i, ln ≤ i → G32.1 140 i = 0
def LB (pn d ln : Nat) (L : Nat → Nat → Int) : Prop := ln ≤ 200 ∧ ∀ i, i < ln → (0 ≤ L i 0 ∧ L i 0 < pn) ∧ (0 ≤ L i 1 ∧ L i 1 ≤ 1) ∧ (0 ≤ L i 6 ∧ L i 6 ≤ 160) ∧ (0 ≤ L i 8 ∧ L i 8 ≤ 8) ∧ (0 ≤ L i 9 ∧ L i 9 ≤ d) ∧ (-1 ≤ L i 10 ∧ L i 10 < 1300)
def MKS (G14 G33 : Grp) (ln : Nat) (tl : Nat → Nat) : Prop := ∀ i, i < ln → ∀ k, k < 4 → G14.1 (tl i + 1) k = G33.1 141 (4 * i + k)
def LGS (G15 G34 : Grp) (n ln : Nat) (tl : Nat → Nat) : Prop := (∀ i, i < ln → ∀ k, k < 6 → G15.1 (tl i + 2) k = G34.1 142 (6 * i + k)) ∧ (∀ a k, n ≤ a → G15.1 a k = 0) ∧ ∀ j, 6 * ln ≤ j → G34.1 142 j = 0
def TXS (G3 G32 : Grp) (ln : Nat) (tl Ln : Nat → Nat) (L : Nat → Nat → Int) (X : Nat → Nat → Nat) : Prop := ∀ i, i < ln → G3.2.2 (tl i + 3) 0 = some (Ln i) ∧ (L i 6).toNat ≤ Ln i ∧ Ln i ≤ 160 ∧ ∀ j, j < (L i 6).toNat → G3.1 (tl i + 3) j = iI (X i j) ∧ G32.1 143 (160 * i + j) = iI (X i j) ∧ isSg (X i j : Int)
section PR
variable {F : Nat} {G1 G2 G3 G4 G5 G6 G7 G8 G9 G10 G11 G12 G13 G14 G15 G23 G24 G25 G26 G32 G33 G34 G35 G36 G41 : Grp} {gn cn d n pn ln tn : Nat} {tp tl Ln : Nat → Nat} {P L T : Nat → Nat → Int} {X : Nat → Nat → Nat}
theorem LM.at (h : LM G32 ln L) {i : Nat} (hi : i < ln) : G32.1 132 i = iI (L i 0) ∧ G32.1 133 i = iI (L i 1) ∧ G32.1 134 i = iI (L i 2) ∧ G32.1 139 i = iI (L i 6) ∧ G32.1 140 i = iI (L i 7) ∧ G32.1 135 i = iI (L i 8) ∧ G32.1 136 i = iI (L i 9) ∧ G32.1 137 i = iI (L i 10) ∧ G32.1 138 i = iI (L i 11) :=
  ⟨h.2.1 i hi 0 (Or.inl (by omega)), h.2.1 i hi 1 (Or.inl (by omega)), h.2.1 i hi 2 (Or.inl (by omega)), h.2.1 i hi 6 (Or.inr (by omega)), h.2.1 i hi 7 (Or.inr (by omega)), h.2.1 i hi 8 (Or.inr (by omega)), h.2.1 i hi 9 (Or.inr (by omega)), h.2.1 i hi 10 (Or.inr (by omega)), h.2.1 i hi 11 (Or.inr (by omega))⟩
theorem LC.at (h : LC G10 G13 n ln tp tl L) {i : Nat} (hi : i < ln) : G10.2.2 45 i = some (tl i) ∧ G13.2.2 (tl i) 0 = some (tp (L i 0).toNat) ∧ G13.1 (tl i) 1 = iI (L i 1) ∧ G13.1 (tl i) 2 = iI (L i 2) ∧ G13.1 (tl i) 6 = iI (L i 6) ∧ G13.1 (tl i) 7 = iI (L i 7) ∧ G13.1 (tl i) 8 = iI (L i 8) ∧ G13.1 (tl i) 9 = iI (L i 9) ∧ G13.1 (tl i) 10 = iI (L i 10) ∧ G13.1 (tl i) 11 = iI (L i 11) := by
  obtain ⟨a1, a2, a3, a4⟩ := h.2.1 i hi
  exact ⟨a1, a2, a3 1 (by omega) (Or.inl (by omega)), a3 2 (by omega) (Or.inl (by omega)), a3 6 (by omega) (Or.inr (by omega)), a3 7 (by omega) (Or.inr (by omega)), a3 8 (by omega) (Or.inr (by omega)), a3 9 (by omega) (Or.inr (by omega)), a3 10 (by omega) (Or.inr (by omega)), a3 11 (by omega) (Or.inr (by omega))⟩
theorem letterAt_c (h : LC G10 G13 n ln tp tl L) (hl : ln ≤ 200) {a : Int} (a1 : -2147483648 ≤ a) (a2 : a < 2147483648) : f_X6_letterAt F G10 (iI a) = some (if 0 ≤ a ∧ a ≤ (ln : Int) - 1 then some (tl a.toNat) else none) := by
  have h0 := h.1
  by_cases c : 0 ≤ a ∧ a ≤ (ln : Int) - 1
  · have w := (h.2.1 a.toNat (by omega)).1
    rw [if_pos c]
    simp (disch := omega) only [reduceIte, Nat.reduceEqDiff, Nat.reduceAdd, Nat.reduceSub, Nat.reduceMul, Nat.reduceLT, Int.reduceNeg, Int.reduceAdd, Int.reduceSub, Int.reduceMul, Int.reduceLT, Int.reduceLE, Int.reduceEq, Int.reduceToNat, reduceCtorEq, and_self, and_true, true_and, false_and, and_false, or_false, false_or, or_true, true_or, true_implies, false_implies, implies_true, not_true_eq_false, not_false_eq_true, Int.toNat_natCast, Int.cast_ofNat_Int, eq_self, ne_eq, ite_true, ite_false, if_true, if_false, Int.add_sub_cancel, Int.sub_add_cancel, Int.add_zero, Int.zero_add, cast_s, iI_in, iI_lit, iI_le, iI_lt, iI_eq, iI_cl, iI_add, iI_sub, iI_mul, iI_neg, iI_nI, ok_s, ok_ck, ok_bn, ok_ob, ck_iI, bn_eq, ob_s, om_n, om_s, cb_bI, gI_g, gI_2, gJ_1, gJ_g, gJ_2, gR_1, gR_2, gR_g, within_v, in_v, bI_i0, bI_i1, iI_bI0, iI_bI1, bI_T, bI_F, f_X6_letterAt, f_X6_letterAt_b24, h0, c, w]
  · rw [if_neg c]
    simp (disch := omega) only [reduceIte, Nat.reduceEqDiff, Nat.reduceAdd, Nat.reduceSub, Nat.reduceMul, Nat.reduceLT, Int.reduceNeg, Int.reduceAdd, Int.reduceSub, Int.reduceMul, Int.reduceLT, Int.reduceLE, Int.reduceEq, Int.reduceToNat, reduceCtorEq, and_self, and_true, true_and, false_and, and_false, or_false, false_or, or_true, true_or, true_implies, false_implies, implies_true, not_true_eq_false, not_false_eq_true, Int.toNat_natCast, Int.cast_ofNat_Int, eq_self, ne_eq, ite_true, ite_false, if_true, if_false, Int.add_sub_cancel, Int.sub_add_cancel, Int.add_zero, Int.zero_add, cast_s, iI_in, iI_lit, iI_le, iI_lt, iI_eq, iI_cl, iI_add, iI_sub, iI_mul, iI_neg, iI_nI, ok_s, ok_ck, ok_bn, ok_ob, ck_iI, bn_eq, ob_s, om_n, om_s, cb_bI, gI_g, gI_2, gJ_1, gJ_g, gJ_2, gR_1, gR_2, gR_g, within_v, in_v, bI_i0, bI_i1, iI_bI0, iI_bI1, bI_T, bI_F, f_X6_letterAt, f_X6_letterAt_b24, h0, c]
theorem there_m (h : LM G32 ln L) (hl : ln ≤ 200) {a : Int} (a1 : -2147483648 ≤ a) (a2 : a < 2147483648) : f_X12_isLetterThere F G32 (iI a) = some (bI (0 ≤ a ∧ a ≤ (ln : Int) - 1)) := by
  have h0 := h.1
  by_cases c : a < 0
  · have e : ¬ (0 ≤ a ∧ a ≤ (ln : Int) - 1) := by omega
    rw [bI_f e]
    simp (disch := omega) only [reduceIte, Nat.reduceEqDiff, Nat.reduceAdd, Nat.reduceSub, Nat.reduceMul, Nat.reduceLT, Int.reduceNeg, Int.reduceAdd, Int.reduceSub, Int.reduceMul, Int.reduceLT, Int.reduceLE, Int.reduceEq, Int.reduceToNat, reduceCtorEq, and_self, and_true, true_and, false_and, and_false, or_false, false_or, or_true, true_or, true_implies, false_implies, implies_true, not_true_eq_false, not_false_eq_true, Int.toNat_natCast, Int.cast_ofNat_Int, eq_self, ne_eq, ite_true, ite_false, if_true, if_false, Int.add_sub_cancel, Int.sub_add_cancel, Int.add_zero, Int.zero_add, cast_s, iI_in, iI_lit, iI_le, iI_lt, iI_eq, iI_cl, iI_add, iI_sub, iI_mul, iI_neg, iI_nI, ok_s, ok_ck, ok_bn, ok_ob, ck_iI, bn_eq, ob_s, om_n, om_s, cb_bI, gI_g, gI_2, gJ_1, gJ_g, gJ_2, gR_1, gR_2, gR_g, within_v, in_v, bI_i0, bI_i1, iI_bI0, iI_bI1, bI_T, bI_F, f_X12_isLetterThere, c]
  · by_cases c2 : (ln : Int) ≤ a
    · have e : ¬ (0 ≤ a ∧ a ≤ (ln : Int) - 1) := by omega
      rw [bI_f e]
      simp (disch := omega) only [reduceIte, Nat.reduceEqDiff, Nat.reduceAdd, Nat.reduceSub, Nat.reduceMul, Nat.reduceLT, Int.reduceNeg, Int.reduceAdd, Int.reduceSub, Int.reduceMul, Int.reduceLT, Int.reduceLE, Int.reduceEq, Int.reduceToNat, reduceCtorEq, and_self, and_true, true_and, false_and, and_false, or_false, false_or, or_true, true_or, true_implies, false_implies, implies_true, not_true_eq_false, not_false_eq_true, Int.toNat_natCast, Int.cast_ofNat_Int, eq_self, ne_eq, ite_true, ite_false, if_true, if_false, Int.add_sub_cancel, Int.sub_add_cancel, Int.add_zero, Int.zero_add, cast_s, iI_in, iI_lit, iI_le, iI_lt, iI_eq, iI_cl, iI_add, iI_sub, iI_mul, iI_neg, iI_nI, ok_s, ok_ck, ok_bn, ok_ob, ck_iI, bn_eq, ob_s, om_n, om_s, cb_bI, gI_g, gI_2, gJ_1, gJ_g, gJ_2, gR_1, gR_2, gR_g, within_v, in_v, bI_i0, bI_i1, iI_bI0, iI_bI1, bI_T, bI_F, f_X12_isLetterThere, c, h0, c2]
    · have e : 0 ≤ a ∧ a ≤ (ln : Int) - 1 := by omega
      rw [bI_t e]
      simp (disch := omega) only [reduceIte, Nat.reduceEqDiff, Nat.reduceAdd, Nat.reduceSub, Nat.reduceMul, Nat.reduceLT, Int.reduceNeg, Int.reduceAdd, Int.reduceSub, Int.reduceMul, Int.reduceLT, Int.reduceLE, Int.reduceEq, Int.reduceToNat, reduceCtorEq, and_self, and_true, true_and, false_and, and_false, or_false, false_or, or_true, true_or, true_implies, false_implies, implies_true, not_true_eq_false, not_false_eq_true, Int.toNat_natCast, Int.cast_ofNat_Int, eq_self, ne_eq, ite_true, ite_false, if_true, if_false, Int.add_sub_cancel, Int.sub_add_cancel, Int.add_zero, Int.zero_add, cast_s, iI_in, iI_lit, iI_le, iI_lt, iI_eq, iI_cl, iI_add, iI_sub, iI_mul, iI_neg, iI_nI, ok_s, ok_ck, ok_bn, ok_ob, ck_iI, bn_eq, ob_s, om_n, om_s, cb_bI, gI_g, gI_2, gJ_1, gJ_g, gJ_2, gR_1, gR_2, gR_g, within_v, in_v, bI_i0, bI_i1, iI_bI0, iI_bI1, bI_T, bI_F, f_X12_isLetterThere, c, h0, c2]
def tk9 (k : Nat) : Nat := ([8, 0, 1, 2, 9, 10, 11, 6, 7] : List Nat).getD k 0
theorem b48_k (hc : LC G10 G13 n ln tp tl L) (hb : LB pn d ln L) (hp : RPair G7 G9 G25 gn cn d n pn tp P) {i : Nat} (hi : i < ln) {k : Nat} (hk : k < 9) : f_X4_tell_b48 F G3 G9 G13 G15 (tl i) (iI k) = some (iI (L i (tk9 k))) := by
  obtain ⟨p1, p2, p3, p4, p5, p6⟩ := hb.2 i hi
  obtain ⟨q0, q0', q1, q2, q6, q7, q8, q9, q10, q11⟩ := hc.at hi
  have pr := (hp.2.2.2.1 (L i 0).toNat (by omega)).2.2.1 0 (by omega)
  have pb := (hp.2.2.2.2.1 (L i 0).toNat (by omega)).1
  have pe : P (L i 0).toNat 0 = L i 0 := by rw [pb]; omega
  rw [pe] at pr
  generalize hP : (L i 0).toNat = pi at *
  have c : k = 0 ∨ k = 1 ∨ k = 2 ∨ k = 3 ∨ k = 4 ∨ k = 5 ∨ k = 6 ∨ k = 7 ∨ k = 8 := by omega
  unfold f_X4_tell_b48
  rcases c with rfl | rfl | rfl | rfl | rfl | rfl | rfl | rfl | rfl
  · rw [if_p (by decide), q8]; rfl
  · rw [if_n (by decide), if_p (by decide), q0', om_s, pr]; rfl
  · rw [if_n (by decide), if_n (by decide), if_p (by decide), q1]; rfl
  · rw [if_n (by decide), if_n (by decide), if_n (by decide), if_p (by decide), q2]; rfl
  · rw [if_n (by decide), if_n (by decide), if_n (by decide), if_n (by decide), if_p (by decide), q9]; rfl
  · rw [if_n (by decide), if_n (by decide), if_n (by decide), if_n (by decide), if_n (by decide), if_p (by decide), q10]; rfl
  · rw [if_n (by decide), if_n (by decide), if_n (by decide), if_n (by decide), if_n (by decide), if_n (by decide), if_p (by decide), q11]; rfl
  · rw [if_n (by decide), if_n (by decide), if_n (by decide), if_n (by decide), if_n (by decide), if_n (by decide), if_n (by decide), if_p (by decide), q6]; rfl
  · rw [if_n (by decide), if_n (by decide), if_n (by decide), if_n (by decide), if_n (by decide), if_n (by decide), if_n (by decide), if_n (by decide), if_p (by decide), q7]; rfl
theorem ne_k {b : Int} (b1 : -2147483648 ≤ b) (b2 : b < 2147483648) (hb : b < 0 ∨ 9 ≤ b) (k : Nat) (hk : k < 9) : ¬ iI b = (iI k) := fun z => by
  have := (iI_eq b1 b2 (by omega) (by omega)).mp z
  omega
theorem b48_n {b : Int} (b1 : -2147483648 ≤ b) (b2 : b < 2147483648) (hb : b < 0 ∨ 9 ≤ b) (x : Nat) : f_X4_tell_b48 F G3 G9 G13 G15 x (iI b) = some (iI (-1)) := by
  have z := ne_k b1 b2 hb
  unfold f_X4_tell_b48
  rw [if_n (c := iI b = 0) (z 0 (by omega)), if_n (c := iI b = 1) (z 1 (by omega)), if_n (c := iI b = 2) (z 2 (by omega)), if_n (c := iI b = 3) (z 3 (by omega)), if_n (c := iI b = 4) (z 4 (by omega)), if_n (c := iI b = 5) (z 5 (by omega)), if_n (c := iI b = 6) (z 6 (by omega)), if_n (c := iI b = 7) (z 7 (by omega)), if_n (c := iI b = 8) (z 8 (by omega))]
  rfl
theorem about_k (hm : LM G32 ln L) (hb : LB pn d ln L) {i : Nat} (hi : i < ln) {k : Nat} (hk : k < 9) : f_X12_about F G32 G34 (iI i) (iI k) = some (iI (L i (tk9 k))) := by
  have hl := hb.1
  obtain ⟨m0, m1, m2, m6, m7, m8, m9, m10, m11⟩ := hm.at hi
  have tm := there_m (F := F) hm hb.1 (a := (i : Int)) (by omega) (by omega)
  rw [bI_t (by omega)] at tm
  have c : k = 0 ∨ k = 1 ∨ k = 2 ∨ k = 3 ∨ k = 4 ∨ k = 5 ∨ k = 6 ∨ k = 7 ∨ k = 8 := by omega
  have ic : (iI (i : Int)).toNatClampNeg = i := by rw [iI_cl (by omega) (by omega)]; rfl
  have ck2 : ∀ x : Option Int32, ck (iI (i : Int)) 200 x = x := fun x => ck_iI (by omega) (by omega) (by omega)
  unfold f_X12_about
  rw [tm, ob_s, if_n (by decide), ic]
  rcases c with rfl | rfl | rfl | rfl | rfl | rfl | rfl | rfl | rfl
  · rw [if_p (by decide), ck2, m8]; rfl
  · rw [if_n (by decide), if_p (by decide), ck2, m0]; rfl
  · rw [if_n (by decide), if_n (by decide), if_p (by decide), ck2, m1]; rfl
  · rw [if_n (by decide), if_n (by decide), if_n (by decide), if_p (by decide), ck2, m2]; rfl
  · rw [if_n (by decide), if_n (by decide), if_n (by decide), if_n (by decide), if_p (by decide), ck2, m9]; rfl
  · rw [if_n (by decide), if_n (by decide), if_n (by decide), if_n (by decide), if_n (by decide), if_p (by decide), ck2, m10]; rfl
  · rw [if_n (by decide), if_n (by decide), if_n (by decide), if_n (by decide), if_n (by decide), if_n (by decide), if_p (by decide), ck2, m11]; rfl
  · rw [if_n (by decide), if_n (by decide), if_n (by decide), if_n (by decide), if_n (by decide), if_n (by decide), if_n (by decide), if_p (by decide), ck2, m6]; rfl
  · rw [if_n (by decide), if_n (by decide), if_n (by decide), if_n (by decide), if_n (by decide), if_n (by decide), if_n (by decide), if_n (by decide), if_p (by decide), ck2, m7]; rfl
theorem about_n (hm : LM G32 ln L) (hb : LB pn d ln L) {i : Nat} (hi : i < ln) {b : Int} (b1 : -2147483648 ≤ b) (b2 : b < 2147483648) (h9 : b < 0 ∨ 9 ≤ b) : f_X12_about F G32 G34 (iI i) (iI b) = if 10 ≤ b ∧ b ≤ 15 then some (G34.1 142 (6 * i + (b - 10).toNat)) else if 20 ≤ b ∧ b ≤ 19 + L i 6 then some (G32.1 143 (160 * i + (b - 20).toNat)) else some (iI (-1)) := by
  have hl := hb.1
  obtain ⟨m0, m1, m2, m6, m7, m8, m9, m10, m11⟩ := hm.at hi
  obtain ⟨p1, p2, p3, p4, p5, p6⟩ := hb.2 i hi
  have tm := there_m (F := F) hm hb.1 (a := (i : Int)) (by omega) (by omega)
  rw [bI_t (by omega)] at tm
  have z := ne_k b1 b2 h9
  unfold f_X12_about
  rw [tm, ob_s, if_n (by decide), if_n (c := iI b = 0) (z 0 (by omega)), if_n (c := iI b = 1) (z 1 (by omega)), if_n (c := iI b = 2) (z 2 (by omega)), if_n (c := iI b = 3) (z 3 (by omega)), if_n (c := iI b = 4) (z 4 (by omega)), if_n (c := iI b = 5) (z 5 (by omega)), if_n (c := iI b = 6) (z 6 (by omega)), if_n (c := iI b = 7) (z 7 (by omega)), if_n (c := iI b = 8) (z 8 (by omega))]
  by_cases kl : 10 ≤ b ∧ b ≤ 15
  · have e1 : (6 * (i : Int) + b - 10).toNat = 6 * i + (b - 10).toNat := by omega
    rw [if_pos kl]
    simp (disch := omega) only [reduceIte, Nat.reduceEqDiff, Nat.reduceAdd, Nat.reduceSub, Nat.reduceMul, Nat.reduceLT, Int.reduceNeg, Int.reduceAdd, Int.reduceSub, Int.reduceMul, Int.reduceLT, Int.reduceLE, Int.reduceEq, Int.reduceToNat, reduceCtorEq, and_self, and_true, true_and, false_and, and_false, or_false, false_or, or_true, true_or, true_implies, false_implies, implies_true, not_true_eq_false, not_false_eq_true, Int.toNat_natCast, Int.cast_ofNat_Int, eq_self, ne_eq, ite_true, ite_false, if_true, if_false, Int.add_sub_cancel, Int.sub_add_cancel, Int.add_zero, Int.zero_add, cast_s, iI_in, iI_lit, iI_le, iI_lt, iI_eq, iI_cl, iI_add, iI_sub, iI_mul, iI_neg, iI_nI, ok_s, ok_ck, ok_bn, ok_ob, ck_iI, bn_eq, ob_s, om_n, om_s, cb_bI, gI_g, gI_2, gJ_1, gJ_g, gJ_2, gR_1, gR_2, gR_g, within_v, in_v, bI_i0, bI_i1, iI_bI0, iI_bI1, bI_T, bI_F, kl, e1]
  · rw [if_neg kl]
    by_cases kt : 20 ≤ b ∧ b ≤ 19 + L i 6
    · have e1 : (160 * (i : Int) + b - 20).toNat = 160 * i + (b - 20).toNat := by omega
      rw [if_pos kt]
      simp (disch := omega) only [reduceIte, Nat.reduceEqDiff, Nat.reduceAdd, Nat.reduceSub, Nat.reduceMul, Nat.reduceLT, Int.reduceNeg, Int.reduceAdd, Int.reduceSub, Int.reduceMul, Int.reduceLT, Int.reduceLE, Int.reduceEq, Int.reduceToNat, reduceCtorEq, and_self, and_true, true_and, false_and, and_false, or_false, false_or, or_true, true_or, true_implies, false_implies, implies_true, not_true_eq_false, not_false_eq_true, Int.toNat_natCast, Int.cast_ofNat_Int, eq_self, ne_eq, ite_true, ite_false, if_true, if_false, Int.add_sub_cancel, Int.sub_add_cancel, Int.add_zero, Int.zero_add, cast_s, iI_in, iI_lit, iI_le, iI_lt, iI_eq, iI_cl, iI_add, iI_sub, iI_mul, iI_neg, iI_nI, ok_s, ok_ck, ok_bn, ok_ob, ck_iI, bn_eq, ob_s, om_n, om_s, cb_bI, gI_g, gI_2, gJ_1, gJ_g, gJ_2, gR_1, gR_2, gR_g, within_v, in_v, bI_i0, bI_i1, iI_bI0, iI_bI1, bI_T, bI_F, kl, kt, m6, e1]
    · rw [if_neg kt]
      simp (disch := omega) only [reduceIte, Nat.reduceEqDiff, Nat.reduceAdd, Nat.reduceSub, Nat.reduceMul, Nat.reduceLT, Int.reduceNeg, Int.reduceAdd, Int.reduceSub, Int.reduceMul, Int.reduceLT, Int.reduceLE, Int.reduceEq, Int.reduceToNat, reduceCtorEq, and_self, and_true, true_and, false_and, and_false, or_false, false_or, or_true, true_or, true_implies, false_implies, implies_true, not_true_eq_false, not_false_eq_true, Int.toNat_natCast, Int.cast_ofNat_Int, eq_self, ne_eq, ite_true, ite_false, if_true, if_false, Int.add_sub_cancel, Int.sub_add_cancel, Int.add_zero, Int.zero_add, cast_s, iI_in, iI_lit, iI_le, iI_lt, iI_eq, iI_cl, iI_add, iI_sub, iI_mul, iI_neg, iI_nI, ok_s, ok_ck, ok_bn, ok_ob, ck_iI, bn_eq, ob_s, om_n, om_s, cb_bI, gI_g, gI_2, gJ_1, gJ_g, gJ_2, gR_1, gR_2, gR_g, within_v, in_v, bI_i0, bI_i1, iI_bI0, iI_bI1, bI_T, bI_F, kl, kt, m6]
theorem call_about (hc : LC G10 G13 n ln tp tl L) (hm : LM G32 ln L) (hb : LB pn d ln L) (hp : RPair G7 G9 G25 gn cn d n pn tp P) (hg : LGS G15 G34 n ln tl) (hx : TXS G3 G32 ln tl Ln L X) (a b : Int32) : ok (f_X11_about F G3 G9 G10 G13 G15 a b) (fun q => ok (f_X12_about F G32 G34 a b) fun w => q = w) := by
  obtain ⟨a, rfl, a1, a2⟩ := iI_ex a
  obtain ⟨b, rfl, b1, b2⟩ := iI_ex b
  have la := letterAt_c (F := F) hc hb.1 a1 a2
  have tm := there_m (F := F) hm hb.1 a1 a2
  have idt : ∀ x : Option Int32, ob x (fun q => some q) = x := fun x => by cases x <;> rfl
  unfold f_X11_about
  rw [la, ob_s]
  by_cases c : 0 ≤ a ∧ a ≤ (ln : Int) - 1
  · rw [if_pos c, om_s, idt]
    rw [bI_t c] at tm
    have hl := hb.1
    obtain ⟨i, rfl⟩ : ∃ i : Nat, a = (i : Int) := ⟨a.toNat, by omega⟩
    have hi : i < ln := by omega
    obtain ⟨p1, p2, p3, p4, p5, p6⟩ := hb.2 i hi
    obtain ⟨q0, q0', q1, q2, q6, q7, q8, q9, q10, q11⟩ := hc.at hi
    simp only [Int.toNat_natCast]
    unfold f_X4_tell
    by_cases k9 : 0 ≤ b ∧ b < 9
    · obtain ⟨k, rfl⟩ : ∃ k : Nat, b = (k : Int) := ⟨b.toNat, by omega⟩
      have bk := b48_k (F := F) (G3 := G3) (G15 := G15) hc hb hp hi (k := k) (by omega)
      have ak := about_k (F := F) (G34 := G34) hm hb hi (k := k) (by omega)
      have n1 : ¬ (10 ≤ (k : Int) ∧ (k : Int) ≤ 15) := by omega
      have n2 : (k : Int) < 20 := by omega
      simp (disch := omega) only [reduceIte, Nat.reduceEqDiff, Nat.reduceAdd, Nat.reduceSub, Nat.reduceMul, Nat.reduceLT, Int.reduceNeg, Int.reduceAdd, Int.reduceSub, Int.reduceMul, Int.reduceLT, Int.reduceLE, Int.reduceEq, Int.reduceToNat, reduceCtorEq, and_self, and_true, true_and, false_and, and_false, or_false, false_or, or_true, true_or, true_implies, false_implies, implies_true, not_true_eq_false, not_false_eq_true, Int.toNat_natCast, Int.cast_ofNat_Int, eq_self, ne_eq, ite_true, ite_false, if_true, if_false, Int.add_sub_cancel, Int.sub_add_cancel, Int.add_zero, Int.zero_add, cast_s, iI_in, iI_lit, iI_le, iI_lt, iI_eq, iI_cl, iI_add, iI_sub, iI_mul, iI_neg, iI_nI, ok_s, ok_ck, ok_bn, ok_ob, ck_iI, bn_eq, ob_s, om_n, om_s, cb_bI, gI_g, gI_2, gJ_1, gJ_g, gJ_2, gR_1, gR_2, gR_g, within_v, in_v, bI_i0, bI_i1, iI_bI0, iI_bI1, bI_T, bI_F, n1, n2, bk, ak]
    · have bn' := b48_n (F := F) (G3 := G3) (G9 := G9) (G13 := G13) (G15 := G15) b1 b2 (by omega) (tl i)
      have an := about_n (F := F) (G34 := G34) hm hb hi b1 b2 (by omega)
      rw [an]
      by_cases kl : 10 ≤ b ∧ b ≤ 15
      · have gl := hg.1 i hi (b - 10).toNat (by omega)
        rw [if_pos kl]
        simp (disch := omega) only [reduceIte, Nat.reduceEqDiff, Nat.reduceAdd, Nat.reduceSub, Nat.reduceMul, Nat.reduceLT, Int.reduceNeg, Int.reduceAdd, Int.reduceSub, Int.reduceMul, Int.reduceLT, Int.reduceLE, Int.reduceEq, Int.reduceToNat, reduceCtorEq, and_self, and_true, true_and, false_and, and_false, or_false, false_or, or_true, true_or, true_implies, false_implies, implies_true, not_true_eq_false, not_false_eq_true, Int.toNat_natCast, Int.cast_ofNat_Int, eq_self, ne_eq, ite_true, ite_false, if_true, if_false, Int.add_sub_cancel, Int.sub_add_cancel, Int.add_zero, Int.zero_add, cast_s, iI_in, iI_lit, iI_le, iI_lt, iI_eq, iI_cl, iI_add, iI_sub, iI_mul, iI_neg, iI_nI, ok_s, ok_ck, ok_bn, ok_ob, ck_iI, bn_eq, ob_s, om_n, om_s, cb_bI, gI_g, gI_2, gJ_1, gJ_g, gJ_2, gR_1, gR_2, gR_g, within_v, in_v, bI_i0, bI_i1, iI_bI0, iI_bI1, bI_T, bI_F, kl, gl]
      · rw [if_neg kl]
        by_cases kt : 20 ≤ b ∧ b ≤ 19 + L i 6
        · obtain ⟨x1, x2, x3, x4⟩ := hx i hi
          obtain ⟨y1, y2, y3⟩ := x4 (b - 20).toNat (by omega)
          have e2 : ¬ b < 20 := by omega
          have e3 : ¬ L i 6 ≤ b - 20 := by omega
          rw [if_pos kt]
          simp (disch := omega) only [reduceIte, Nat.reduceEqDiff, Nat.reduceAdd, Nat.reduceSub, Nat.reduceMul, Nat.reduceLT, Int.reduceNeg, Int.reduceAdd, Int.reduceSub, Int.reduceMul, Int.reduceLT, Int.reduceLE, Int.reduceEq, Int.reduceToNat, reduceCtorEq, and_self, and_true, true_and, false_and, and_false, or_false, false_or, or_true, true_or, true_implies, false_implies, implies_true, not_true_eq_false, not_false_eq_true, Int.toNat_natCast, Int.cast_ofNat_Int, eq_self, ne_eq, ite_true, ite_false, if_true, if_false, Int.add_sub_cancel, Int.sub_add_cancel, Int.add_zero, Int.zero_add, cast_s, iI_in, iI_lit, iI_le, iI_lt, iI_eq, iI_cl, iI_add, iI_sub, iI_mul, iI_neg, iI_nI, ok_s, ok_ck, ok_bn, ok_ob, ck_iI, bn_eq, ob_s, om_n, om_s, cb_bI, gI_g, gI_2, gJ_1, gJ_g, gJ_2, gR_1, gR_2, gR_g, within_v, in_v, bI_i0, bI_i1, iI_bI0, iI_bI1, bI_T, bI_F, kl, e2, e3, q6, x1, Option.getD_some, y1, y2]
        · rw [if_neg kt]
          by_cases e2 : b < 20
          · simp (disch := omega) only [reduceIte, Nat.reduceEqDiff, Nat.reduceAdd, Nat.reduceSub, Nat.reduceMul, Nat.reduceLT, Int.reduceNeg, Int.reduceAdd, Int.reduceSub, Int.reduceMul, Int.reduceLT, Int.reduceLE, Int.reduceEq, Int.reduceToNat, reduceCtorEq, and_self, and_true, true_and, false_and, and_false, or_false, false_or, or_true, true_or, true_implies, false_implies, implies_true, not_true_eq_false, not_false_eq_true, Int.toNat_natCast, Int.cast_ofNat_Int, eq_self, ne_eq, ite_true, ite_false, if_true, if_false, Int.add_sub_cancel, Int.sub_add_cancel, Int.add_zero, Int.zero_add, cast_s, iI_in, iI_lit, iI_le, iI_lt, iI_eq, iI_cl, iI_add, iI_sub, iI_mul, iI_neg, iI_nI, ok_s, ok_ck, ok_bn, ok_ob, ck_iI, bn_eq, ob_s, om_n, om_s, cb_bI, gI_g, gI_2, gJ_1, gJ_g, gJ_2, gR_1, gR_2, gR_g, within_v, in_v, bI_i0, bI_i1, iI_bI0, iI_bI1, bI_T, bI_F, kl, e2, bn']
          · have e3 : L i 6 ≤ b - 20 := by omega
            simp (disch := omega) only [reduceIte, Nat.reduceEqDiff, Nat.reduceAdd, Nat.reduceSub, Nat.reduceMul, Nat.reduceLT, Int.reduceNeg, Int.reduceAdd, Int.reduceSub, Int.reduceMul, Int.reduceLT, Int.reduceLE, Int.reduceEq, Int.reduceToNat, reduceCtorEq, and_self, and_true, true_and, false_and, and_false, or_false, false_or, or_true, true_or, true_implies, false_implies, implies_true, not_true_eq_false, not_false_eq_true, Int.toNat_natCast, Int.cast_ofNat_Int, eq_self, ne_eq, ite_true, ite_false, if_true, if_false, Int.add_sub_cancel, Int.sub_add_cancel, Int.add_zero, Int.zero_add, cast_s, iI_in, iI_lit, iI_le, iI_lt, iI_eq, iI_cl, iI_add, iI_sub, iI_mul, iI_neg, iI_nI, ok_s, ok_ck, ok_bn, ok_ob, ck_iI, bn_eq, ob_s, om_n, om_s, cb_bI, gI_g, gI_2, gJ_1, gJ_g, gJ_2, gR_1, gR_2, gR_g, within_v, in_v, bI_i0, bI_i1, iI_bI0, iI_bI1, bI_T, bI_F, kl, e2, e3, q6, bn']
  · rw [if_neg c, om_n]
    rw [bI_f c] at tm
    unfold f_X12_about
    rw [tm, ob_s, if_p (by decide)]
    exact rfl
end PR
