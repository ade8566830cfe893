/-! looks: the rows filled, the longest -/
/-- the greatest below n, or -1 -/
noncomputable def gst (P : Nat → Prop) : Nat → Int
  | 0 => -1
  | n + 1 => @ite _ (P n) (clD _) (n : Int) (gst P n)
theorem gst_spec (P : Nat → Prop) (n : Nat) : (gst P n = -1 ∧ ∀ j, j < n → ¬ P j) ∨ ∃ j : Nat, j < n ∧ gst P n = j ∧ P j ∧ ∀ j', j' < n → P j' → j' ≤ j := by
  induction n with
  | zero => exact Or.inl ⟨rfl, fun j hj => absurd hj (Nat.not_lt_zero j)⟩
  | succ n ih =>
    by_cases c : P n
    · refine Or.inr ⟨n, Nat.lt_succ_self n, ?_, c, fun j' h _ => by omega⟩
      show @ite _ (P n) (clD _) (n : Int) (gst P n) = n
      rw [@if_pos _ (clD _) c]
    · have e : gst P (n + 1) = gst P n := by
        show @ite _ (P n) (clD _) (n : Int) (gst P n) = _
        rw [@if_neg _ (clD _) c]
      have ne : ∀ j, P j → j ≠ n := fun j hj z => c (z ▸ hj)
      rcases ih with ⟨h1, h2⟩ | ⟨j, h1, h2, h3, h4⟩
      · exact Or.inl ⟨e.trans h1, fun j hj hp => h2 j (by have := ne j hp; omega) hp⟩
      · exact Or.inr ⟨j, by omega, e.trans h2, h3, fun j' hj hp => h4 j' (by have := ne j' hp; omega) hp⟩
theorem gst_eq {P : Nat → Prop} {n : Nat} {v : Int} (h : (v = -1 ∧ ∀ j, j < n → ¬ P j) ∨ ∃ j : Nat, j < n ∧ v = j ∧ P j ∧ ∀ j', j' < n → P j' → j' ≤ j) : gst P n = v := by
  rcases gst_spec P n with ⟨a1, a2⟩ | ⟨j, a1, a2, a3, a4⟩
  · rcases h with ⟨b1, b2⟩ | ⟨k, b1, b2, b3, b4⟩
    · rw [a1, b1]
    · exact absurd b3 (a2 k b1)
  · rcases h with ⟨b1, b2⟩ | ⟨k, b1, b2, b3, b4⟩
    · exact absurd a3 (b2 j a1)
    · have x1 := a4 k b1 b3
      have x2 := b4 j a1 a3
      rw [a2, b2, show j = k by omega]
theorem gst_congr {P Q : Nat → Prop} {n : Nat} (h : ∀ j, j < n → (P j ↔ Q j)) : gst P n = gst Q n := by
  refine gst_eq ?_
  rcases gst_spec Q n with ⟨a1, a2⟩ | ⟨j, a1, a2, a3, a4⟩
  · exact Or.inl ⟨a1, fun j hj z => a2 j hj ((h j hj).mp z)⟩
  · exact Or.inr ⟨j, a1, a2, (h j a1).mpr a3, fun j' hj z => a4 j' hj ((h j' hj).mp z)⟩
theorem gst_b (P : Nat → Prop) (n : Nat) : -1 ≤ gst P n ∧ gst P n < n := by
  rcases gst_spec P n with ⟨a1, a2⟩ | ⟨j, a1, a2, a3, a4⟩
  · omega
  · omega
section PR
variable {F n : Nat} {G G29 : Grp} {tx : Nat → Nat} {cnt : Nat}
theorem longest_v {q k i : Nat} (ht : TXM G n tx) (hq : q < 420) (hk : k < 12) (h116 : G29.1 116 k = iI q) (hi : i < n) (hF : 200000 ≤ F) {w : Int} (hw : w = gst (fun j => SE G q i j) (n + 1)) : f_X12_longest F G29 G (iI k) (iI i) = some (iI (if (i : Int) < w then w - i else 0)) := by
  obtain ⟨t1, t2, t3⟩ := id ht
  have pl := place_v (F := F) (k := q) (i := i) hq (by omega)
  have key : ∀ d j, j = i + d → j ≤ n → (∀ j', j < j' → j' ≤ n → ¬ SE G q i j') → ∀ fu, d < fu → f_X12_longest_l5 F fu G29 G (iI k) (iI i) (iI (j : Int)) = some (iI (if (i : Int) < w then w - i else 0)) := by
    intro d
    induction d with
    | zero =>
      intro j hj hn hno fu hfu
      obtain ⟨fu, rfl⟩ : ∃ f, fu = f + 1 := ⟨fu - 1, by omega⟩
      show f_X12_longest_l5b F (f_X12_longest_l5 F fu) G29 G _ _ _ = _
      have e : (j : Int) ≤ i := by omega
      have e2 : ¬ (i : Int) < w := by
        rcases gst_spec (fun j => SE G q i j) (n + 1) with ⟨a1, a2⟩ | ⟨x, a1, a2, a3, a4⟩
        · omega
        · intro z
          exact hno x (by omega) (by omega) a3
      rw [if_neg e2]
      simp (disch := omega) only [reduceIte, Nat.reduceEqDiff, Nat.reduceAdd, Nat.reduceSub, Nat.reduceMul, Nat.reduceLT, Int.reduceNeg, Int.reduceAdd, Int.reduceSub, Int.reduceMul, Int.reduceLT, Int.reduceLE, Int.reduceEq, Int.reduceToNat, reduceCtorEq, and_self, and_true, true_and, false_and, and_false, or_false, false_or, or_true, true_or, true_implies, false_implies, implies_true, not_true_eq_false, not_false_eq_true, Int.toNat_natCast, Int.cast_ofNat_Int, eq_self, ne_eq, ite_true, ite_false, if_true, if_false, Int.add_sub_cancel, Int.sub_add_cancel, Int.add_zero, Int.zero_add, cast_s, iI_in, iI_lit, iI_le, iI_lt, iI_eq, iI_cl, iI_add, iI_sub, iI_mul, iI_neg, iI_nI, ok_s, ok_ck, ok_bn, ok_ob, ck_iI, bn_eq, ob_s, om_n, om_s, cb_bI, gI_g, gI_2, gJ_1, gJ_g, gJ_2, gR_1, gR_2, gR_g, within_v, in_v, bI_i0, bI_i1, iI_bI0, iI_bI1, bI_T, bI_F, f_X12_longest_l5b, e]
    | succ d ih =>
      intro j hj hn hno fu hfu
      obtain ⟨fu, rfl⟩ : ∃ f, fu = f + 1 := ⟨fu - 1, by omega⟩
      show f_X12_longest_l5b F (f_X12_longest_l5 F fu) G29 G _ _ _ = _
      have e : ¬ (j : Int) ≤ i := by omega
      have ie := @isEnd_s F G q i j hq (by omega) (by omega) (clD _)
      by_cases c : SE G q i j
      · rw [@bI_t _ (clD _) c] at ie
        have e2 : w = (j : Int) := by
          rw [hw]
          exact gst_eq (Or.inr ⟨j, by omega, rfl, c, fun j' hj' hp => by
            by_cases c2 : j' ≤ j
            · exact c2
            · exact absurd hp (hno j' (by omega) (by omega))⟩)
        rw [if_pos (by omega), e2]
        simp (disch := omega) only [reduceIte, Nat.reduceEqDiff, Nat.reduceAdd, Nat.reduceSub, Nat.reduceMul, Nat.reduceLT, Int.reduceNeg, Int.reduceAdd, Int.reduceSub, Int.reduceMul, Int.reduceLT, Int.reduceLE, Int.reduceEq, Int.reduceToNat, reduceCtorEq, and_self, and_true, true_and, false_and, and_false, or_false, false_or, or_true, true_or, true_implies, false_implies, implies_true, not_true_eq_false, not_false_eq_true, Int.toNat_natCast, Int.cast_ofNat_Int, eq_self, ne_eq, ite_true, ite_false, if_true, if_false, Int.add_sub_cancel, Int.sub_add_cancel, Int.add_zero, Int.zero_add, cast_s, iI_in, iI_lit, iI_le, iI_lt, iI_eq, iI_cl, iI_add, iI_sub, iI_mul, iI_neg, iI_nI, ok_s, ok_ck, ok_bn, ok_ob, ck_iI, bn_eq, ob_s, om_n, om_s, cb_bI, gI_g, gI_2, gJ_1, gJ_g, gJ_2, gR_1, gR_2, gR_g, within_v, in_v, bI_i0, bI_i1, iI_bI0, iI_bI1, bI_T, bI_F, f_X12_longest_l5b, e, h116, pl, ie]
      · rw [@bI_f _ (clD _) c] at ie
        have r := ih (j - 1) (by omega) (by omega) (fun j' h1 h2 => by
          by_cases c2 : j' = j
          · rw [c2]; exact c
          · exact hno j' (by omega) h2) fu (by omega)
        rw [show ((j - 1 : Nat) : Int) = (j : Int) + -1 by omega] at r
        simp (disch := omega) only [reduceIte, Nat.reduceEqDiff, Nat.reduceAdd, Nat.reduceSub, Nat.reduceMul, Nat.reduceLT, Int.reduceNeg, Int.reduceAdd, Int.reduceSub, Int.reduceMul, Int.reduceLT, Int.reduceLE, Int.reduceEq, Int.reduceToNat, reduceCtorEq, and_self, and_true, true_and, false_and, and_false, or_false, false_or, or_true, true_or, true_implies, false_implies, implies_true, not_true_eq_false, not_false_eq_true, Int.toNat_natCast, Int.cast_ofNat_Int, eq_self, ne_eq, ite_true, ite_false, if_true, if_false, Int.add_sub_cancel, Int.sub_add_cancel, Int.add_zero, Int.zero_add, cast_s, iI_in, iI_lit, iI_le, iI_lt, iI_eq, iI_cl, iI_add, iI_sub, iI_mul, iI_neg, iI_nI, ok_s, ok_ck, ok_bn, ok_ob, ck_iI, bn_eq, ob_s, om_n, om_s, cb_bI, gI_g, gI_2, gJ_1, gJ_g, gJ_2, gR_1, gR_2, gR_g, within_v, in_v, bI_i0, bI_i1, iI_bI0, iI_bI1, bI_T, bI_F, f_X12_longest_l5b, e, h116, pl, ie]
        exact r
  have := key (n - i) n (by omega) (Nat.le_refl _) (fun j' h1 h2 => by omega) F (by omega)
  simp (disch := omega) only [reduceIte, Nat.reduceEqDiff, Nat.reduceAdd, Nat.reduceSub, Nat.reduceMul, Nat.reduceLT, Int.reduceNeg, Int.reduceAdd, Int.reduceSub, Int.reduceMul, Int.reduceLT, Int.reduceLE, Int.reduceEq, Int.reduceToNat, reduceCtorEq, and_self, and_true, true_and, false_and, and_false, or_false, false_or, or_true, true_or, true_implies, false_implies, implies_true, not_true_eq_false, not_false_eq_true, Int.toNat_natCast, Int.cast_ofNat_Int, eq_self, ne_eq, ite_true, ite_false, if_true, if_false, Int.add_sub_cancel, Int.sub_add_cancel, Int.add_zero, Int.zero_add, cast_s, iI_in, iI_lit, iI_le, iI_lt, iI_eq, iI_cl, iI_add, iI_sub, iI_mul, iI_neg, iI_nI, ok_s, ok_ck, ok_bn, ok_ob, ck_iI, bn_eq, ob_s, om_n, om_s, cb_bI, gI_g, gI_2, gJ_1, gJ_g, gJ_2, gR_1, gR_2, gR_g, within_v, in_v, bI_i0, bI_i1, iI_bI0, iI_bI1, bI_T, bI_F, f_X12_longest, t2]
  exact this
theorem eqn_out {P : Pr} {k i j : Nat} (hi : n < i) : eqn P n (tkA n tx) (bdA n tx) (Eo n G) k i j := by
  have no : ∀ a b, ¬ Eo n G a i b := fun a b z => by have := z.1; omega
  refine ⟨fun _ => ⟨fun z => absurd z (no _ _), fun z => by have := z.2.1; omega⟩, fun _ => ⟨fun z => absurd z (no _ _), fun z => by omega⟩, fun _ => ⟨fun z => absurd z (no _ _), fun ⟨m, z, _⟩ => absurd z (no _ _)⟩, fun _ => ⟨fun z => absurd z (no _ _), fun z => z.elim (fun z => absurd z (no _ _)) (fun z => absurd z (no _ _))⟩, fun _ => ⟨fun z => absurd z (no _ _), fun z => z.elim (fun z => by omega) (fun ⟨m, _, z, _⟩ => absurd z (no _ _))⟩, fun _ => ⟨fun z => absurd z (no _ _), fun z => z.elim (fun z => absurd z.2 (no _ _)) (fun ⟨m, _, z, _⟩ => absurd z (no _ _))⟩, fun _ => ⟨fun z => absurd z (no _ _), fun z => z.elim (fun z => absurd z (no _ _)) (fun z => by omega)⟩⟩
/-- rows below k are filled, and those of k from t on -/
def FIL (G0 G G29 : Grp) (n : Nat) (tx : Nat → Nat) (k t : Nat) : Prop := G.1 = G0.1 ∧ G.2.2 = G0.2.2 ∧ ∀ k' i' j, (k' < k ∨ (k' = k ∧ t ≤ i')) → eqn (prt9 G29) n (tkA n tx) (bdA n tx) (Eo n G) k' i' j
theorem fil_in {G0 : Grp} (hw : wfp (prt9 G29) cnt) (hc : cnt ≤ 400) (ht : TXM G0 n tx) (hF : 200000 ≤ F) (k2 : Grp → Grp → Int32 → Option Grp) {k : Nat} (hk : k < cnt) : ∀ t, t ≤ n + 1 → ∀ fu, t < fu → ∀ G, FIL G0 G G29 n tx k t → ∃ G', f_X12_looks_l15 F k2 fu G29 G (iI k) (iI ((t : Int) - 1)) = k2 G29 G' (iI ((k : Int) + 1)) ∧ FIL G0 G' G29 n tx (k + 1) (n + 1) := by
  intro t
  induction t with
  | zero =>
    intro _ fu hfu G h
    obtain ⟨fu, rfl⟩ : ∃ f, fu = f + 1 := ⟨fu - 1, by omega⟩
    refine ⟨G, ?_, h.1, h.2.1, fun k' i' j hh => ?_⟩
    · show f_X12_looks_l15b F k2 (f_X12_looks_l15 F k2 fu) G29 G _ _ = _
      have e : ((0 : Nat) : Int) - 1 < 0 := by decide
      simp (disch := omega) only [reduceIte, Nat.reduceEqDiff, Nat.reduceAdd, Nat.reduceSub, Nat.reduceMul, Nat.reduceLT, Int.reduceNeg, Int.reduceAdd, Int.reduceSub, Int.reduceMul, Int.reduceLT, Int.reduceLE, Int.reduceEq, Int.reduceToNat, reduceCtorEq, and_self, and_true, true_and, false_and, and_false, or_false, false_or, or_true, true_or, true_implies, false_implies, implies_true, not_true_eq_false, not_false_eq_true, Int.toNat_natCast, Int.cast_ofNat_Int, eq_self, ne_eq, ite_true, ite_false, if_true, if_false, Int.add_sub_cancel, Int.sub_add_cancel, Int.add_zero, Int.zero_add, cast_s, iI_in, iI_lit, iI_le, iI_lt, iI_eq, iI_cl, iI_add, iI_sub, iI_mul, iI_neg, iI_nI, ok_s, ok_ck, ok_bn, ok_ob, ck_iI, bn_eq, ob_s, om_n, om_s, cb_bI, gI_g, gI_2, gJ_1, gJ_g, gJ_2, gR_1, gR_2, gR_g, within_v, in_v, bI_i0, bI_i1, iI_bI0, iI_bI1, bI_T, bI_F, f_X12_looks_l15b, e]
    · rcases hh with z | ⟨_, z⟩
      · exact h.2.2 k' i' j (by omega)
      · exact eqn_out (by omega)
  | succ t ih =>
    intro ht1 fu hfu G h
    obtain ⟨fu, rfl⟩ : ∃ f, fu = f + 1 := ⟨fu - 1, by omega⟩
    obtain ⟨G1, a1, a2, a3⟩ := spans_v (F := F) (G := G) (G29 := G29) (n := n) (tx := tx) (cnt := cnt) (k := k) (i := t) hw hc hk (ht.to h.1) (by omega) hF (fun k' i' j hh => h.2.2 k' i' j (by omega))
    obtain ⟨G', r1, r2⟩ := ih (by omega) fu (by omega) G1 ⟨a2.1.trans h.1, a2.2.1.trans h.2.1, fun k' i' j hh => by
      by_cases c : k' = k ∧ i' = t
      · obtain ⟨rfl, rfl⟩ := c
        exact a3 j
      · exact eqn_to a2 ht.1 hw (by omega) (by omega) (h.2.2 k' i' j (by omega))⟩
    refine ⟨G', ?_, r2⟩
    show f_X12_looks_l15b F k2 (f_X12_looks_l15 F k2 fu) G29 G _ _ = _
    have t1 := ht.1
    have e : ¬ (t : Int) < 0 := by omega
    have e2 : (t : Int) + 1 - 1 = t := by omega
    have e3 : (t : Int) + -1 = (t : Int) - 1 := by omega
    have a1' : f_X12_spans F G29 G (iI (k : Int)) (iI (t : Int)) = some G1 := a1
    simp (disch := omega) only [reduceIte, Nat.reduceEqDiff, Nat.reduceAdd, Nat.reduceSub, Nat.reduceMul, Nat.reduceLT, Int.reduceNeg, Int.reduceAdd, Int.reduceSub, Int.reduceMul, Int.reduceLT, Int.reduceLE, Int.reduceEq, Int.reduceToNat, reduceCtorEq, and_self, and_true, true_and, false_and, and_false, or_false, false_or, or_true, true_or, true_implies, false_implies, implies_true, not_true_eq_false, not_false_eq_true, Int.toNat_natCast, Int.cast_ofNat_Int, eq_self, ne_eq, ite_true, ite_false, if_true, if_false, Int.add_sub_cancel, Int.sub_add_cancel, Int.add_zero, Int.zero_add, cast_s, iI_in, iI_lit, iI_le, iI_lt, iI_eq, iI_cl, iI_add, iI_sub, iI_mul, iI_neg, iI_nI, ok_s, ok_ck, ok_bn, ok_ob, ck_iI, bn_eq, ob_s, om_n, om_s, cb_bI, gI_g, gI_2, gJ_1, gJ_g, gJ_2, gR_1, gR_2, gR_g, within_v, in_v, bI_i0, bI_i1, iI_bI0, iI_bI1, bI_T, bI_F, f_X12_looks_l15b, e, e2, a1', e3]
    exact r1
theorem fill_v (hw : wfp (prt9 G29) cnt) (hc : cnt ≤ 400) (h37 : G29.1 91 37 = iI cnt) (ht : TXM G n tx) (hF : 200000 ≤ F) : ∃ G', f_X12_looks F G29 G = f_X12_looks_l46 F F G29 (gI G' 91 51 (iI 0)) (iI 0) (iI 0) ∧ G'.1 = G.1 ∧ G'.2.2 = G.2.2 ∧ eqs (prt9 G29) cnt n (tkA n tx) (bdA n tx) (Eo n G') := by
  have key : ∀ d k, k + d = cnt → ∀ fu, d < fu → ∀ G1, FIL G G1 G29 n tx k (n + 1) → ∃ G', f_X12_looks_l2 F fu G29 G1 (iI (k : Int)) = f_X12_looks_l46 F F G29 (gI G' 91 51 (iI 0)) (iI 0) (iI 0) ∧ FIL G G' G29 n tx cnt (n + 1) := by
    intro d
    induction d with
    | zero =>
      intro k hk fu hfu G1 h
      obtain ⟨fu, rfl⟩ : ∃ f, fu = f + 1 := ⟨fu - 1, by omega⟩
      have ek : k = cnt := by omega
      subst ek
      refine ⟨G1, ?_, h⟩
      show f_X12_looks_l2b F (f_X12_looks_l2 F fu) G29 G1 _ = _
      have e : (k : Int) ≤ k := Int.le_refl _
      simp (disch := omega) only [reduceIte, Nat.reduceEqDiff, Nat.reduceAdd, Nat.reduceSub, Nat.reduceMul, Nat.reduceLT, Int.reduceNeg, Int.reduceAdd, Int.reduceSub, Int.reduceMul, Int.reduceLT, Int.reduceLE, Int.reduceEq, Int.reduceToNat, reduceCtorEq, and_self, and_true, true_and, false_and, and_false, or_false, false_or, or_true, true_or, true_implies, false_implies, implies_true, not_true_eq_false, not_false_eq_true, Int.toNat_natCast, Int.cast_ofNat_Int, eq_self, ne_eq, ite_true, ite_false, if_true, if_false, Int.add_sub_cancel, Int.sub_add_cancel, Int.add_zero, Int.zero_add, cast_s, iI_in, iI_lit, iI_le, iI_lt, iI_eq, iI_cl, iI_add, iI_sub, iI_mul, iI_neg, iI_nI, ok_s, ok_ck, ok_bn, ok_ob, ck_iI, bn_eq, ob_s, om_n, om_s, cb_bI, gI_g, gI_2, gJ_1, gJ_g, gJ_2, gR_1, gR_2, gR_g, within_v, in_v, bI_i0, bI_i1, iI_bI0, iI_bI1, bI_T, bI_F, f_X12_looks_l2b, h37, e]
    | succ d ih =>
      intro k hk fu hfu G1 h
      obtain ⟨fu, rfl⟩ : ∃ f, fu = f + 1 := ⟨fu - 1, by omega⟩
      obtain ⟨G2, a1, a2⟩ := fil_in (F := F) hw hc ht hF (f_X12_looks_l2 F fu) (k := k) (by omega) (n + 1) (Nat.le_refl _) F (by have := ht.1; omega) G1 h
      obtain ⟨G', r1, r2⟩ := ih (k + 1) (by omega) fu (by omega) G2 a2
      refine ⟨G', ?_, r2⟩
      show f_X12_looks_l2b F (f_X12_looks_l2 F fu) G29 G1 _ = _
      have e : ¬ (cnt : Int) ≤ k := by omega
      have e2 : ((n + 1 : Nat) : Int) - 1 = (n : Int) := by omega
      rw [e2] at a1
      have t2 : G1.1 91 46 = iI n := by rw [h.1]; exact ht.2.1
      simp (disch := omega) only [reduceIte, Nat.reduceEqDiff, Nat.reduceAdd, Nat.reduceSub, Nat.reduceMul, Nat.reduceLT, Int.reduceNeg, Int.reduceAdd, Int.reduceSub, Int.reduceMul, Int.reduceLT, Int.reduceLE, Int.reduceEq, Int.reduceToNat, reduceCtorEq, and_self, and_true, true_and, false_and, and_false, or_false, false_or, or_true, true_or, true_implies, false_implies, implies_true, not_true_eq_false, not_false_eq_true, Int.toNat_natCast, Int.cast_ofNat_Int, eq_self, ne_eq, ite_true, ite_false, if_true, if_false, Int.add_sub_cancel, Int.sub_add_cancel, Int.add_zero, Int.zero_add, cast_s, iI_in, iI_lit, iI_le, iI_lt, iI_eq, iI_cl, iI_add, iI_sub, iI_mul, iI_neg, iI_nI, ok_s, ok_ck, ok_bn, ok_ob, ck_iI, bn_eq, ob_s, om_n, om_s, cb_bI, gI_g, gI_2, gJ_1, gJ_g, gJ_2, gR_1, gR_2, gR_g, within_v, in_v, bI_i0, bI_i1, iI_bI0, iI_bI1, bI_T, bI_F, f_X12_looks_l2b, h37, e, t2]
      exact a1.trans r1
  obtain ⟨G', r1, r2⟩ := key cnt 0 (by omega) F (by omega) G ⟨rfl, rfl, fun k' i' j hh => by
    rcases hh with z | ⟨_, z⟩
    · omega
    · exact eqn_out (by omega)⟩
  exact ⟨G', r1, r2.1, r2.2.1, fun k hk i j => r2.2.2 k i j (Or.inl hk)⟩
/-- the first rule that takes a sign -/
theorem first_v {r i : Nat} {rt : Nat → Nat} {W : Nat → Int} (ht : TXM G n tx) (hr : r ≤ 12) (h38 : G29.1 91 38 = iI r) (h116 : ∀ k, k < r → rt k < 420 ∧ G29.1 116 k = iI (rt k) ∧ W k = gst (fun j => SE G (rt k) i j) (n + 1)) (hi : i < n) (hF : 200000 ≤ F) (k46 : Grp → Grp → Int32 → Int32 → Option Grp) (l : Int32) : f_X12_looks_l59 F k46 F G29 G l (iI i) (iI 0) (iI 0) = match fst (fun k => (i : Int) < W k) r with
    | some k => f_X12_looks_b92 F k46 G29 G l (iI i) (iI k) (iI (W k - i))
    | none => f_X12_looks_b92 F k46 G29 G l (iI i) (iI r) (iI 0) := by
  have key : ∀ d k, k + d = r → (∀ k', k' < k → ¬ (i : Int) < W k') → ∀ fu, d + 1 < fu → f_X12_looks_l59 F k46 fu G29 G l (iI i) (iI k) (iI 0) = match fst (fun k => (i : Int) < W k) r with
    | some k => f_X12_looks_b92 F k46 G29 G l (iI i) (iI k) (iI (W k - i))
    | none => f_X12_looks_b92 F k46 G29 G l (iI i) (iI r) (iI 0) := by
    intro d
    induction d with
    | zero =>
      intro k hk hno fu hfu
      obtain ⟨fu, rfl⟩ : ∃ f, fu = f + 1 := ⟨fu - 1, by omega⟩
      have ek : k = r := by omega
      subst ek
      rw [fst_none.mpr hno]
      show f_X12_looks_l59b F k46 (f_X12_looks_l59 F k46 fu) G29 G _ _ _ _ = _
      have e : (k : Int) ≤ k := Int.le_refl _
      simp (disch := omega) only [reduceIte, Nat.reduceEqDiff, Nat.reduceAdd, Nat.reduceSub, Nat.reduceMul, Nat.reduceLT, Int.reduceNeg, Int.reduceAdd, Int.reduceSub, Int.reduceMul, Int.reduceLT, Int.reduceLE, Int.reduceEq, Int.reduceToNat, reduceCtorEq, and_self, and_true, true_and, false_and, and_false, or_false, false_or, or_true, true_or, true_implies, false_implies, implies_true, not_true_eq_false, not_false_eq_true, Int.toNat_natCast, Int.cast_ofNat_Int, eq_self, ne_eq, ite_true, ite_false, if_true, if_false, Int.add_sub_cancel, Int.sub_add_cancel, Int.add_zero, Int.zero_add, cast_s, iI_in, iI_lit, iI_le, iI_lt, iI_eq, iI_cl, iI_add, iI_sub, iI_mul, iI_neg, iI_nI, ok_s, ok_ck, ok_bn, ok_ob, ck_iI, bn_eq, ob_s, om_n, om_s, cb_bI, gI_g, gI_2, gJ_1, gJ_g, gJ_2, gR_1, gR_2, gR_g, within_v, in_v, bI_i0, bI_i1, iI_bI0, iI_bI1, bI_T, bI_F, f_X12_looks_l59b, h38, e]
    | succ d ih =>
      intro k hk hno fu hfu
      obtain ⟨fu, rfl⟩ : ∃ f, fu = f + 2 := ⟨fu - 2, by omega⟩
      obtain ⟨b1, b2, b3⟩ := h116 k (by omega)
      have lv := longest_v (F := F) (G29 := G29) ht b1 (by omega) b2 hi hF b3
      show f_X12_looks_l59b F k46 (f_X12_looks_l59 F k46 (fu + 1)) G29 G _ _ _ _ = _
      have e : ¬ (r : Int) ≤ k := by omega
      have wb := gst_b (fun j => SE G (rt k) i j) (n + 1)
      rw [← b3] at wb
      have t1 := ht.1
      by_cases c : (i : Int) < W k
      · rw [if_pos c] at lv
        rw [fst_some.mpr ⟨by omega, c, hno⟩]
        have e2 : ¬ W k - (i : Int) = 0 := by omega
        have st : f_X12_looks_l59 F k46 (fu + 1) G29 G l (iI (i : Int)) (iI (k : Int)) (iI (W k - i)) = f_X12_looks_b92 F k46 G29 G l (iI (i : Int)) (iI (k : Int)) (iI (W k - i)) := by
          show f_X12_looks_l59b F k46 (f_X12_looks_l59 F k46 fu) G29 G _ _ _ _ = _
          simp (disch := omega) only [reduceIte, Nat.reduceEqDiff, Nat.reduceAdd, Nat.reduceSub, Nat.reduceMul, Nat.reduceLT, Int.reduceNeg, Int.reduceAdd, Int.reduceSub, Int.reduceMul, Int.reduceLT, Int.reduceLE, Int.reduceEq, Int.reduceToNat, reduceCtorEq, and_self, and_true, true_and, false_and, and_false, or_false, false_or, or_true, true_or, true_implies, false_implies, implies_true, not_true_eq_false, not_false_eq_true, Int.toNat_natCast, Int.cast_ofNat_Int, eq_self, ne_eq, ite_true, ite_false, if_true, if_false, Int.add_sub_cancel, Int.sub_add_cancel, Int.add_zero, Int.zero_add, cast_s, iI_in, iI_lit, iI_le, iI_lt, iI_eq, iI_cl, iI_add, iI_sub, iI_mul, iI_neg, iI_nI, ok_s, ok_ck, ok_bn, ok_ob, ck_iI, bn_eq, ob_s, om_n, om_s, cb_bI, gI_g, gI_2, gJ_1, gJ_g, gJ_2, gR_1, gR_2, gR_g, within_v, in_v, bI_i0, bI_i1, iI_bI0, iI_bI1, bI_T, bI_F, f_X12_looks_l59b, h38, e, e2]
        simp (disch := omega) only [reduceIte, Nat.reduceEqDiff, Nat.reduceAdd, Nat.reduceSub, Nat.reduceMul, Nat.reduceLT, Int.reduceNeg, Int.reduceAdd, Int.reduceSub, Int.reduceMul, Int.reduceLT, Int.reduceLE, Int.reduceEq, Int.reduceToNat, reduceCtorEq, and_self, and_true, true_and, false_and, and_false, or_false, false_or, or_true, true_or, true_implies, false_implies, implies_true, not_true_eq_false, not_false_eq_true, Int.toNat_natCast, Int.cast_ofNat_Int, eq_self, ne_eq, ite_true, ite_false, if_true, if_false, Int.add_sub_cancel, Int.sub_add_cancel, Int.add_zero, Int.zero_add, cast_s, iI_in, iI_lit, iI_le, iI_lt, iI_eq, iI_cl, iI_add, iI_sub, iI_mul, iI_neg, iI_nI, ok_s, ok_ck, ok_bn, ok_ob, ck_iI, bn_eq, ob_s, om_n, om_s, cb_bI, gI_g, gI_2, gJ_1, gJ_g, gJ_2, gR_1, gR_2, gR_g, within_v, in_v, bI_i0, bI_i1, iI_bI0, iI_bI1, bI_T, bI_F, f_X12_looks_l59b, h38, e, lv, e2]
        exact st
      · rw [if_neg c] at lv
        have r1 := ih (k + 1) (by omega) (fun k' h1 => by
          by_cases c2 : k' = k
          · rw [c2]; exact c
          · exact hno k' (by omega)) (fu + 1) (by omega)
        simp (disch := omega) only [reduceIte, Nat.reduceEqDiff, Nat.reduceAdd, Nat.reduceSub, Nat.reduceMul, Nat.reduceLT, Int.reduceNeg, Int.reduceAdd, Int.reduceSub, Int.reduceMul, Int.reduceLT, Int.reduceLE, Int.reduceEq, Int.reduceToNat, reduceCtorEq, and_self, and_true, true_and, false_and, and_false, or_false, false_or, or_true, true_or, true_implies, false_implies, implies_true, not_true_eq_false, not_false_eq_true, Int.toNat_natCast, Int.cast_ofNat_Int, eq_self, ne_eq, ite_true, ite_false, if_true, if_false, Int.add_sub_cancel, Int.sub_add_cancel, Int.add_zero, Int.zero_add, cast_s, iI_in, iI_lit, iI_le, iI_lt, iI_eq, iI_cl, iI_add, iI_sub, iI_mul, iI_neg, iI_nI, ok_s, ok_ck, ok_bn, ok_ob, ck_iI, bn_eq, ob_s, om_n, om_s, cb_bI, gI_g, gI_2, gJ_1, gJ_g, gJ_2, gR_1, gR_2, gR_g, within_v, in_v, bI_i0, bI_i1, iI_bI0, iI_bI1, bI_T, bI_F, f_X12_looks_l59b, h38, e, lv]
        exact r1
  exact key r 0 (by omega) (fun k' h => absurd h (Nat.not_lt_zero k')) F (by omega)
end PR
