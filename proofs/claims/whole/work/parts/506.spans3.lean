section PR
variable {F n : Nat} {G G29 : Grp} {tx : Nat → Nat} {cnt : Nat}
theorem bd_m (ht : TXM G n tx) {i : Nat} (hi : i ≤ n) : ∃ x y : Int32, f_X12_isWord F G (iI ((i : Int) - 1)) = some x ∧ f_X12_isWord F G (iI (i : Int)) = some y ∧ (x = y ↔ ¬ bdA n tx i) := by
  have t1 := ht.1
  have a := isWord_m (F := F) ht (i := (i : Int) - 1) (by omega) (by omega)
  have b := isWord_m (F := F) ht (i := (i : Int)) (by omega) (by omega)
  refine ⟨_, _, a, b, ?_⟩
  have e1 : (0 ≤ (i : Int) - 1 ∧ wdA n tx ((i : Int) - 1).toNat) ↔ (0 < i ∧ wdA n tx (i - 1)) := by
    by_cases c : 0 < i
    · rw [show ((i : Int) - 1).toNat = i - 1 by omega]
      exact ⟨fun z => ⟨c, z.2⟩, fun z => ⟨by omega, z.2⟩⟩
    · exact ⟨fun z => by omega, fun z => absurd z.1 c⟩
  have e2 : (0 ≤ (i : Int) ∧ wdA n tx (i : Int).toNat) ↔ wdA n tx i := by
    rw [show ((i : Int)).toNat = i by omega]
    exact ⟨fun z => z.2, fun z => ⟨by omega, z⟩⟩
  have nb : (¬ bdA n tx i) ↔ ((0 ≤ (i : Int) - 1 ∧ wdA n tx ((i : Int) - 1).toNat) ↔ (0 ≤ (i : Int) ∧ wdA n tx (i : Int).toNat)) := by
    unfold bdA
    rw [e1, e2]
    exact ⟨fun z => Classical.not_not.mp z, fun z y => y z⟩
  rw [nb]
  constructor
  · intro z
    constructor
    · intro y
      rw [@bI_t _ (clD _) y] at z
      exact (@bI_1 _ (clD _)).mp z.symm
    · intro y
      rw [@bI_t _ (clD _) y] at z
      exact (@bI_1 _ (clD _)).mp z
  · intro z
    exact @bI_congr _ _ (clD _) (clD _) z
theorem spans_v {k i : Nat} (hw : wfp (prt9 G29) cnt) (hc : cnt ≤ 400) (hk : k < cnt) (ht : TXM G n tx) (hi : i ≤ n) (hF : 200000 ≤ F) (Hf : ∀ k' i' j, (k' < k ∨ (k' = k ∧ i < i')) → eqn (prt9 G29) n (tkA n tx) (bdA n tx) (Eo n G) k' i' j) : ∃ G', f_X12_spans F G29 G (iI k) (iI i) = some G' ∧ SK G G' k i ∧ ∀ j, eqn (prt9 G29) n (tkA n tx) (bdA n tx) (Eo n G') k i j := by
  obtain ⟨t1, t2, t3⟩ := id ht
  obtain ⟨w0, w1, w2⟩ := hw k hk
  have hKb := ar_b G29 107 k
  have hK : G29.1 107 k = iI (ar G29 107 k) := iI_of rfl
  have hW : G29.1 108 k = iI (ar G29 108 k) := iI_of rfl
  have k1 : (prt9 G29).1 k = ar G29 107 k := rfl
  have k2 : (prt9 G29).2.1 k = ar G29 108 k := rfl
  have k3 : (prt9 G29).2.2.1 k = ar G29 109 k := rfl
  have k4 : (prt9 G29).2.2.2 k = ar G29 110 k := rfl
  rw [k1] at w0 w1 w2
  rw [k3] at w1
  rw [k4] at w2
  generalize hA : pA (prt9 G29) k = A at *
  generalize hB : pB (prt9 G29) k = B at *
  have h109 : 2 ≤ ar G29 107 k → G29.1 109 k = iI (A : Int) := fun z => by
    have := w1 z
    have e : ar G29 109 k = (A : Int) := by rw [← hA]; show _ = ((ar G29 109 k).toNat : Int); omega
    exact iI_of e
  have h110 : (ar G29 107 k = 2 ∨ ar G29 107 k = 3) → G29.1 110 k = iI (B : Int) := fun z => by
    have := w2 z
    have e : ar G29 110 k = (B : Int) := by rw [← hB]; show _ = ((ar G29 110 k).toNat : Int); omega
    exact iI_of e
  have pl : ∀ a b : Nat, a < k → b ≤ n → f_X12_place F (iI a) (iI b) = some (iI ((rw' a b : Nat) : Int)) := fun a b ha hb => place_v (by omega) (by omega)
  have pk := place_v (F := F) (k := k) (i := i) (by omega) (by omega)
  have hwk : wfp (prt9 G29) k := fun x hx => hw x (by omega)
  have eqk : eqs (prt9 G29) k n (tkA n tx) (bdA n tx) (Eo n G) := fun x hx a b => Hf x a b (Or.inl hx)
  have hle := eqs_le hwk (tkok_A n tx) eqk
  have EoS : ∀ G1 a b j, b ≤ n → (Eo n G1 a b j ↔ SE G1 a b j) := fun G1 a b j hb => ⟨fun z => z.2, fun z => ⟨hb, z⟩⟩
  have rws : rw' k i < 202860 := by unfold rw'; omega
  obtain ⟨G1, r1, r2, r3⟩ := clear_v (F := F) (G := G) (G29 := G29) (k := k) (i := i) (by omega) (by omega) hF (fun G1 => f_X12_spans_l9b F (fun _ _ _ _ _ _ => none) G29 G1 (iI k) (iI i) (iI ((rw' k i : Nat) : Int)) (iI 3)) (fun fu G1 => by
    have e : (iI 3 : Int32) ≤ iI 3 := by decide
    unfold f_X12_spans_l9b
    rw [if_pos (show (3 : Int32) ≤ iI 3 from e), if_pos (show (3 : Int32) ≤ iI 3 from e)])
  have T1 : TXM G1 n tx := ht.to r2.1
  obtain ⟨_, u2, u3⟩ := id T1
  have S1 : ∀ a b j, b < 161 → ¬ (a = k ∧ b = i) → (SE G1 a b j ↔ SE G a b j) := fun a b j hb hne => r2.2.2 a b j hb hne
  have fin : (∃ G', f_X12_spans_l9b F (fun _ _ _ _ _ _ => none) G29 G1 (iI k) (iI i) (iI ((rw' k i : Nat) : Int)) (iI 3) = some G' ∧ SK G1 G' k i ∧ ∀ j, eqn (prt9 G29) n (tkA n tx) (bdA n tx) (Eo n G') k i j) → ∃ G', f_X12_spans F G29 G (iI k) (iI i) = some G' ∧ SK G G' k i ∧ ∀ j, eqn (prt9 G29) n (tkA n tx) (bdA n tx) (Eo n G') k i j := fun ⟨G', q1, q2, q3⟩ => ⟨G', r1.trans q1, r2.tr q2, q3⟩
  refine fin ?_
  have c : ar G29 107 k = 0 ∨ ar G29 107 k = 1 ∨ ar G29 107 k = 2 ∨ ar G29 107 k = 3 ∨ ar G29 107 k = 4 ∨ ar G29 107 k = 5 ∨ ar G29 107 k = 6 := by omega
  rcases c with c | c | c | c | c | c | c
  · -- a sign
    rw [c] at hK
    by_cases z : i < n
    · have z1 : ¬ (n : Int) ≤ i := by omega
      have tv := takes_m (F := F) (ar_b G29 108 k).1 (ar_b G29 108 k).2 (u3 i z).2
      rw [← hW] at tv
      have u3i := (u3 i z).1
      by_cases y : tks (ar G29 108 k) (tx i)
      · rw [@bI_t _ (clD _) y] at tv
        obtain ⟨G', b1, b2, b3, b4⟩ := puts_s (F := F) (G := G1) (k := k) (i := i) (j := i + 1) (by omega) (by omega) (by omega)
        simp (disch := omega) only [reduceIte, Nat.reduceEqDiff, Nat.reduceAdd, Nat.reduceSub, Nat.reduceMul, Nat.reduceLT, Int.reduceNeg, Int.reduceAdd, Int.reduceSub, Int.reduceMul, Int.reduceLT, Int.reduceLE, Int.reduceEq, Int.reduceToNat, reduceCtorEq, and_self, and_true, true_and, false_and, and_false, or_false, false_or, or_true, true_or, true_implies, false_implies, implies_true, not_true_eq_false, not_false_eq_true, Int.toNat_natCast, Int.cast_ofNat_Int, eq_self, ne_eq, ite_true, ite_false, if_true, if_false, Int.add_sub_cancel, Int.sub_add_cancel, Int.add_zero, Int.zero_add, cast_s] at b1
        refine ⟨G', ?_, ⟨b2, b3, fun k' i' j' hi' hne => by rw [b4 k' i' j' hi']; exact ⟨fun q => q.resolve_right (fun q => hne ⟨q.1, q.2.1⟩), Or.inl⟩⟩, fun j => eqn_of (k1.trans c) (fun _ => ?_) (fun q => by cases q) (fun q => by cases q) (fun q => by cases q) (fun q => by cases q) (fun q => by cases q) (fun q => by cases q)⟩
        · skip
          simp (disch := omega) only [reduceIte, Nat.reduceEqDiff, Nat.reduceAdd, Nat.reduceSub, Nat.reduceMul, Nat.reduceLT, Int.reduceNeg, Int.reduceAdd, Int.reduceSub, Int.reduceMul, Int.reduceLT, Int.reduceLE, Int.reduceEq, Int.reduceToNat, reduceCtorEq, and_self, and_true, true_and, false_and, and_false, or_false, false_or, or_true, true_or, true_implies, false_implies, implies_true, not_true_eq_false, not_false_eq_true, Int.toNat_natCast, Int.cast_ofNat_Int, eq_self, ne_eq, ite_true, ite_false, if_true, if_false, Int.add_sub_cancel, Int.sub_add_cancel, Int.add_zero, Int.zero_add, cast_s, iI_in, iI_lit, iI_le, iI_lt, iI_eq, iI_cl, iI_add, iI_sub, iI_mul, iI_neg, iI_nI, ok_s, ok_ck, ok_bn, ok_ob, ck_iI, bn_eq, ob_s, om_n, om_s, cb_bI, gI_g, gI_2, gJ_1, gJ_g, gJ_2, gR_1, gR_2, gR_g, within_v, in_v, bI_i0, bI_i1, iI_bI0, iI_bI1, bI_T, bI_F, f_X12_spans_l9b, hK, u2, z1, u3i, tv, b1]
        · rw [EoS _ _ _ _ hi, b4 k i j (by omega), k2]
          exact ⟨fun q => q.elim (fun q => absurd q (r3 j)) (fun q => ⟨q.2.2, z, y⟩), fun q => Or.inr ⟨rfl, rfl, q.1⟩⟩
      · rw [@bI_f _ (clD _) y] at tv
        refine ⟨G1, ?_, SK.rf _ _ _, fun j => eqn_of (k1.trans c) (fun _ => ?_) (fun q => by cases q) (fun q => by cases q) (fun q => by cases q) (fun q => by cases q) (fun q => by cases q) (fun q => by cases q)⟩
        · skip
          simp (disch := omega) only [reduceIte, Nat.reduceEqDiff, Nat.reduceAdd, Nat.reduceSub, Nat.reduceMul, Nat.reduceLT, Int.reduceNeg, Int.reduceAdd, Int.reduceSub, Int.reduceMul, Int.reduceLT, Int.reduceLE, Int.reduceEq, Int.reduceToNat, reduceCtorEq, and_self, and_true, true_and, false_and, and_false, or_false, false_or, or_true, true_or, true_implies, false_implies, implies_true, not_true_eq_false, not_false_eq_true, Int.toNat_natCast, Int.cast_ofNat_Int, eq_self, ne_eq, ite_true, ite_false, if_true, if_false, Int.add_sub_cancel, Int.sub_add_cancel, Int.add_zero, Int.zero_add, cast_s, iI_in, iI_lit, iI_le, iI_lt, iI_eq, iI_cl, iI_add, iI_sub, iI_mul, iI_neg, iI_nI, ok_s, ok_ck, ok_bn, ok_ob, ck_iI, bn_eq, ob_s, om_n, om_s, cb_bI, gI_g, gI_2, gJ_1, gJ_g, gJ_2, gR_1, gR_2, gR_g, within_v, in_v, bI_i0, bI_i1, iI_bI0, iI_bI1, bI_T, bI_F, f_X12_spans_l9b, hK, u2, z1, u3i, tv]
        · rw [EoS _ _ _ _ hi, k2]
          exact ⟨fun q => absurd q (r3 j), fun q => absurd q.2.2 y⟩
    · have z1 : (n : Int) ≤ i := by omega
      refine ⟨G1, ?_, SK.rf _ _ _, fun j => eqn_of (k1.trans c) (fun _ => ?_) (fun q => by cases q) (fun q => by cases q) (fun q => by cases q) (fun q => by cases q) (fun q => by cases q) (fun q => by cases q)⟩
      · skip
        simp (disch := omega) only [reduceIte, Nat.reduceEqDiff, Nat.reduceAdd, Nat.reduceSub, Nat.reduceMul, Nat.reduceLT, Int.reduceNeg, Int.reduceAdd, Int.reduceSub, Int.reduceMul, Int.reduceLT, Int.reduceLE, Int.reduceEq, Int.reduceToNat, reduceCtorEq, and_self, and_true, true_and, false_and, and_false, or_false, false_or, or_true, true_or, true_implies, false_implies, implies_true, not_true_eq_false, not_false_eq_true, Int.toNat_natCast, Int.cast_ofNat_Int, eq_self, ne_eq, ite_true, ite_false, if_true, if_false, Int.add_sub_cancel, Int.sub_add_cancel, Int.add_zero, Int.zero_add, cast_s, iI_in, iI_lit, iI_le, iI_lt, iI_eq, iI_cl, iI_add, iI_sub, iI_mul, iI_neg, iI_nI, ok_s, ok_ck, ok_bn, ok_ob, ck_iI, bn_eq, ob_s, om_n, om_s, cb_bI, gI_g, gI_2, gJ_1, gJ_g, gJ_2, gR_1, gR_2, gR_g, within_v, in_v, bI_i0, bI_i1, iI_bI0, iI_bI1, bI_T, bI_F, f_X12_spans_l9b, hK, u2, z1]
      · rw [EoS _ _ _ _ hi]
        exact ⟨fun q => absurd q (r3 j), fun q => absurd q.2.1 z⟩
  · -- a border
    rw [c] at hK
    obtain ⟨x, y, w3, w4, w5⟩ := bd_m (F := F) T1 hi
    by_cases q : bdA n tx i
    · have ne : ¬ x = y := fun z => w5.mp z q
      obtain ⟨G', b1, b2, b3, b4⟩ := puts_s (F := F) (G := G1) (k := k) (i := i) (j := i) (by omega) (by omega) (by omega)
      refine ⟨G', ?_, ⟨b2, b3, fun k' i' j' hi' hne => by rw [b4 k' i' j' hi']; exact ⟨fun q => q.resolve_right (fun q => hne ⟨q.1, q.2.1⟩), Or.inl⟩⟩, fun j => eqn_of (k1.trans c) (fun q => by cases q) (fun _ => ?_) (fun q => by cases q) (fun q => by cases q) (fun q => by cases q) (fun q => by cases q) (fun q => by cases q)⟩
      · skip
        simp (disch := omega) only [reduceIte, Nat.reduceEqDiff, Nat.reduceAdd, Nat.reduceSub, Nat.reduceMul, Nat.reduceLT, Int.reduceNeg, Int.reduceAdd, Int.reduceSub, Int.reduceMul, Int.reduceLT, Int.reduceLE, Int.reduceEq, Int.reduceToNat, reduceCtorEq, and_self, and_true, true_and, false_and, and_false, or_false, false_or, or_true, true_or, true_implies, false_implies, implies_true, not_true_eq_false, not_false_eq_true, Int.toNat_natCast, Int.cast_ofNat_Int, eq_self, ne_eq, ite_true, ite_false, if_true, if_false, Int.add_sub_cancel, Int.sub_add_cancel, Int.add_zero, Int.zero_add, cast_s, iI_in, iI_lit, iI_le, iI_lt, iI_eq, iI_cl, iI_add, iI_sub, iI_mul, iI_neg, iI_nI, ok_s, ok_ck, ok_bn, ok_ob, ck_iI, bn_eq, ob_s, om_n, om_s, cb_bI, gI_g, gI_2, gJ_1, gJ_g, gJ_2, gR_1, gR_2, gR_g, within_v, in_v, bI_i0, bI_i1, iI_bI0, iI_bI1, bI_T, bI_F, f_X12_spans_l9b, hK, w3, w4, ne, b1]
      · rw [EoS _ _ _ _ hi, b4 k i j (by omega)]
        exact ⟨fun y => y.elim (fun y => absurd y (r3 j)) (fun y => ⟨hi, y.2.2, q⟩), fun y => Or.inr ⟨rfl, rfl, y.2.1⟩⟩
    · have eq := w5.mpr q
      refine ⟨G1, ?_, SK.rf _ _ _, fun j => eqn_of (k1.trans c) (fun q => by cases q) (fun _ => ?_) (fun q => by cases q) (fun q => by cases q) (fun q => by cases q) (fun q => by cases q) (fun q => by cases q)⟩
      · skip
        simp (disch := omega) only [reduceIte, Nat.reduceEqDiff, Nat.reduceAdd, Nat.reduceSub, Nat.reduceMul, Nat.reduceLT, Int.reduceNeg, Int.reduceAdd, Int.reduceSub, Int.reduceMul, Int.reduceLT, Int.reduceLE, Int.reduceEq, Int.reduceToNat, reduceCtorEq, and_self, and_true, true_and, false_and, and_false, or_false, false_or, or_true, true_or, true_implies, false_implies, implies_true, not_true_eq_false, not_false_eq_true, Int.toNat_natCast, Int.cast_ofNat_Int, eq_self, ne_eq, ite_true, ite_false, if_true, if_false, Int.add_sub_cancel, Int.sub_add_cancel, Int.add_zero, Int.zero_add, cast_s, iI_in, iI_lit, iI_le, iI_lt, iI_eq, iI_cl, iI_add, iI_sub, iI_mul, iI_neg, iI_nI, ok_s, ok_ck, ok_bn, ok_ob, ck_iI, bn_eq, ob_s, om_n, om_s, cb_bI, gI_g, gI_2, gJ_1, gJ_g, gJ_2, gR_1, gR_2, gR_g, within_v, in_v, bI_i0, bI_i1, iI_bI0, iI_bI1, bI_T, bI_F, f_X12_spans_l9b, hK, w3, w4, eq]
      · rw [EoS _ _ _ _ hi]
        exact ⟨fun y => absurd y (r3 j), fun y => absurd y.2.2 q⟩
  · -- one behind another
    rw [c] at hK
    have a1 := (w1 (by omega)).2
    have a2 := (w2 (Or.inl c)).2
    obtain ⟨G', b1, b2, b3⟩ := then_loop (F := F) (G29 := G29) (k := k) (i := i) (by omega) hi T1 a1 a2 (h109 (by omega)) (h110 (Or.inl c)) r3 hF
    refine ⟨G', ?_, b2, fun j => eqn_of (k1.trans c) (fun q => by cases q) (fun q => by cases q) (fun _ => ?_) (fun q => by cases q) (fun q => by cases q) (fun q => by cases q) (fun q => by cases q)⟩
    · skip
      simp (disch := omega) only [reduceIte, Nat.reduceEqDiff, Nat.reduceAdd, Nat.reduceSub, Nat.reduceMul, Nat.reduceLT, Int.reduceNeg, Int.reduceAdd, Int.reduceSub, Int.reduceMul, Int.reduceLT, Int.reduceLE, Int.reduceEq, Int.reduceToNat, reduceCtorEq, and_self, and_true, true_and, false_and, and_false, or_false, false_or, or_true, true_or, true_implies, false_implies, implies_true, not_true_eq_false, not_false_eq_true, Int.toNat_natCast, Int.cast_ofNat_Int, eq_self, ne_eq, ite_true, ite_false, if_true, if_false, Int.add_sub_cancel, Int.sub_add_cancel, Int.add_zero, Int.zero_add, cast_s, iI_in, iI_lit, iI_le, iI_lt, iI_eq, iI_cl, iI_add, iI_sub, iI_mul, iI_neg, iI_nI, ok_s, ok_ck, ok_bn, ok_ob, ck_iI, bn_eq, ob_s, om_n, om_s, cb_bI, gI_g, gI_2, gJ_1, gJ_g, gJ_2, gR_1, gR_2, gR_g, within_v, in_v, bI_i0, bI_i1, iI_bI0, iI_bI1, bI_T, bI_F, f_X12_spans_l9b, hK, b1]
    · rw [EoS _ _ _ _ hi, b3 j, hA, hB]
      have p1 := fun m => (b2.2.2 A i m (by omega) (by omega)).trans (S1 A i m (by omega) (by omega))
      have p2 := fun m (hm : m ≤ n) => (b2.2.2 B m j (by omega) (by omega)).trans (S1 B m j (by omega) (by omega))
      constructor
      · rintro ⟨m, m1, m2, m3, m4⟩
        exact ⟨m, ⟨hi, (b2.2.2 A i m (by omega) (by omega)).mpr m3⟩, m2, (b2.2.2 B m j (by omega) (by omega)).mpr m4⟩
      · rintro ⟨m, m1, m2, m3⟩
        have le := hle A a1 i m ⟨hi, (p1 m).mp m1.2⟩
        exact ⟨m, le.2.1, m2, (b2.2.2 A i m (by omega) (by omega)).mp m1.2, (b2.2.2 B m j (by omega) (by omega)).mp m3⟩
  · -- or
    rw [c] at hK
    have a1 := (w1 (by omega)).2
    have a2 := (w2 (Or.inr c)).2
    have pa := pl A i a1 hi
    have pb := pl B i a2 hi
    have q109 := h109 (by omega)
    have q110 := h110 (Or.inr c)
    obtain ⟨G2, b1, b2, b3, b4⟩ := adds_s (F := F) (G := G1) (k := k) (i := i) (k2 := A) (i2 := i) (by omega) (by omega) (by omega) (by omega) (Or.inl (by omega)) hF
    obtain ⟨G3, d1, d2, d3, d4⟩ := adds_s (F := F) (G := G2) (k := k) (i := i) (k2 := B) (i2 := i) (by omega) (by omega) (by omega) (by omega) (Or.inl (by omega)) hF
    have sk : SK G1 G3 k i := ⟨d2.trans b2, d3.trans b3, fun k' i' j' hi' hne => by
      rw [d4 k' i' j' hi', b4 k' i' j' hi']
      exact ⟨fun q => q.elim (fun q => q.resolve_right (fun q => hne ⟨q.1, q.2.1⟩)) (fun q => absurd ⟨q.1, q.2.1⟩ hne), fun q => Or.inl (Or.inl q)⟩⟩
    refine ⟨G3, ?_, sk, fun j => eqn_of (k1.trans c) (fun q => by cases q) (fun q => by cases q) (fun q => by cases q) (fun _ => ?_) (fun q => by cases q) (fun q => by cases q) (fun q => by cases q)⟩
    · skip
      simp (disch := omega) only [reduceIte, Nat.reduceEqDiff, Nat.reduceAdd, Nat.reduceSub, Nat.reduceMul, Nat.reduceLT, Int.reduceNeg, Int.reduceAdd, Int.reduceSub, Int.reduceMul, Int.reduceLT, Int.reduceLE, Int.reduceEq, Int.reduceToNat, reduceCtorEq, and_self, and_true, true_and, false_and, and_false, or_false, false_or, or_true, true_or, true_implies, false_implies, implies_true, not_true_eq_false, not_false_eq_true, Int.toNat_natCast, Int.cast_ofNat_Int, eq_self, ne_eq, ite_true, ite_false, if_true, if_false, Int.add_sub_cancel, Int.sub_add_cancel, Int.add_zero, Int.zero_add, cast_s, iI_in, iI_lit, iI_le, iI_lt, iI_eq, iI_cl, iI_add, iI_sub, iI_mul, iI_neg, iI_nI, ok_s, ok_ck, ok_bn, ok_ob, ck_iI, bn_eq, ob_s, om_n, om_s, cb_bI, gI_g, gI_2, gJ_1, gJ_g, gJ_2, gR_1, gR_2, gR_g, within_v, in_v, bI_i0, bI_i1, iI_bI0, iI_bI1, bI_T, bI_F, f_X12_spans_l9b, hK, q109, q110, pa, pb, b1, d1]
    · rw [EoS _ _ _ _ hi, EoS _ _ _ _ hi, EoS _ _ _ _ hi, hA, hB, sk.2.2 A i j (by omega) (by omega), sk.2.2 B i j (by omega) (by omega), d4 k i j (by omega), b4 k i j (by omega), b4 B i j (by omega)]
      constructor
      · rintro ((q | ⟨_, _, q⟩) | ⟨_, _, (q | ⟨q, _⟩)⟩)
        · exact absurd q (r3 j)
        · exact Or.inl q
        · exact Or.inr q
        · omega
      · rintro (q | q)
        · exact Or.inl (Or.inr ⟨rfl, rfl, q⟩)
        · exact Or.inr ⟨rfl, rfl, Or.inl q⟩
  · -- any number
    rw [c] at hK
    have a1 := (w1 (by omega)).2
    have pa := pl A i a1 hi
    have q109 := h109 (by omega)
    obtain ⟨G2, b1, b2, b3, b4⟩ := puts_s (F := F) (G := G1) (k := k) (i := i) (j := i) (by omega) (by omega) (by omega)
    obtain ⟨G3, d1, d2, d3⟩ := goes_loop (F := F) (G := G2) (G29 := G29) (k := k) (i := i) (A := A) (by omega) hi (T1.to b2) a1 hF
    have sk2 : SK G1 G2 k i := ⟨b2, b3, fun k' i' j' hi' hne => by
      rw [b4 k' i' j' hi']
      exact ⟨fun q => q.resolve_right (fun q => hne ⟨q.1, q.2.1⟩), Or.inl⟩⟩
    have sk := sk2.tr d2
    have gv : f_X12_goesOn F G29 G1 (iI k) (iI i) = some G3 := by
      simp (disch := omega) only [reduceIte, Nat.reduceEqDiff, Nat.reduceAdd, Nat.reduceSub, Nat.reduceMul, Nat.reduceLT, Int.reduceNeg, Int.reduceAdd, Int.reduceSub, Int.reduceMul, Int.reduceLT, Int.reduceLE, Int.reduceEq, Int.reduceToNat, reduceCtorEq, and_self, and_true, true_and, false_and, and_false, or_false, false_or, or_true, true_or, true_implies, false_implies, implies_true, not_true_eq_false, not_false_eq_true, Int.toNat_natCast, Int.cast_ofNat_Int, eq_self, ne_eq, ite_true, ite_false, if_true, if_false, Int.add_sub_cancel, Int.sub_add_cancel, Int.add_zero, Int.zero_add, cast_s, iI_in, iI_lit, iI_le, iI_lt, iI_eq, iI_cl, iI_add, iI_sub, iI_mul, iI_neg, iI_nI, ok_s, ok_ck, ok_bn, ok_ob, ck_iI, bn_eq, ob_s, om_n, om_s, cb_bI, gI_g, gI_2, gJ_1, gJ_g, gJ_2, gR_1, gR_2, gR_g, within_v, in_v, bI_i0, bI_i1, iI_bI0, iI_bI1, bI_T, bI_F, f_X12_goesOn, f_X12_goesOn_b38, pk, q109, pa, hK, b1, d1]
    refine ⟨G3, ?_, sk, fun j => eqn_of (k1.trans c) (fun q => by cases q) (fun q => by cases q) (fun q => by cases q) (fun q => by cases q) (fun _ => ?_) (fun q => by cases q) (fun q => by cases q)⟩
    · skip
      simp (disch := omega) only [reduceIte, Nat.reduceEqDiff, Nat.reduceAdd, Nat.reduceSub, Nat.reduceMul, Nat.reduceLT, Int.reduceNeg, Int.reduceAdd, Int.reduceSub, Int.reduceMul, Int.reduceLT, Int.reduceLE, Int.reduceEq, Int.reduceToNat, reduceCtorEq, and_self, and_true, true_and, false_and, and_false, or_false, false_or, or_true, true_or, true_implies, false_implies, implies_true, not_true_eq_false, not_false_eq_true, Int.toNat_natCast, Int.cast_ofNat_Int, eq_self, ne_eq, ite_true, ite_false, if_true, if_false, Int.add_sub_cancel, Int.sub_add_cancel, Int.add_zero, Int.zero_add, cast_s, iI_in, iI_lit, iI_le, iI_lt, iI_eq, iI_cl, iI_add, iI_sub, iI_mul, iI_neg, iI_nI, ok_s, ok_ck, ok_bn, ok_ob, ck_iI, bn_eq, ob_s, om_n, om_s, cb_bI, gI_g, gI_2, gJ_1, gJ_g, gJ_2, gR_1, gR_2, gR_g, within_v, in_v, bI_i0, bI_i1, iI_bI0, iI_bI1, bI_T, bI_F, f_X12_spans_l9b, hK, gv]
    · rw [EoS _ _ _ _ hi, d3 j, b4 k i j (by omega), hA]
      constructor
      · rintro ((q | ⟨_, _, q⟩) | ⟨m, m1, m2, m3, m4⟩)
        · exact absurd q (r3 j)
        · exact Or.inl ⟨hi, q⟩
        · refine Or.inr ⟨m, m1, ⟨hi, (d2.2.2 A i m (by omega) (by omega)).mpr m3⟩, m4.elim Or.inl (fun q => Or.inr ⟨m2, (d2.2.2 k m j (by omega) (by omega)).mpr q⟩)⟩
      · rintro (⟨_, q⟩ | ⟨m, m1, m2, m3⟩)
        · exact Or.inl (Or.inr ⟨rfl, rfl, q⟩)
        · have sA := (sk.2.2 A i m (by omega) (by omega)).trans (S1 A i m (by omega) (by omega))
          have le := hle A a1 i m ⟨hi, sA.mp m2.2⟩
          exact Or.inr ⟨m, m1, le.2.2, (d2.2.2 A i m (by omega) (by omega)).mp m2.2, m3.elim Or.inl (fun q => Or.inr ((d2.2.2 k m j (by omega) (by omega)).mp q.2))⟩
  · -- one or more
    rw [c] at hK
    have a1 := (w1 (by omega)).2
    have pa := pl A i a1 hi
    have q109 := h109 (by omega)
    have ie := @isEnd_s F G1 A i i (by omega) (by omega) (by omega) (clD _)
    have sA1 := S1 A i i (by omega) (by omega)
    by_cases e : SE G1 A i i
    · rw [@bI_t _ (clD _) e] at ie
      obtain ⟨G2, b1, b2, b3, b4⟩ := puts_s (F := F) (G := G1) (k := k) (i := i) (j := i) (by omega) (by omega) (by omega)
      obtain ⟨G3, d1, d2, d3⟩ := goes_loop (F := F) (G := G2) (G29 := G29) (k := k) (i := i) (A := A) (by omega) hi (T1.to b2) a1 hF
      have sk2 : SK G1 G2 k i := ⟨b2, b3, fun k' i' j' hi' hne => by
        rw [b4 k' i' j' hi']
        exact ⟨fun q => q.resolve_right (fun q => hne ⟨q.1, q.2.1⟩), Or.inl⟩⟩
      have sk := sk2.tr d2
      have gv : f_X12_goesOn F G29 G1 (iI k) (iI i) = some G3 := by
        simp (disch := omega) only [reduceIte, Nat.reduceEqDiff, Nat.reduceAdd, Nat.reduceSub, Nat.reduceMul, Nat.reduceLT, Int.reduceNeg, Int.reduceAdd, Int.reduceSub, Int.reduceMul, Int.reduceLT, Int.reduceLE, Int.reduceEq, Int.reduceToNat, reduceCtorEq, and_self, and_true, true_and, false_and, and_false, or_false, false_or, or_true, true_or, true_implies, false_implies, implies_true, not_true_eq_false, not_false_eq_true, Int.toNat_natCast, Int.cast_ofNat_Int, eq_self, ne_eq, ite_true, ite_false, if_true, if_false, Int.add_sub_cancel, Int.sub_add_cancel, Int.add_zero, Int.zero_add, cast_s, iI_in, iI_lit, iI_le, iI_lt, iI_eq, iI_cl, iI_add, iI_sub, iI_mul, iI_neg, iI_nI, ok_s, ok_ck, ok_bn, ok_ob, ck_iI, bn_eq, ob_s, om_n, om_s, cb_bI, gI_g, gI_2, gJ_1, gJ_g, gJ_2, gR_1, gR_2, gR_g, within_v, in_v, bI_i0, bI_i1, iI_bI0, iI_bI1, bI_T, bI_F, f_X12_goesOn, f_X12_goesOn_b38, pk, q109, pa, hK, ie, b1, d1]
      refine ⟨G3, ?_, sk, fun j => eqn_of (k1.trans c) (fun q => by cases q) (fun q => by cases q) (fun q => by cases q) (fun q => by cases q) (fun q => by cases q) (fun _ => ?_) (fun q => by cases q)⟩
      · skip
        simp (disch := omega) only [reduceIte, Nat.reduceEqDiff, Nat.reduceAdd, Nat.reduceSub, Nat.reduceMul, Nat.reduceLT, Int.reduceNeg, Int.reduceAdd, Int.reduceSub, Int.reduceMul, Int.reduceLT, Int.reduceLE, Int.reduceEq, Int.reduceToNat, reduceCtorEq, and_self, and_true, true_and, false_and, and_false, or_false, false_or, or_true, true_or, true_implies, false_implies, implies_true, not_true_eq_false, not_false_eq_true, Int.toNat_natCast, Int.cast_ofNat_Int, eq_self, ne_eq, ite_true, ite_false, if_true, if_false, Int.add_sub_cancel, Int.sub_add_cancel, Int.add_zero, Int.zero_add, cast_s, iI_in, iI_lit, iI_le, iI_lt, iI_eq, iI_cl, iI_add, iI_sub, iI_mul, iI_neg, iI_nI, ok_s, ok_ck, ok_bn, ok_ob, ck_iI, bn_eq, ob_s, om_n, om_s, cb_bI, gI_g, gI_2, gJ_1, gJ_g, gJ_2, gR_1, gR_2, gR_g, within_v, in_v, bI_i0, bI_i1, iI_bI0, iI_bI1, bI_T, bI_F, f_X12_spans_l9b, hK, gv]
      · rw [EoS _ _ _ _ hi, d3 j, b4 k i j (by omega), hA]
        constructor
        · rintro ((q | ⟨_, _, q⟩) | ⟨m, m1, m2, m3, m4⟩)
          · exact absurd q (r3 j)
          · exact Or.inl ⟨q, hi, (sk.2.2 A i i (by omega) (by omega)).mpr e⟩
          · refine Or.inr ⟨m, m1, ⟨hi, (d2.2.2 A i m (by omega) (by omega)).mpr m3⟩, m4.elim Or.inl (fun q => Or.inr ⟨m2, (d2.2.2 k m j (by omega) (by omega)).mpr q⟩)⟩
        · rintro (⟨q, _⟩ | ⟨m, m1, m2, m3⟩)
          · exact Or.inl (Or.inr ⟨rfl, rfl, q⟩)
          · have sA := (sk.2.2 A i m (by omega) (by omega)).trans (S1 A i m (by omega) (by omega))
            have le := hle A a1 i m ⟨hi, sA.mp m2.2⟩
            exact Or.inr ⟨m, m1, le.2.2, (d2.2.2 A i m (by omega) (by omega)).mp m2.2, m3.elim Or.inl (fun q => Or.inr ((d2.2.2 k m j (by omega) (by omega)).mp q.2))⟩
    · rw [@bI_f _ (clD _) e] at ie
      obtain ⟨G3, d1, d2, d3⟩ := goes_loop (F := F) (G := G1) (G29 := G29) (k := k) (i := i) (A := A) (by omega) hi T1 a1 hF
      have gv : f_X12_goesOn F G29 G1 (iI k) (iI i) = some G3 := by
        simp (disch := omega) only [reduceIte, Nat.reduceEqDiff, Nat.reduceAdd, Nat.reduceSub, Nat.reduceMul, Nat.reduceLT, Int.reduceNeg, Int.reduceAdd, Int.reduceSub, Int.reduceMul, Int.reduceLT, Int.reduceLE, Int.reduceEq, Int.reduceToNat, reduceCtorEq, and_self, and_true, true_and, false_and, and_false, or_false, false_or, or_true, true_or, true_implies, false_implies, implies_true, not_true_eq_false, not_false_eq_true, Int.toNat_natCast, Int.cast_ofNat_Int, eq_self, ne_eq, ite_true, ite_false, if_true, if_false, Int.add_sub_cancel, Int.sub_add_cancel, Int.add_zero, Int.zero_add, cast_s, iI_in, iI_lit, iI_le, iI_lt, iI_eq, iI_cl, iI_add, iI_sub, iI_mul, iI_neg, iI_nI, ok_s, ok_ck, ok_bn, ok_ob, ck_iI, bn_eq, ob_s, om_n, om_s, cb_bI, gI_g, gI_2, gJ_1, gJ_g, gJ_2, gR_1, gR_2, gR_g, within_v, in_v, bI_i0, bI_i1, iI_bI0, iI_bI1, bI_T, bI_F, f_X12_goesOn, pk, q109, pa, hK, ie, d1]
      refine ⟨G3, ?_, d2, fun j => eqn_of (k1.trans c) (fun q => by cases q) (fun q => by cases q) (fun q => by cases q) (fun q => by cases q) (fun q => by cases q) (fun _ => ?_) (fun q => by cases q)⟩
      · skip
        simp (disch := omega) only [reduceIte, Nat.reduceEqDiff, Nat.reduceAdd, Nat.reduceSub, Nat.reduceMul, Nat.reduceLT, Int.reduceNeg, Int.reduceAdd, Int.reduceSub, Int.reduceMul, Int.reduceLT, Int.reduceLE, Int.reduceEq, Int.reduceToNat, reduceCtorEq, and_self, and_true, true_and, false_and, and_false, or_false, false_or, or_true, true_or, true_implies, false_implies, implies_true, not_true_eq_false, not_false_eq_true, Int.toNat_natCast, Int.cast_ofNat_Int, eq_self, ne_eq, ite_true, ite_false, if_true, if_false, Int.add_sub_cancel, Int.sub_add_cancel, Int.add_zero, Int.zero_add, cast_s, iI_in, iI_lit, iI_le, iI_lt, iI_eq, iI_cl, iI_add, iI_sub, iI_mul, iI_neg, iI_nI, ok_s, ok_ck, ok_bn, ok_ob, ck_iI, bn_eq, ob_s, om_n, om_s, cb_bI, gI_g, gI_2, gJ_1, gJ_g, gJ_2, gR_1, gR_2, gR_g, within_v, in_v, bI_i0, bI_i1, iI_bI0, iI_bI1, bI_T, bI_F, f_X12_spans_l9b, hK, gv]
      · rw [EoS _ _ _ _ hi, d3 j, hA]
        constructor
        · rintro (q | ⟨m, m1, m2, m3, m4⟩)
          · exact absurd q (r3 j)
          · refine Or.inr ⟨m, m1, ⟨hi, (d2.2.2 A i m (by omega) (by omega)).mpr m3⟩, m4.elim Or.inl (fun q => Or.inr ⟨m2, (d2.2.2 k m j (by omega) (by omega)).mpr q⟩)⟩
        · rintro (⟨_, _, q⟩ | ⟨m, m1, m2, m3⟩)
          · exact absurd ((d2.2.2 A i i (by omega) (by omega)).mp q) e
          · have sA := (d2.2.2 A i m (by omega) (by omega)).trans (S1 A i m (by omega) (by omega))
            have le := hle A a1 i m ⟨hi, sA.mp m2.2⟩
            exact Or.inr ⟨m, m1, le.2.2, (d2.2.2 A i m (by omega) (by omega)).mp m2.2, m3.elim Or.inl (fun q => Or.inr ((d2.2.2 k m j (by omega) (by omega)).mp q.2))⟩
  · -- one or none
    rw [c] at hK
    have a1 := (w1 (by omega)).2
    have pa := pl A i a1 hi
    have q109 := h109 (by omega)
    obtain ⟨G2, b1, b2, b3, b4⟩ := adds_s (F := F) (G := G1) (k := k) (i := i) (k2 := A) (i2 := i) (by omega) (by omega) (by omega) (by omega) (Or.inl (by omega)) hF
    obtain ⟨G3, d1, d2, d3, d4⟩ := puts_s (F := F) (G := G2) (k := k) (i := i) (j := i) (by omega) (by omega) (by omega)
    have sk : SK G1 G3 k i := ⟨d2.trans b2, d3.trans b3, fun k' i' j' hi' hne => by
      rw [d4 k' i' j' hi', b4 k' i' j' hi']
      exact ⟨fun q => q.elim (fun q => q.resolve_right (fun q => hne ⟨q.1, q.2.1⟩)) (fun q => absurd ⟨q.1, q.2.1⟩ hne), fun q => Or.inl (Or.inl q)⟩⟩
    refine ⟨G3, ?_, sk, fun j => eqn_of (k1.trans c) (fun q => by cases q) (fun q => by cases q) (fun q => by cases q) (fun q => by cases q) (fun q => by cases q) (fun q => by cases q) (fun _ => ?_)⟩
    · skip
      simp (disch := omega) only [reduceIte, Nat.reduceEqDiff, Nat.reduceAdd, Nat.reduceSub, Nat.reduceMul, Nat.reduceLT, Int.reduceNeg, Int.reduceAdd, Int.reduceSub, Int.reduceMul, Int.reduceLT, Int.reduceLE, Int.reduceEq, Int.reduceToNat, reduceCtorEq, and_self, and_true, true_and, false_and, and_false, or_false, false_or, or_true, true_or, true_implies, false_implies, implies_true, not_true_eq_false, not_false_eq_true, Int.toNat_natCast, Int.cast_ofNat_Int, eq_self, ne_eq, ite_true, ite_false, if_true, if_false, Int.add_sub_cancel, Int.sub_add_cancel, Int.add_zero, Int.zero_add, cast_s, iI_in, iI_lit, iI_le, iI_lt, iI_eq, iI_cl, iI_add, iI_sub, iI_mul, iI_neg, iI_nI, ok_s, ok_ck, ok_bn, ok_ob, ck_iI, bn_eq, ob_s, om_n, om_s, cb_bI, gI_g, gI_2, gJ_1, gJ_g, gJ_2, gR_1, gR_2, gR_g, within_v, in_v, bI_i0, bI_i1, iI_bI0, iI_bI1, bI_T, bI_F, f_X12_spans_l9b, hK, q109, pa, b1, d1]
    · rw [EoS _ _ _ _ hi, EoS _ _ _ _ hi, hA, sk.2.2 A i j (by omega) (by omega), d4 k i j (by omega), b4 k i j (by omega)]
      constructor
      · rintro ((q | ⟨_, _, q⟩) | ⟨_, _, q⟩)
        · exact absurd q (r3 j)
        · exact Or.inl q
        · exact Or.inr ⟨hi, q⟩
      · rintro (q | ⟨_, q⟩)
        · exact Or.inl (Or.inr ⟨rfl, rfl, q⟩)
        · exact Or.inr ⟨rfl, rfl, q⟩
end PR
