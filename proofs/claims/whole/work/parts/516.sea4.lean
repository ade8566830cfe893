/-! the class's search: all places -/
/-- the first rule that takes a sign, by the values of its start -/
def fru (W : Nat → Int) (r i : Nat) : Option Nat := fst (fun k => (i : Int) < W k) r
def frz : Option Nat → Int
  | none => -1
  | some k => k
section PR
variable {F S n r : Nat} {G3 G4 G5 : Grp} {f v c p tc : Nat} {tx sr : Nat → Nat}
theorem road_le {g : Gr} {x i t j : Nat} (h : rch (stp g n (tkA n tx) (bdA n tx) 0 S) (x, i) (t, j)) : i ≤ n → j ≤ n := by
  refine rch_ind (R := stp g n (tkA n tx) (bdA n tx) 0 S) (b := (t, j)) (P := fun a => a.2 ≤ n → j ≤ n) (fun z => z) (fun a c hs _ ih ha => ih ?_) h
  obtain ⟨s1, s2, s3, s4⟩ := hs
  rcases s4 with ⟨_, ⟨q2, _⟩ | ⟨q2, q3⟩⟩ | ⟨q1, _⟩
  · omega
  · have := q3.1; omega
  · omega
theorem silent_up {g : Gr} {x y i : Nat} (hw : NW g S) (hi : i ≤ n) (h : rch (SL g (bdA n tx i)) x y) : x < S → y < S ∧ rch (stp g n (tkA n tx) (bdA n tx) 0 S) (x, i) (y, i) := by
  refine rch_ind (R := SL g (bdA n tx i)) (b := y) (P := fun a => a < S → y < S ∧ rch (stp g n (tkA n tx) (bdA n tx) 0 S) (a, i) (y, i)) (fun hy => ⟨hy, rch_rf _⟩) (fun a c hs _ ih ha => ?_) h
  have hc := SL_in hw ha hs
  obtain ⟨i1, i2⟩ := ih hc
  refine ⟨i1, rch_hd (c := (c, i)) ⟨hi, ⟨Nat.zero_le _, ha⟩, ⟨Nat.zero_le _, hc⟩, ?_⟩ i2⟩
  rcases hs with ⟨q1, q2⟩ | q1
  · exact Or.inl ⟨q1, Or.inl ⟨rfl, q2⟩⟩
  · exact Or.inr ⟨rfl, q1⟩
theorem cw_of {g : Gr} (hw : NW g S) (hsg : ∀ i, i < n → isSg (tx i)) {x i : Nat} (hi : i ≤ n) (hx : x < S) {A : Int} (snd : A = -1 ∨ ∃ y, y < S ∧ rch (SL g (bdA n tx i)) x y ∧ bsv g n S tx i y = A) (ge : ∀ y, y < S → rch (SL g (bdA n tx i)) x y → bsv g n S tx i y ≤ A) : A = CW g n S tx x i := by
  have bs1 : ∀ y, g.1 y = 1 → bsv g n S tx i y = i := fun y hy => by unfold bsv; rw [if_pos hy]
  have bs2 : ∀ (y z : Nat), ¬ g.1 y = 1 → g.2.1 y = z → tkA n tx (g.1 y) i → bsv g n S tx i y = CW g n S tx z (i + 1) := fun y z h1 h2 h3 => by
    unfold bsv; rw [if_neg h1, @if_pos _ (clD _) ⟨by omega, h3⟩, h2]; rfl
  have k1 : ∀ y, tkA n tx (g.1 y) i → ¬ g.1 y = 1 := fun y h z => by
    obtain ⟨h1, h2⟩ := h
    have := hsg i h1
    unfold tks at h2
    unfold isSg isWd at this
    omega
  have upper : ∀ j, CND g n S tx x i j → (j : Int) ≤ A ∧ j ≤ n := by
    intro j ⟨t, t1, t2, t3⟩
    have jn := road_le t3 hi
    refine ⟨?_, jn⟩
    obtain ⟨y, y1, y2⟩ := road_dec t3
    have ys := (silent_up (n := n) (tx := tx) hw hi y1 hx).1
    have g1 := ge y ys y1
    rcases y2 with ⟨y2, y3⟩ | ⟨z, z1, z2, z3, z4, z5⟩
    · rw [bs1 y (by rw [y2]; exact t2)] at g1
      rw [y3]; exact g1
    · rw [bs2 y z (k1 y z4) z1 z4] at g1
      rcases gst_spec (fun j => CND g n S tx z (i + 1) j) (n + 1) with ⟨a1, a2⟩ | ⟨j', a1, a2, a3, a4⟩
      · exact absurd ⟨t, t1, t2, z5⟩ (a2 j (by omega))
      · have := a4 j (by omega) ⟨t, t1, t2, z5⟩
        have e : CW g n S tx z (i + 1) = j' := a2
        omega
  refine (gst_eq ?_).symm
  by_cases e : A = -1
  · exact Or.inl ⟨e, fun j hj hc => by have := (upper j hc).1; omega⟩
  · rcases snd with q | ⟨y, y1, y2, y3⟩
    · exact absurd q e
    · have sy := silent_up (n := n) (tx := tx) hw hi y2 hx
      refine Or.inr ?_
      by_cases k : g.1 y = 1
      · rw [bs1 y k] at y3
        exact ⟨i, by omega, y3.symm, ⟨y, y1, k, sy.2⟩, fun j' _ hc => by have := (upper j' hc).1; omega⟩
      · by_cases q : 0 ≤ g.2.1 y ∧ tkA n tx (g.1 y) i
        · have ez : g.2.1 y = ((g.2.1 y).toNat : Int) := by omega
          rw [bs2 y _ k ez q.2] at y3
          rcases gst_spec (fun j => CND g n S tx (g.2.1 y).toNat (i + 1) j) (n + 1) with ⟨a1, a2⟩ | ⟨j, a1, a2, a3, a4⟩
          · exact absurd (y3.symm.trans a1) e
          · obtain ⟨t, t1, t2, t3⟩ := a3
            have ej : A = (j : Int) := y3.symm.trans a2
            refine ⟨j, a1, ej, ⟨t, t1, t2, rch_tr sy.2 (rch_hd ?_ t3)⟩, fun j' _ hc => by have := (upper j' hc).1; omega⟩
            have := (hw y y1).2.2.2.1
            exact ⟨hi, ⟨Nat.zero_le _, y1⟩, ⟨Nat.zero_le _, by show (g.2.1 y).toNat < S; omega⟩, Or.inl ⟨ez, Or.inr ⟨rfl, q.2⟩⟩⟩
        · have : bsv g n S tx i y = -1 := by unfold bsv; rw [if_neg k, @if_neg _ (clD _) q]
          exact absurd (y3.symm.trans this) e
theorem cw_b (g : Gr) (x i : Nat) : -1 ≤ CW g n S tx x i ∧ CW g n S tx x i ≤ n := by
  have := gst_b (fun j => CND g n S tx x i j) (n + 1)
  unfold CW
  omega
theorem bsv_b (g : Gr) {x i : Nat} (hi : i ≤ n) : -1 ≤ bsv g n S tx i x ∧ bsv g n S tx i x ≤ n := by
  unfold bsv
  by_cases k : g.1 x = 1
  · rw [if_pos k]; omega
  · rw [if_neg k]
    by_cases q : 0 ≤ g.2.1 x ∧ tkA n tx (g.1 x) i
    · rw [@if_pos _ (clD _) q]; exact cw_b _ _ _
    · rw [@if_neg _ (clD _) q]; omega
theorem note_v (h7 : G4.1 v 7 = iI r) (hr : r ≤ 12) (hf : G5.2.2 f 7 = some c) (hne : c ≠ f + 5) (hs : ∀ k, k < r → G4.1 (v + 4) k = iI (sr k) ∧ sr k < 408) {i : Nat} (hi : i < 160) {W : Nat → Int} (hW : ∀ k, k < r → G5.1 c (sr k) = iI (W k) ∧ -1 ≤ W k ∧ W k ≤ 160) (hF : 200000 ≤ F) : ∃ G', f_X2_noteFirstRule F G4 G5 f v (iI i) = some G' ∧ G'.2 = G5.2 ∧ (∀ a k, ¬ (a = f + 5 ∧ k = i) → ¬ (a = f + 6 ∧ k = i) → G'.1 a k = G5.1 a k) ∧ G'.1 (f + 5) i = iI (frz (fru W r i)) ∧ ∀ k, fru W r i = some k → G'.1 (f + 6) i = iI (W k) := by
  have key : ∀ d k, k + d = r → (∀ k', k' < k → ¬ (i : Int) < W k') → ∀ fu, d < fu → ∃ G', f_X2_noteFirstRule_l9 F fu G4 (gI G5 (f + 5) i (iI (-1))) f v (iI i) (iI (k : Int)) = some G' ∧ G'.2 = G5.2 ∧ (∀ a k, ¬ (a = f + 5 ∧ k = i) → ¬ (a = f + 6 ∧ k = i) → G'.1 a k = G5.1 a k) ∧ G'.1 (f + 5) i = iI (frz (fru W r i)) ∧ ∀ k, fru W r i = some k → G'.1 (f + 6) i = iI (W k) := by
    intro d
    induction d with
    | zero =>
      intro k hk hno fu hfu
      obtain ⟨fu, rfl⟩ : ∃ f, fu = f + 1 := ⟨fu - 1, by omega⟩
      have ek : k = r := by omega
      subst ek
      have en : fru W k i = none := fst_none.mpr hno
      refine ⟨gI G5 (f + 5) i (iI (-1)), ?_, rfl, fun a k h1 h2 => by rw [gI_g, if_neg h1], ?_, fun k hk => by rw [en] at hk; cases hk⟩
      · show f_X2_noteFirstRule_l9b F (f_X2_noteFirstRule_l9 F fu) G4 (gI G5 (f + 5) i (iI (-1))) f v _ _ = _
        have e : (k : Int) ≤ k := Int.le_refl _
        simp (disch := omega) only [reduceIte, Nat.reduceEqDiff, Nat.reduceAdd, Nat.reduceSub, Nat.reduceMul, Nat.reduceLT, Int.reduceNeg, Int.reduceAdd, Int.reduceSub, Int.reduceMul, Int.reduceLT, Int.reduceLE, Int.reduceEq, Int.reduceToNat, reduceCtorEq, and_self, and_true, true_and, false_and, and_false, or_false, false_or, or_true, true_or, true_implies, false_implies, implies_true, not_true_eq_false, not_false_eq_true, Int.toNat_natCast, Int.cast_ofNat_Int, eq_self, ne_eq, ite_true, ite_false, if_true, if_false, Int.add_sub_cancel, Int.sub_add_cancel, Int.add_zero, Int.zero_add, cast_s, iI_in, iI_lit, iI_le, iI_lt, iI_eq, iI_cl, iI_add, iI_sub, iI_mul, iI_neg, iI_nI, ok_s, ok_ck, ok_bn, ok_ob, ck_iI, bn_eq, ob_s, om_n, om_s, cb_bI, gI_g, gI_2, gJ_1, gJ_g, gJ_2, gR_1, gR_2, gR_g, within_v, in_v, bI_i0, bI_i1, iI_bI0, iI_bI1, bI_T, bI_F, f_X2_noteFirstRule_l9b, h7, e]
      · rw [en, gI_g, if_pos ⟨rfl, rfl⟩]; rfl
    | succ d ih =>
      intro k hk hno fu hfu
      obtain ⟨fu, rfl⟩ : ∃ f, fu = f + 1 := ⟨fu - 1, by omega⟩
      obtain ⟨s1, s2⟩ := hs k (by omega)
      obtain ⟨u1, u2, u3⟩ := hW k (by omega)
      have e : ¬ (r : Int) ≤ k := by omega
      have hne' : ¬ c = f + 5 := hne
      by_cases q : (i : Int) < W k
      · have en : fru W r i = some k := fst_some.mpr ⟨by omega, q, hno⟩
        refine ⟨gI (gI (gI G5 (f + 5) i (iI (-1))) (f + 5) i (iI k)) (f + 6) i (iI (W k)), ?_, rfl, fun a k h1 h2 => by rw [gI_g, if_neg h2, gI_g, if_neg h1, gI_g, if_neg h1], ?_, fun k' hk' => ?_⟩
        · show f_X2_noteFirstRule_l9b F (f_X2_noteFirstRule_l9 F fu) G4 (gI G5 (f + 5) i (iI (-1))) f v _ _ = _
          have q' : ¬ W k ≤ (i : Int) := by omega
          simp (disch := omega) only [reduceIte, Nat.reduceEqDiff, Nat.reduceAdd, Nat.reduceSub, Nat.reduceMul, Nat.reduceLT, Int.reduceNeg, Int.reduceAdd, Int.reduceSub, Int.reduceMul, Int.reduceLT, Int.reduceLE, Int.reduceEq, Int.reduceToNat, reduceCtorEq, and_self, and_true, true_and, false_and, and_false, or_false, false_or, or_true, true_or, true_implies, false_implies, implies_true, not_true_eq_false, not_false_eq_true, Int.toNat_natCast, Int.cast_ofNat_Int, eq_self, ne_eq, ite_true, ite_false, if_true, if_false, Int.add_sub_cancel, Int.sub_add_cancel, Int.add_zero, Int.zero_add, cast_s, iI_in, iI_lit, iI_le, iI_lt, iI_eq, iI_cl, iI_add, iI_sub, iI_mul, iI_neg, iI_nI, ok_s, ok_ck, ok_bn, ok_ob, ck_iI, bn_eq, ob_s, om_n, om_s, cb_bI, gI_g, gI_2, gJ_1, gJ_g, gJ_2, gR_1, gR_2, gR_g, within_v, in_v, bI_i0, bI_i1, iI_bI0, iI_bI1, bI_T, bI_F, f_X2_noteFirstRule_l9b, h7, e, hf, s1, u1, hne', q']
        · rw [en, gI_g, if_neg (by omega), gI_g, if_pos ⟨rfl, rfl⟩]; rfl
        · rw [en] at hk'
          cases hk'
          rw [gI_g, if_pos ⟨rfl, rfl⟩]
      · obtain ⟨G', r1, r2⟩ := ih (k + 1) (by omega) (fun k' h1 => by
          by_cases c2 : k' = k
          · rw [c2]; exact q
          · exact hno k' (by omega)) fu (by omega)
        refine ⟨G', ?_, r2⟩
        show f_X2_noteFirstRule_l9b F (f_X2_noteFirstRule_l9 F fu) G4 (gI G5 (f + 5) i (iI (-1))) f v _ _ = _
        have q' : W k ≤ (i : Int) := by omega
        simp (disch := omega) only [reduceIte, Nat.reduceEqDiff, Nat.reduceAdd, Nat.reduceSub, Nat.reduceMul, Nat.reduceLT, Int.reduceNeg, Int.reduceAdd, Int.reduceSub, Int.reduceMul, Int.reduceLT, Int.reduceLE, Int.reduceEq, Int.reduceToNat, reduceCtorEq, and_self, and_true, true_and, false_and, and_false, or_false, false_or, or_true, true_or, true_implies, false_implies, implies_true, not_true_eq_false, not_false_eq_true, Int.toNat_natCast, Int.cast_ofNat_Int, eq_self, ne_eq, ite_true, ite_false, if_true, if_false, Int.add_sub_cancel, Int.sub_add_cancel, Int.add_zero, Int.zero_add, cast_s, iI_in, iI_lit, iI_le, iI_lt, iI_eq, iI_cl, iI_add, iI_sub, iI_mul, iI_neg, iI_nI, ok_s, ok_ck, ok_bn, ok_ob, ck_iI, bn_eq, ob_s, om_n, om_s, cb_bI, gI_g, gI_2, gJ_1, gJ_g, gJ_2, gR_1, gR_2, gR_g, within_v, in_v, bI_i0, bI_i1, iI_bI0, iI_bI1, bI_T, bI_F, f_X2_noteFirstRule_l9b, h7, e, hf, s1, u1, hne', q']
        exact r1
  obtain ⟨G', r1, r2⟩ := key r 0 (by omega) (fun k' h => absurd h (Nat.not_lt_zero k')) F (by omega)
  refine ⟨G', ?_, r2⟩
  simp (disch := omega) only [reduceIte, Nat.reduceEqDiff, Nat.reduceAdd, Nat.reduceSub, Nat.reduceMul, Nat.reduceLT, Int.reduceNeg, Int.reduceAdd, Int.reduceSub, Int.reduceMul, Int.reduceLT, Int.reduceLE, Int.reduceEq, Int.reduceToNat, reduceCtorEq, and_self, and_true, true_and, false_and, and_false, or_false, false_or, or_true, true_or, true_implies, false_implies, implies_true, not_true_eq_false, not_false_eq_true, Int.toNat_natCast, Int.cast_ofNat_Int, eq_self, ne_eq, ite_true, ite_false, if_true, if_false, Int.add_sub_cancel, Int.sub_add_cancel, Int.add_zero, Int.zero_add, cast_s, iI_in, iI_lit, iI_le, iI_lt, iI_eq, iI_cl, iI_add, iI_sub, iI_mul, iI_neg, iI_nI, ok_s, ok_ck, ok_bn, ok_ob, ck_iI, bn_eq, ob_s, om_n, om_s, cb_bI, gI_g, gI_2, gJ_1, gJ_g, gJ_2, gR_1, gR_2, gR_g, within_v, in_v, bI_i0, bI_i1, iI_bI0, iI_bI1, bI_T, bI_F, f_X2_noteFirstRule]
  exact r1
end PR
