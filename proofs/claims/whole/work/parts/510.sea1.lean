/-! the class's search: what is reached by nothing -/
def mx2 (a b : Int) : Int := if a < b then b else a
theorem mx2_l (a b : Int) : a ≤ mx2 a b := by unfold mx2; split <;> omega
theorem mx2_r (a b : Int) : b ≤ mx2 a b := by unfold mx2; split <;> omega
theorem mx2_c (a b : Int) : mx2 a b = a ∨ mx2 a b = b := by unfold mx2; split; exact Or.inr rfl; exact Or.inl rfl
theorem iI_mx {a b : Int} (h1 : -2147483648 ≤ a) (h2 : a < 2147483648) (h3 : -2147483648 ≤ b) (h4 : b < 2147483648) : (if iI a < iI b then iI b else iI a) = iI (mx2 a b) := by
  unfold mx2
  by_cases c : a < b
  · rw [if_pos c, if_pos ((iI_lt h1 h2 h3 h4).mpr c)]
  · rw [if_neg c, if_neg (fun z => c ((iI_lt h1 h2 h3 h4).mp z))]
def NW (g : Gr) (S : Nat) : Prop := ∀ x, x < S → 0 ≤ g.1 x ∧ g.1 x < 256 ∧ -1 ≤ g.2.1 x ∧ g.2.1 x < S ∧ -1 ≤ g.2.2 x ∧ g.2.2 x < S
def SL (g : Gr) (bd : Prop) (x y : Nat) : Prop := (g.2.1 x = y ∧ (g.1 x = 0 ∨ (g.1 x = 94 ∧ bd))) ∨ g.2.2 x = y
/-- one state's new value -/
noncomputable def nv1 (g : Gr) (bd : Prop) (A : Nat → Int) (x : Nat) : Int := @ite _ ((g.1 x = 0 ∨ (g.1 x = 94 ∧ bd)) ∧ 0 ≤ g.2.1 x) (clD _) (mx2 (A x) (A (g.2.1 x).toNat)) (A x)
noncomputable def nv2 (g : Gr) (A : Nat → Int) (x : Nat) (u : Int) : Int := if 0 ≤ g.2.2 x then mx2 u (A (g.2.2 x).toNat) else u
section PR
variable {F S : Nat} {G4 G5 : Grp} {f v c : Nat} {k5 : Grp → Grp → Nat → Nat → Int32 → Int32 → Int32 → Option Grp}
theorem b138_v {x : Nat} (h7 : G5.2.2 f 7 = some c) (hx : x < 400) {u gr : Int} (hu : -1 ≤ u ∧ u ≤ 200) (hg : gr = 0 ∨ gr = 1) (v2 v4 : Int32) (k28 : Grp → Grp → Nat → Nat → Int32 → Int32 → Int32 → Int32 → Option Grp) : f_X2_reachByNothing_b138 F k5 k28 G4 G5 f v v2 (iI gr) v4 (iI x) (iI u) = k28 G4 (gI G5 c x (iI u)) f v v2 (iI (if gr = 0 ∧ u ≤ ar G5 c x then 0 else 1)) v4 (iI ((x : Int) - 1)) := by
  have hA : G5.1 c x = iI (ar G5 c x) := iI_of rfl
  have hb := ar_b G5 c x
  have e3 : (x : Int) + -1 = (x : Int) - 1 := by omega
  have w : ∀ s0, f_X2_reachByNothing_b159 F k5 k28 G4 G5 f v v2 v4 (iI x) (iI u) s0 = k28 G4 (gI G5 c x (iI u)) f v v2 s0 v4 (iI ((x : Int) - 1)) := by
    intro s0
    simp (disch := omega) only [reduceIte, Nat.reduceEqDiff, Nat.reduceAdd, Nat.reduceSub, Nat.reduceMul, Nat.reduceLT, Int.reduceNeg, Int.reduceAdd, Int.reduceSub, Int.reduceMul, Int.reduceLT, Int.reduceLE, Int.reduceEq, Int.reduceToNat, reduceCtorEq, and_self, and_true, true_and, false_and, and_false, or_false, false_or, or_true, true_or, true_implies, false_implies, implies_true, not_true_eq_false, not_false_eq_true, Int.toNat_natCast, Int.cast_ofNat_Int, eq_self, ne_eq, ite_true, ite_false, if_true, if_false, Int.add_sub_cancel, Int.sub_add_cancel, Int.add_zero, Int.zero_add, cast_s, iI_in, iI_lit, iI_le, iI_lt, iI_eq, iI_cl, iI_add, iI_sub, iI_mul, iI_neg, iI_nI, ok_s, ok_ck, ok_bn, ok_ob, ck_iI, bn_eq, ob_s, om_n, om_s, cb_bI, gI_g, gI_2, gJ_1, gJ_g, gJ_2, gR_1, gR_2, gR_g, within_v, in_v, bI_i0, bI_i1, iI_bI0, iI_bI1, bI_T, bI_F, f_X2_reachByNothing_b159, h7, e3]
  rcases hg with rfl | rfl
  · by_cases e : u ≤ ar G5 c x
    · rw [if_pos ⟨rfl, e⟩]
      simp (disch := omega) only [reduceIte, Nat.reduceEqDiff, Nat.reduceAdd, Nat.reduceSub, Nat.reduceMul, Nat.reduceLT, Int.reduceNeg, Int.reduceAdd, Int.reduceSub, Int.reduceMul, Int.reduceLT, Int.reduceLE, Int.reduceEq, Int.reduceToNat, reduceCtorEq, and_self, and_true, true_and, false_and, and_false, or_false, false_or, or_true, true_or, true_implies, false_implies, implies_true, not_true_eq_false, not_false_eq_true, Int.toNat_natCast, Int.cast_ofNat_Int, eq_self, ne_eq, ite_true, ite_false, if_true, if_false, Int.add_sub_cancel, Int.sub_add_cancel, Int.add_zero, Int.zero_add, cast_s, iI_in, iI_lit, iI_le, iI_lt, iI_eq, iI_cl, iI_add, iI_sub, iI_mul, iI_neg, iI_nI, ok_s, ok_ck, ok_bn, ok_ob, ck_iI, bn_eq, ob_s, om_n, om_s, cb_bI, gI_g, gI_2, gJ_1, gJ_g, gJ_2, gR_1, gR_2, gR_g, within_v, in_v, bI_i0, bI_i1, iI_bI0, iI_bI1, bI_T, bI_F, f_X2_reachByNothing_b138, h7, hA, eq_true e, w]
    · rw [if_neg (fun z => e z.2)]
      simp (disch := omega) only [reduceIte, Nat.reduceEqDiff, Nat.reduceAdd, Nat.reduceSub, Nat.reduceMul, Nat.reduceLT, Int.reduceNeg, Int.reduceAdd, Int.reduceSub, Int.reduceMul, Int.reduceLT, Int.reduceLE, Int.reduceEq, Int.reduceToNat, reduceCtorEq, and_self, and_true, true_and, false_and, and_false, or_false, false_or, or_true, true_or, true_implies, false_implies, implies_true, not_true_eq_false, not_false_eq_true, Int.toNat_natCast, Int.cast_ofNat_Int, eq_self, ne_eq, ite_true, ite_false, if_true, if_false, Int.add_sub_cancel, Int.sub_add_cancel, Int.add_zero, Int.zero_add, cast_s, iI_in, iI_lit, iI_le, iI_lt, iI_eq, iI_cl, iI_add, iI_sub, iI_mul, iI_neg, iI_nI, ok_s, ok_ck, ok_bn, ok_ob, ck_iI, bn_eq, ob_s, om_n, om_s, cb_bI, gI_g, gI_2, gJ_1, gJ_g, gJ_2, gR_1, gR_2, gR_g, within_v, in_v, bI_i0, bI_i1, iI_bI0, iI_bI1, bI_T, bI_F, f_X2_reachByNothing_b138, f_X2_reachByNothing_b154, h7, hA, e, w]
  · rw [if_neg (fun z => by have := z.1; omega)]
    simp (disch := omega) only [reduceIte, Nat.reduceEqDiff, Nat.reduceAdd, Nat.reduceSub, Nat.reduceMul, Nat.reduceLT, Int.reduceNeg, Int.reduceAdd, Int.reduceSub, Int.reduceMul, Int.reduceLT, Int.reduceLE, Int.reduceEq, Int.reduceToNat, reduceCtorEq, and_self, and_true, true_and, false_and, and_false, or_false, false_or, or_true, true_or, true_implies, false_implies, implies_true, not_true_eq_false, not_false_eq_true, Int.toNat_natCast, Int.cast_ofNat_Int, eq_self, ne_eq, ite_true, ite_false, if_true, if_false, Int.add_sub_cancel, Int.sub_add_cancel, Int.add_zero, Int.zero_add, cast_s, iI_in, iI_lit, iI_le, iI_lt, iI_eq, iI_cl, iI_add, iI_sub, iI_mul, iI_neg, iI_nI, ok_s, ok_ck, ok_bn, ok_ob, ck_iI, bn_eq, ob_s, om_n, om_s, cb_bI, gI_g, gI_2, gJ_1, gJ_g, gJ_2, gR_1, gR_2, gR_g, within_v, in_v, bI_i0, bI_i1, iI_bI0, iI_bI1, bI_T, bI_F, f_X2_reachByNothing_b138, f_X2_reachByNothing_b154, w]
theorem if_p {α : Type} {c : Prop} [Decidable c] {a b : α} (h : c) : (if c then a else b) = a := if_pos h
theorem if_n {α : Type} {c : Prop} [Decidable c] {a b : α} (h : ¬ c) : (if c then a else b) = b := if_neg h
theorem b109_v {x : Nat} (hw : NW (gph G4 v) S) (hS : S ≤ 400) (h7 : G5.2.2 f 7 = some c) (hx : x < S) {u : Int} (hu : -1 ≤ u ∧ u ≤ 200) (v2 v3 v4 : Int32) (k28 : Grp → Grp → Nat → Nat → Int32 → Int32 → Int32 → Int32 → Option Grp) : f_X2_reachByNothing_b109 F k5 k28 G4 G5 f v v2 v3 v4 (iI x) (iI u) = f_X2_reachByNothing_b138 F k5 k28 G4 G5 f v v2 v3 v4 (iI x) (iI (nv2 (gph G4 v) (ar G5 c) x u)) := by
  obtain ⟨w1, w2, w3, w4, w5, w6⟩ := hw x hx
  have ho : G4.1 (v + 3) x = iI ((gph G4 v).2.2 x) := iI_of rfl
  unfold nv2 f_X2_reachByNothing_b109
  rw [ck_iI (by omega) (by omega) (by omega)]
  simp only [iI_cl (a := (x : Int)) (by omega) (by omega), Int.toNat_natCast, ho, h7, om_s, bn_eq]
  have hl : (iI ((gph G4 v).2.2 x) < 0) ↔ (gph G4 v).2.2 x < 0 := iI_lt (a := (gph G4 v).2.2 x) (b := 0) (by omega) (by omega) (by decide) (by decide)
  generalize (gph G4 v).2.2 x = o at *
  by_cases e : o < 0
  · rw [if_p (hl.mpr e), if_n (c := 0 ≤ o) (by omega)]
  · rw [if_n (fun z => e (hl.mp z)), if_p (c := 0 ≤ o) (by omega)]
    have hA : G5.1 c o.toNat = iI (ar G5 c o.toNat) := iI_of rfl
    have hb := ar_b G5 c o.toNat
    have mx := iI_mx (a := u) (b := ar G5 c o.toNat) (by omega) (by omega) hb.1 hb.2
    rw [ck_iI (by omega) (by omega) (by omega), ck_iI (by omega) (by omega) (by omega), iI_cl (a := o) (by omega) (by omega), hA, mx]
theorem b73_v {x : Nat} (hw : NW (gph G4 v) S) (hS : S ≤ 400) (h7 : G5.2.2 f 7 = some c) (hx : x < S) {u : Int} (hu : -1 ≤ u ∧ u ≤ 200) (v2 v3 v4 s0 : Int32) (k28 : Grp → Grp → Nat → Nat → Int32 → Int32 → Int32 → Int32 → Option Grp) : f_X2_reachByNothing_b73 F k5 k28 G4 G5 f v v2 v3 v4 (iI x) (iI u) s0 = f_X2_reachByNothing_b109 F k5 k28 G4 G5 f v v2 v3 v4 (iI x) (iI (if ¬ s0 = 0 ∧ 0 ≤ (gph G4 v).2.1 x then mx2 u (ar G5 c ((gph G4 v).2.1 x).toNat) else u)) := by
  obtain ⟨w1, w2, w3, w4, w5, w6⟩ := hw x hx
  have ho : G4.1 (v + 2) x = iI ((gph G4 v).2.1 x) := iI_of rfl
  unfold f_X2_reachByNothing_b73
  by_cases s : s0 = 0
  · rw [if_p s, if_n (c := ¬ s0 = 0 ∧ _) (fun z => z.1 s)]
  · rw [if_n s, ck_iI (by omega) (by omega) (by omega)]
    simp only [iI_cl (a := (x : Int)) (by omega) (by omega), Int.toNat_natCast, ho, h7, om_s, bn_eq]
    have hl : (iI ((gph G4 v).2.1 x) < 0) ↔ (gph G4 v).2.1 x < 0 := iI_lt (a := (gph G4 v).2.1 x) (b := 0) (by omega) (by omega) (by decide) (by decide)
    generalize (gph G4 v).2.1 x = o at *
    by_cases e : o < 0
    · rw [if_p (hl.mpr e), if_n (c := ¬ s0 = 0 ∧ 0 ≤ o) (by omega)]
    · rw [if_n (fun z => e (hl.mp z)), if_p (c := ¬ s0 = 0 ∧ 0 ≤ o) ⟨s, by omega⟩]
      have hA : G5.1 c o.toNat = iI (ar G5 c o.toNat) := iI_of rfl
      have hb := ar_b G5 c o.toNat
      have mx := iI_mx (a := u) (b := ar G5 c o.toNat) (by omega) (by omega) hb.1 hb.2
      rw [ck_iI (by omega) (by omega) (by omega), ck_iI (by omega) (by omega) (by omega), iI_cl (a := o) (by omega) (by omega), hA, mx]
theorem nv_b {g : Gr} {bd : Prop} {A : Nat → Int} {n : Int} {x : Nat} (hw : NW g S) (hx : x < S) (hA : ∀ y, y < S → -1 ≤ A y ∧ A y ≤ n) : (-1 ≤ nv1 g bd A x ∧ nv1 g bd A x ≤ n) ∧ (-1 ≤ nv2 g A x (nv1 g bd A x) ∧ nv2 g A x (nv1 g bd A x) ≤ n) := by
  obtain ⟨w1, w2, w3, w4, w5, w6⟩ := hw x hx
  have a0 := hA x hx
  have r1 : -1 ≤ nv1 g bd A x ∧ nv1 g bd A x ≤ n := by
    unfold nv1
    by_cases e : (g.1 x = 0 ∨ (g.1 x = 94 ∧ bd)) ∧ 0 ≤ g.2.1 x
    · rw [@if_pos _ (clD _) e]
      have a1 := hA (g.2.1 x).toNat (by omega)
      rcases mx2_c (A x) (A (g.2.1 x).toNat) with z | z
      · rw [z]; exact a0
      · rw [z]; exact a1
    · rw [@if_neg _ (clD _) e]; exact a0
  refine ⟨r1, ?_⟩
  unfold nv2
  by_cases e : 0 ≤ g.2.2 x
  · rw [if_pos e]
    have a1 := hA (g.2.2 x).toNat (by omega)
    rcases mx2_c (nv1 g bd A x) (A (g.2.2 x).toNat) with z | z
    · rw [z]; exact r1
    · rw [z]; exact a1
  · rw [if_neg e]; exact r1
/-- the border's flag -/
theorem l28_s {x : Nat} {bd : Prop} {v2 : Int32} (hbd : v2 = @bI bd (clD _)) (hw : NW (gph G4 v) S) (hS : S ≤ 400) (h7 : G5.2.2 f 7 = some c) (hx : x < S) (hA : ∀ y, y < S → -1 ≤ ar G5 c y ∧ ar G5 c y ≤ 160) {gr : Int} (hg : gr = 0 ∨ gr = 1) (v4 : Int32) (fu : Nat) : f_X2_reachByNothing_l28 F k5 (fu + 1) G4 G5 f v v2 (iI gr) v4 (iI x) = f_X2_reachByNothing_l28 F k5 fu G4 (gI G5 c x (iI (nv2 (gph G4 v) (ar G5 c) x (nv1 (gph G4 v) bd (ar G5 c) x)))) f v v2 (iI (if gr = 0 ∧ nv2 (gph G4 v) (ar G5 c) x (nv1 (gph G4 v) bd (ar G5 c) x) ≤ ar G5 c x then 0 else 1)) v4 (iI ((x : Int) - 1)) := by
  have nb := nv_b (bd := bd) hw hx hA
  have a0 := hA x hx
  have w := hw x hx
  have hk : G4.1 (v + 1) x = iI ((gph G4 v).1 x) := iI_of rfl
  have hc : G5.1 c x = iI (ar G5 c x) := iI_of rfl
  have st : ∀ s0 : Int32, (¬ s0 = 0 ↔ ((gph G4 v).1 x = 0 ∨ ((gph G4 v).1 x = 94 ∧ bd))) → f_X2_reachByNothing_b73 F k5 (f_X2_reachByNothing_l28 F k5 fu) G4 G5 f v v2 (iI gr) v4 (iI x) (iI (ar G5 c x)) s0 = f_X2_reachByNothing_l28 F k5 fu G4 (gI G5 c x (iI (nv2 (gph G4 v) (ar G5 c) x (nv1 (gph G4 v) bd (ar G5 c) x)))) f v v2 (iI (if gr = 0 ∧ nv2 (gph G4 v) (ar G5 c) x (nv1 (gph G4 v) bd (ar G5 c) x) ≤ ar G5 c x then 0 else 1)) v4 (iI ((x : Int) - 1)) := by
    intro s0 hs
    rw [b73_v hw hS h7 hx (by omega)]
    have e : (if ¬ s0 = 0 ∧ 0 ≤ (gph G4 v).2.1 x then mx2 (ar G5 c x) (ar G5 c ((gph G4 v).2.1 x).toNat) else ar G5 c x) = nv1 (gph G4 v) bd (ar G5 c) x := by
      unfold nv1
      by_cases q : ((gph G4 v).1 x = 0 ∨ ((gph G4 v).1 x = 94 ∧ bd)) ∧ 0 ≤ (gph G4 v).2.1 x
      · rw [@if_pos _ (clD _) q, if_pos ⟨hs.mpr q.1, q.2⟩]
      · rw [@if_neg _ (clD _) q, if_neg (fun z => q ⟨hs.mp z.1, z.2⟩)]
    rw [e, b109_v hw hS h7 hx (by omega), b138_v h7 (by omega) (by omega) hg]
  show f_X2_reachByNothing_l28b F k5 (f_X2_reachByNothing_l28 F k5 fu) G4 G5 f v v2 (iI gr) v4 (iI x) = _
  have l0 : ¬ (iI (x : Int) < 0) := fun z => by
    have := (iI_lt (a := (x : Int)) (b := 0) (by omega) (by omega) (by decide) (by decide)).mp z
    omega
  have q0 : (iI ((gph G4 v).1 x) = 0) ↔ (gph G4 v).1 x = 0 := iI_eq (a := (gph G4 v).1 x) (b := 0) (by omega) (by omega) (by decide) (by decide)
  have q1 : (iI ((gph G4 v).1 x) = 94) ↔ (gph G4 v).1 x = 94 := iI_eq (a := (gph G4 v).1 x) (b := 94) (by omega) (by omega) (by decide) (by decide)
  unfold f_X2_reachByNothing_l28b f_X2_reachByNothing_b68 f_X2_reachByNothing_b72
  simp only [iI_cl (a := (x : Int)) (by omega) (by omega), Int.toNat_natCast, hk, h7, hc, om_s, bn_eq]
  rw [if_n l0, ck_iI (by omega) (by omega) (by omega), ck_iI (by omega) (by omega) (by omega)]
  by_cases k0 : (gph G4 v).1 x = 0
  · rw [if_p (q0.mpr k0), st _ ⟨fun _ => Or.inl k0, fun _ => by decide⟩]
  · rw [if_n (fun z => k0 (q0.mp z)), ck_iI (by omega) (by omega) (by omega)]
    by_cases k1 : (gph G4 v).1 x = 94
    · rw [if_p (q1.mpr k1)]
      by_cases b : bd
      · have e : ¬ v2 = 0 := by rw [hbd, @bI_t _ (clD _) b]; decide
        rw [if_n e, st _ ⟨fun _ => Or.inr ⟨k1, b⟩, fun _ => by decide⟩]
      · have e : v2 = 0 := by rw [hbd, @bI_f _ (clD _) b]
        rw [if_p e, st _ ⟨fun z => absurd rfl z, fun z => z.elim (fun z => absurd z k0) (fun z => absurd z.2 b)⟩]
    · rw [if_n (fun z => k1 (q1.mp z)), st _ ⟨fun z => absurd rfl z, fun z => z.elim (fun z => absurd z k0) (fun z => absurd z.1 k1)⟩]
end PR
