/-! letters moved; a sack emptied, or lost -/
def mv (L : Nat → Nat → Int) (i : Nat) (s d : Int) : Nat → Nat → Int := fun j k => if j = i then (if k = 8 then s else if k = 9 then d else L j k) else L j k
theorem mv_8 {L : Nat → Nat → Int} {i : Nat} {s d : Int} : mv L i s d i 8 = s := by
  unfold mv
  rw [if_pos rfl, if_pos rfl]
theorem mv_9 {L : Nat → Nat → Int} {i : Nat} {s d : Int} : mv L i s d i 9 = d := by
  unfold mv
  rw [if_pos rfl, if_neg (by decide), if_pos rfl]
theorem mv_o {L : Nat → Nat → Int} {i j k : Nat} {s d : Int} (h : j ≠ i ∨ (k ≠ 8 ∧ k ≠ 9)) : mv L i s d j k = L j k := by
  unfold mv
  by_cases e : j = i
  · rw [if_pos e, if_neg (by omega), if_neg (by omega)]
  · rw [if_neg e]
/-- what no move changes that other pictures see -/
def KP (ln : Nat) (L L' : Nat → Nat → Int) : Prop := ∀ j, j < ln → L' j 0 = L j 0 ∧ L' j 1 = L j 1 ∧ (L' j 8 = 0 ↔ L j 8 = 0) ∧ (L' j 8 = 6 ↔ L j 8 = 6) ∧ (L j 8 = 6 → L' j 9 = L j 9)
theorem KP.rf (ln : Nat) (L : Nat → Nat → Int) : KP ln L L := fun _ _ => ⟨rfl, rfl, Iff.rfl, Iff.rfl, fun _ => rfl⟩
theorem KP.tr {ln : Nat} {L L1 L2 : Nat → Nat → Int} (h : KP ln L L1) (h2 : KP ln L1 L2) : KP ln L L2 := fun j hj => by
  obtain ⟨a1, a2, a3, a4, a5⟩ := h j hj
  obtain ⟨b1, b2, b3, b4, b5⟩ := h2 j hj
  exact ⟨b1.trans a1, b2.trans a2, b3.trans a3, b4.trans a4, fun z => (b5 (a4.mpr z)).trans (a5 z)⟩
theorem KP.mvK {ln i : Nat} {L : Nat → Nat → Int} {s d : Int} (h : L i 8 ≠ 0 ∧ L i 8 ≠ 6) (hs : s ≠ 0 ∧ s ≠ 6) : KP ln L (mv L i s d) := fun j hj => by
  by_cases e : j = i
  · subst e
    refine ⟨mv_o (Or.inr (by omega)), mv_o (Or.inr (by omega)), ?_, ?_, fun z => absurd z h.2⟩
    · rw [mv_8]; exact ⟨fun z => absurd z hs.1, fun z => absurd z h.1⟩
    · rw [mv_8]; exact ⟨fun z => absurd z hs.2, fun z => absurd z h.2⟩
  · rw [mv_o (Or.inl e), mv_o (Or.inl e), mv_o (Or.inl e), mv_o (Or.inl e)]
    exact ⟨rfl, rfl, Iff.rfl, Iff.rfl, fun _ => rfl⟩
theorem lcs_congr {L L' : Nat → Nat → Int} {ln p : Nat} {fr : Int} (h : KP ln L L') : ∀ k, k ≤ ln → lcs L' p fr k = lcs L p fr k := by
  intro k
  induction k with
  | zero => intro _; rfl
  | succ k ih =>
    intro hk
    obtain ⟨a1, a2, a3, a4, a5⟩ := h k (by omega)
    rw [lcs_s, lcs_s, ih (by omega), a1, a2]
    by_cases c : L k 8 = 6
    · rw [a5 c]
      by_cases c2 : L k 0 = p ∧ L k 1 = 0 ∧ L k 8 = 6 ∧ lcs L p fr k < L k 9
      · rw [if_pos c2, if_pos ⟨c2.1, c2.2.1, a4.mpr c, c2.2.2.2⟩]
      · rw [if_neg c2, if_neg fun z => c2 ⟨z.1, z.2.1, c, z.2.2.2⟩]
    · rw [if_neg fun z => c (a4.mp z.2.2.1), if_neg fun z => c z.2.2.1]
theorem RSil.kp {pn d ln : Nat} {P L L' : Nat → Nat → Int} (h : RSil pn d ln P L) (hk : KP ln L L') : RSil pn d ln P L' := fun p hp => by
  obtain ⟨a1, a2, a3⟩ := h p hp
  refine ⟨?_, a2, by rw [lcs_congr hk ln (Nat.le_refl _)]; exact a3⟩
  rw [a1]
  congr 1
  exact cnt_congr fun i hi => by rw [(hk i hi).1]
/-- no more sacks than letters that went -/
def WT (sn ln : Nat) (L : Nat → Nat → Int) : Prop := sn + cnt (fun i => L i 8 = 0) ln ≤ ln
theorem WT.kp {sn ln : Nat} {L L' : Nat → Nat → Int} (h : WT sn ln L) (hk : KP ln L L') : WT sn ln L' := by
  unfold WT at *
  rw [cnt_congr (p := fun i => L' i 8 = 0) (q := fun i => L i 8 = 0) fun i hi => (hk i hi).2.2.1]
  exact h
/-- SACKS of both -/
def RSack (G11 G35 : Grp) (sn : Nat) : Prop := sn ≤ 200 ∧ G11.1 44 2 = iI sn ∧ G35.1 91 58 = iI sn ∧ ∀ s, s < sn → G11.1 46 s = G35.1 144 s ∧ G11.1 47 s = G35.1 145 s ∧ G11.1 48 s = G35.1 146 s
/-- the first k letters, those of sack q moved -/
def emL (L : Nat → Nat → Int) (q : Nat) (s d : Int) (k : Nat) : Nat → Nat → Int := fun j a => if j < k ∧ L j 8 = 1 ∧ L j 10 = q then (if a = 8 then s else if a = 9 then d else L j a) else L j a
theorem emL_0 {L : Nat → Nat → Int} {q : Nat} {s d : Int} : emL L q s d 0 = L := by
  funext j a
  unfold emL
  rw [if_neg fun z => absurd z.1 (Nat.not_lt_zero j)]
theorem emL_at {L : Nat → Nat → Int} {q k : Nat} {s d : Int} (a : Nat) : emL L q s d k k a = L k a := by
  unfold emL
  rw [if_neg fun z => absurd z.1 (Nat.lt_irrefl k)]
theorem emL_t {L : Nat → Nat → Int} {q k : Nat} {s d : Int} (h : L k 8 = 1 ∧ L k 10 = q) : emL L q s d (k + 1) = mv (emL L q s d k) k s d := by
  funext j a
  by_cases e : j = k
  · subst e
    unfold mv
    rw [if_pos rfl, emL_at]
    unfold emL
    rw [if_pos ⟨by omega, h⟩]
  · rw [mv_o (Or.inl e)]
    unfold emL
    by_cases c : j < k ∧ L j 8 = 1 ∧ L j 10 = q
    · rw [if_pos c, if_pos ⟨by omega, c.2⟩]
    · rw [if_neg c, if_neg fun z => c ⟨by omega, z.2⟩]
theorem emL_f {L : Nat → Nat → Int} {q k : Nat} {s d : Int} (h : ¬ (L k 8 = 1 ∧ L k 10 = q)) : emL L q s d (k + 1) = emL L q s d k := by
  funext j a
  unfold emL
  by_cases c : j < k ∧ L j 8 = 1 ∧ L j 10 = q
  · rw [if_pos c, if_pos ⟨by omega, c.2⟩]
  · rw [if_neg c, if_neg fun z => c ⟨by
      by_cases e : j = k
      · subst e; exact absurd z.2 h
      · omega, z.2⟩]
theorem emL_o {L : Nat → Nat → Int} {q k j a : Nat} {s d : Int} (h : a ≠ 8 ∧ a ≠ 9) : emL L q s d k j a = L j a := by
  unfold emL
  split
  · rw [if_neg h.1, if_neg h.2]
  · rfl
theorem emL_kp {L : Nat → Nat → Int} {q ln : Nat} {s d : Int} (hs : s ≠ 0 ∧ s ≠ 6) : ∀ k, KP ln L (emL L q s d k) := by
  intro k
  induction k with
  | zero => rw [emL_0]; exact KP.rf _ _
  | succ k ih =>
    by_cases c : L k 8 = 1 ∧ L k 10 = q
    · rw [emL_t c]
      refine ih.tr (KP.mvK ?_ hs)
      rw [emL_at]; omega
    · rw [emL_f c]; exact ih
section PR
variable {F : Nat} {G1 G2 G3 G4 G5 G6 G7 G8 G9 G10 G11 G12 G13 G14 G15 G23 G24 G25 G26 G32 G33 G34 G35 G36 G41 : Grp} {gn cn d n pn ln tn sn : Nat} {tp tl Ln : Nat → Nat} {P L T : Nat → Nat → Int} {X : Nat → Nat → Nat} {f : Nat → Int}
theorem tl_inj (hc : LC G10 G13 n ln tp tl L) {i j : Nat} (hi : i < ln) (hj : j < ln) (e : tl i = tl j) : i = j := by
  by_cases c : i < j
  · have := hc.2.2.1 j i hj c; omega
  · by_cases c2 : j < i
    · have := hc.2.2.1 i j hi c2; omega
    · omega
theorem mv_c (hc : LC G10 G13 n ln tp tl L) {i : Nat} (hi : i < ln) (s t : Int) : LC G10 (gI (gI G13 (tl i) 8 (iI s)) (tl i) 9 (iI t)) n ln tp tl (mv L i s t) := by
  obtain ⟨h0, h1, h2, h3⟩ := id hc
  refine ⟨h0, fun j hj => ?_, h2, fun a ha => ?_⟩
  · obtain ⟨a1, a2, a3, a4⟩ := h1 j hj
    refine ⟨a1, ?_, fun k hk hl => ?_, a4⟩
    · rw [mv_o (Or.inr (by omega))]; exact a2
    · rw [gI_g, gI_g]
      by_cases e : j = i
      · subst e
        by_cases e8 : k = 8
        · subst e8
          rw [if_neg (by omega), if_pos ⟨rfl, rfl⟩, mv_8]
        · by_cases e9 : k = 9
          · subst e9
            rw [if_pos ⟨rfl, rfl⟩, mv_9]
          · rw [if_neg (by omega), if_neg (by omega), mv_o (Or.inr ⟨e8, e9⟩)]
            exact a3 k hk hl
      · have ne : ¬ tl j = tl i := fun z => e (tl_inj hc hj hi z)
        rw [if_neg fun z => ne z.1, if_neg fun z => ne z.1, mv_o (Or.inl e)]
        exact a3 k hk hl
  · rw [gI_g, gI_g, if_neg (by omega), if_neg (by omega)]
    exact h3 a ha
theorem lk_c {k : Nat} (h : lk k) : k = 0 ∨ k = 1 ∨ k = 2 ∨ k = 6 ∨ k = 7 ∨ k = 8 ∨ k = 9 ∨ k = 10 ∨ k = 11 := by unfold lk at h; omega
theorem mc_8 {k : Nat} (h : lk k) : (mc k = 135 ↔ k = 8) ∧ (mc k = 136 ↔ k = 9) ∧ (mc k = 140 ↔ k = 7) ∧ mc k ≠ 143 ∧ (mc k = 138 ↔ k = 11) ∧ (mc k = 137 ↔ k = 10) ∧ (mc k = 139 ↔ k = 6) ∧ mc k ≠ 91 := by
  rcases lk_c h with rfl | rfl | rfl | rfl | rfl | rfl | rfl | rfl | rfl <;> decide
theorem mv_m (hm : LM G32 ln L) {i : Nat} (hi : i < ln) (s t : Int) : LM (gI (gI G32 135 i (iI s)) 136 i (iI t)) ln (mv L i s t) := by
  obtain ⟨h0, h1, h2⟩ := id hm
  refine ⟨?_, fun j hj k hk => ?_, fun j hj => ?_⟩
  · rw [gI_g, gI_g, if_neg (by omega), if_neg (by omega)]; exact h0
  · rw [gI_g, gI_g]
    obtain ⟨w1, w2, -⟩ := mc_8 hk
    by_cases e : j = i
    · subst e
      by_cases e8 : k = 8
      · subst e8
        rw [if_neg (by rw [w1.mpr rfl]; omega), if_pos ⟨w1.mpr rfl, rfl⟩, mv_8]
      · by_cases e9 : k = 9
        · subst e9
          rw [if_pos ⟨w2.mpr rfl, rfl⟩, mv_9]
        · rw [if_neg fun z => e9 (w2.mp z.1), if_neg fun z => e8 (w1.mp z.1), mv_o (Or.inr ⟨e8, e9⟩)]
          exact h1 j hj k hk
    · rw [if_neg fun z => e z.2, if_neg fun z => e z.2, mv_o (Or.inl e)]
      exact h1 j hj k hk
  · rw [gI_g, gI_g, if_neg (by omega), if_neg (by omega)]
    exact h2 j hj
theorem moves_m (hl : ln ≤ 200) (h23 : G23.1 91 0 = iI d) {i : Nat} (hi : i < ln) (s : Int) : f_X12_moves F G23 G32 (iI i) (iI s) = some (gI (gI G32 135 i (iI s)) 136 i (iI d)) := by
  simp (disch := omega) only [reduceIte, Nat.reduceEqDiff, Nat.reduceAdd, Nat.reduceSub, Nat.reduceMul, Nat.reduceLT, Int.reduceNeg, Int.reduceAdd, Int.reduceSub, Int.reduceMul, Int.reduceLT, Int.reduceLE, Int.reduceEq, Int.reduceToNat, reduceCtorEq, and_self, and_true, true_and, false_and, and_false, or_false, false_or, or_true, true_or, true_implies, false_implies, implies_true, not_true_eq_false, not_false_eq_true, Int.toNat_natCast, Int.cast_ofNat_Int, eq_self, ne_eq, ite_true, ite_false, if_true, if_false, Int.add_sub_cancel, Int.sub_add_cancel, Int.add_zero, Int.zero_add, cast_s, iI_in, iI_lit, iI_le, iI_lt, iI_eq, iI_cl, iI_add, iI_sub, iI_mul, iI_neg, iI_nI, ok_s, ok_ck, ok_bn, ok_ob, ck_iI, bn_eq, ob_s, om_n, om_s, cb_bI, gI_g, gI_2, gJ_1, gJ_g, gJ_2, gR_1, gR_2, gR_g, within_v, in_v, bI_i0, bI_i1, iI_bI0, iI_bI1, bI_T, bI_F, f_X12_moves, h23]
theorem mv_b (hb : LB pn d ln L) {i : Nat} {s : Int} (hs : 0 ≤ s ∧ s ≤ 8) : LB pn d ln (mv L i s d) := by
  obtain ⟨h0, h1⟩ := hb
  refine ⟨h0, fun j hj => ?_⟩
  obtain ⟨p1, p2, p3, p4, p5, p6⟩ := h1 j hj
  by_cases e : j = i
  · subst e
    rw [mv_8, mv_9, mv_o (Or.inr (by omega)), mv_o (Or.inr (by omega)), mv_o (Or.inr (by omega)), mv_o (Or.inr (by omega))]
    exact ⟨p1, p2, p3, hs, by omega, p6⟩
  · rw [mv_o (Or.inl e), mv_o (Or.inl e), mv_o (Or.inl e), mv_o (Or.inl e), mv_o (Or.inl e), mv_o (Or.inl e)]
    exact ⟨p1, p2, p3, p4, p5, p6⟩
theorem emL_b (hb : LB pn d ln L) {q : Nat} {s : Int} (hs : 0 ≤ s ∧ s ≤ 8) : ∀ k, LB pn d ln (emL L q s d k) := by
  intro k
  induction k with
  | zero => rw [emL_0]; exact hb
  | succ k ih =>
    by_cases c : L k 8 = 1 ∧ L k 10 = q
    · rw [emL_t c]; exact mv_b ih hs
    · rw [emL_f c]; exact ih
theorem TXS.fr {G32' : Grp} {L' : Nat → Nat → Int} (h : TXS G3 G32 ln tl Ln L X) (h1 : ∀ i, i < ln → L' i 6 = L i 6) (h2 : ∀ k, G32'.1 143 k = G32.1 143 k) : TXS G3 G32' ln tl Ln L' X := fun i hi => by
  obtain ⟨a1, a2, a3, a4⟩ := h i hi
  rw [h1 i hi]
  refine ⟨a1, a2, a3, fun j hj => ?_⟩
  rw [h2]
  exact a4 j hj
abbrev emP (L : Nat → Nat → Int) (q : Nat) (i : Nat) : Prop := L i 8 = 1 ∧ L i 10 = q
theorem emp_c (hb : LB pn d ln L) (hd : d < 3600) {q : Nat} {s : Int} (hs : 0 ≤ s ∧ s ≤ 8) (hq : q < 200) (hF : 200000 ≤ F) (hc : LC G10 G13 n ln tp tl L) : ∃ G13', f_X6_empty_l16 F F G10 G11 G13 (iI q) (iI s) (iI d) (iI 0) (iI 0) = some (iI (cnt (emP L q) ln), gI G11 48 q (vp_nar .boolean 0), G13') ∧ LC G10 G13' n ln tp tl (emL L q s d ln) := by
  have hl := hb.1
  have key := up_ind (n := ln) (Q := fun fu i => ∀ G13, LC G10 G13 n ln tp tl (emL L q s d i) → ∃ G13', f_X6_empty_l16 F fu G10 G11 G13 (iI q) (iI s) (iI d) (iI (cnt (emP L q) i)) (iI i) = some (iI (cnt (emP L q) ln), gI G11 48 q (vp_nar .boolean 0), G13') ∧ LC G10 G13' n ln tp tl (emL L q s d ln)) ?_ ?_
  · exact key 0 F (by omega) (by omega) G13 (by rw [emL_0]; exact hc)
  · intro fu G13 hc
    have h0 := hc.1
    refine ⟨G13, ?_, hc⟩
    have e : (ln : Int) ≤ ln := Int.le_refl _
    show f_X6_empty_l16b F (f_X6_empty_l16 F fu) G10 G11 G13 _ _ _ _ _ = _
    simp (disch := omega) only [reduceIte, Nat.reduceEqDiff, Nat.reduceAdd, Nat.reduceSub, Nat.reduceMul, Nat.reduceLT, Int.reduceNeg, Int.reduceAdd, Int.reduceSub, Int.reduceMul, Int.reduceLT, Int.reduceLE, Int.reduceEq, Int.reduceToNat, reduceCtorEq, and_self, and_true, true_and, false_and, and_false, or_false, false_or, or_true, true_or, true_implies, false_implies, implies_true, not_true_eq_false, not_false_eq_true, Int.toNat_natCast, Int.cast_ofNat_Int, eq_self, ne_eq, ite_true, ite_false, if_true, if_false, Int.add_sub_cancel, Int.sub_add_cancel, Int.add_zero, Int.zero_add, cast_s, iI_in, iI_lit, iI_le, iI_lt, iI_eq, iI_cl, iI_add, iI_sub, iI_mul, iI_neg, iI_nI, ok_s, ok_ck, ok_bn, ok_ob, ck_iI, bn_eq, ob_s, om_n, om_s, cb_bI, gI_g, gI_2, gJ_1, gJ_g, gJ_2, gR_1, gR_2, gR_g, within_v, in_v, bI_i0, bI_i1, iI_bI0, iI_bI1, bI_T, bI_F, f_X6_empty_l16b, h0, e]
  · intro i fu hi ih G13 hc
    have h0 := hc.1
    have e : ¬ (ln : Int) ≤ i := by omega
    obtain ⟨q0, q0', q1, q2, q6, q7, q8, q9, q10, q11⟩ := hc.at hi
    rw [emL_at] at q8 q10
    obtain ⟨p1, p2, p3, p4, p5, p6⟩ := hb.2 i hi
    have := cnt_le (emP L q) i
    by_cases k1 : L i 8 = 1
    · by_cases k2 : L i 10 = q
      · rw [emL_t ⟨k1, k2⟩, cnt_t (p := emP L q) ⟨k1, k2⟩] at ih
        obtain ⟨G13', r1, r2⟩ := ih _ (mv_c hc hi s d)
        simp (disch := omega) only [reduceIte, Nat.reduceEqDiff, Nat.reduceAdd, Nat.reduceSub, Nat.reduceMul, Nat.reduceLT, Int.reduceNeg, Int.reduceAdd, Int.reduceSub, Int.reduceMul, Int.reduceLT, Int.reduceLE, Int.reduceEq, Int.reduceToNat, reduceCtorEq, and_self, and_true, true_and, false_and, and_false, or_false, false_or, or_true, true_or, true_implies, false_implies, implies_true, not_true_eq_false, not_false_eq_true, Int.toNat_natCast, Int.cast_ofNat_Int, eq_self, ne_eq, ite_true, ite_false, if_true, if_false, Int.add_sub_cancel, Int.sub_add_cancel, Int.add_zero, Int.zero_add, cast_s] at r1
        refine ⟨G13', ?_, r2⟩
        show f_X6_empty_l16b F (f_X6_empty_l16 F fu) G10 G11 G13 _ _ _ _ _ = _
        simp (disch := omega) only [reduceIte, Nat.reduceEqDiff, Nat.reduceAdd, Nat.reduceSub, Nat.reduceMul, Nat.reduceLT, Int.reduceNeg, Int.reduceAdd, Int.reduceSub, Int.reduceMul, Int.reduceLT, Int.reduceLE, Int.reduceEq, Int.reduceToNat, reduceCtorEq, and_self, and_true, true_and, false_and, and_false, or_false, false_or, or_true, true_or, true_implies, false_implies, implies_true, not_true_eq_false, not_false_eq_true, Int.toNat_natCast, Int.cast_ofNat_Int, eq_self, ne_eq, ite_true, ite_false, if_true, if_false, Int.add_sub_cancel, Int.sub_add_cancel, Int.add_zero, Int.zero_add, cast_s, iI_in, iI_lit, iI_le, iI_lt, iI_eq, iI_cl, iI_add, iI_sub, iI_mul, iI_neg, iI_nI, ok_s, ok_ck, ok_bn, ok_ob, ck_iI, bn_eq, ob_s, om_n, om_s, cb_bI, gI_g, gI_2, gJ_1, gJ_g, gJ_2, gR_1, gR_2, gR_g, within_v, in_v, bI_i0, bI_i1, iI_bI0, iI_bI1, bI_T, bI_F, f_X6_empty_l16b, f_X4_move, h0, e, q0, q8, k1, q10, eq_true k2]
        exact r1
      · rw [emL_f fun z => k2 z.2, cnt_f (p := emP L q) fun z => k2 z.2] at ih
        obtain ⟨G13', r1, r2⟩ := ih _ hc
        refine ⟨G13', ?_, r2⟩
        show f_X6_empty_l16b F (f_X6_empty_l16 F fu) G10 G11 G13 _ _ _ _ _ = _
        simp (disch := omega) only [reduceIte, Nat.reduceEqDiff, Nat.reduceAdd, Nat.reduceSub, Nat.reduceMul, Nat.reduceLT, Int.reduceNeg, Int.reduceAdd, Int.reduceSub, Int.reduceMul, Int.reduceLT, Int.reduceLE, Int.reduceEq, Int.reduceToNat, reduceCtorEq, and_self, and_true, true_and, false_and, and_false, or_false, false_or, or_true, true_or, true_implies, false_implies, implies_true, not_true_eq_false, not_false_eq_true, Int.toNat_natCast, Int.cast_ofNat_Int, eq_self, ne_eq, ite_true, ite_false, if_true, if_false, Int.add_sub_cancel, Int.sub_add_cancel, Int.add_zero, Int.zero_add, cast_s, iI_in, iI_lit, iI_le, iI_lt, iI_eq, iI_cl, iI_add, iI_sub, iI_mul, iI_neg, iI_nI, ok_s, ok_ck, ok_bn, ok_ob, ck_iI, bn_eq, ob_s, om_n, om_s, cb_bI, gI_g, gI_2, gJ_1, gJ_g, gJ_2, gR_1, gR_2, gR_g, within_v, in_v, bI_i0, bI_i1, iI_bI0, iI_bI1, bI_T, bI_F, f_X6_empty_l16b, h0, e, q0, q8, k1, q10, k2]
        exact r1
    · rw [emL_f fun z => k1 z.1, cnt_f (p := emP L q) fun z => k1 z.1] at ih
      obtain ⟨G13', r1, r2⟩ := ih _ hc
      refine ⟨G13', ?_, r2⟩
      show f_X6_empty_l16b F (f_X6_empty_l16 F fu) G10 G11 G13 _ _ _ _ _ = _
      simp (disch := omega) only [reduceIte, Nat.reduceEqDiff, Nat.reduceAdd, Nat.reduceSub, Nat.reduceMul, Nat.reduceLT, Int.reduceNeg, Int.reduceAdd, Int.reduceSub, Int.reduceMul, Int.reduceLT, Int.reduceLE, Int.reduceEq, Int.reduceToNat, reduceCtorEq, and_self, and_true, true_and, false_and, and_false, or_false, false_or, or_true, true_or, true_implies, false_implies, implies_true, not_true_eq_false, not_false_eq_true, Int.toNat_natCast, Int.cast_ofNat_Int, eq_self, ne_eq, ite_true, ite_false, if_true, if_false, Int.add_sub_cancel, Int.sub_add_cancel, Int.add_zero, Int.zero_add, cast_s, iI_in, iI_lit, iI_le, iI_lt, iI_eq, iI_cl, iI_add, iI_sub, iI_mul, iI_neg, iI_nI, ok_s, ok_ck, ok_bn, ok_ob, ck_iI, bn_eq, ob_s, om_n, om_s, cb_bI, gI_g, gI_2, gJ_1, gJ_g, gJ_2, gR_1, gR_2, gR_g, within_v, in_v, bI_i0, bI_i1, iI_bI0, iI_bI1, bI_T, bI_F, f_X6_empty_l16b, h0, e, q0, q8, k1]
      exact r1
theorem los_m (hb : LB pn d ln L) (hd : d < 3600) (h23 : G23.1 91 0 = iI d) {q : Nat} (hq : q < 200) (hF : 200000 ≤ F) (hm : LM G32 ln L) : ∃ G32', f_X12_lose_l34 F F G23 G32 G35 (iI q) (iI 0) (iI 0) = some (iI (cnt (emP L q) ln), G32', G35) ∧ LM G32' ln (emL L q 8 d ln) ∧ ∀ k, G32'.1 143 k = G32.1 143 k := by
  have hl := hb.1
  have key := up_ind (n := ln) (Q := fun fu i => ∀ G32, LM G32 ln (emL L q 8 d i) → ∃ G32', f_X12_lose_l34 F fu G23 G32 G35 (iI q) (iI (cnt (emP L q) i)) (iI i) = some (iI (cnt (emP L q) ln), G32', G35) ∧ LM G32' ln (emL L q 8 d ln) ∧ ∀ k, G32'.1 143 k = G32.1 143 k) ?_ ?_
  · exact key 0 F (by omega) (by omega) G32 (by rw [emL_0]; exact hm)
  · intro fu G32 hm
    have h0 := hm.1
    refine ⟨G32, ?_, hm, fun _ => rfl⟩
    have e : (ln : Int) ≤ ln := Int.le_refl _
    show f_X12_lose_l34b F (f_X12_lose_l34 F fu) G23 G32 G35 _ _ _ = _
    simp (disch := omega) only [reduceIte, Nat.reduceEqDiff, Nat.reduceAdd, Nat.reduceSub, Nat.reduceMul, Nat.reduceLT, Int.reduceNeg, Int.reduceAdd, Int.reduceSub, Int.reduceMul, Int.reduceLT, Int.reduceLE, Int.reduceEq, Int.reduceToNat, reduceCtorEq, and_self, and_true, true_and, false_and, and_false, or_false, false_or, or_true, true_or, true_implies, false_implies, implies_true, not_true_eq_false, not_false_eq_true, Int.toNat_natCast, Int.cast_ofNat_Int, eq_self, ne_eq, ite_true, ite_false, if_true, if_false, Int.add_sub_cancel, Int.sub_add_cancel, Int.add_zero, Int.zero_add, cast_s, iI_in, iI_lit, iI_le, iI_lt, iI_eq, iI_cl, iI_add, iI_sub, iI_mul, iI_neg, iI_nI, ok_s, ok_ck, ok_bn, ok_ob, ck_iI, bn_eq, ob_s, om_n, om_s, cb_bI, gI_g, gI_2, gJ_1, gJ_g, gJ_2, gR_1, gR_2, gR_g, within_v, in_v, bI_i0, bI_i1, iI_bI0, iI_bI1, bI_T, bI_F, f_X12_lose_l34b, h0, e]
  · intro i fu hi ih G32 hm
    have h0 := hm.1
    have e : ¬ (ln : Int) ≤ i := by omega
    obtain ⟨m0, m1, m2, m6, m7, m8, m9, m10, m11⟩ := hm.at hi
    rw [emL_at] at m8 m10
    obtain ⟨p1, p2, p3, p4, p5, p6⟩ := hb.2 i hi
    have := cnt_le (emP L q) i
    by_cases k1 : L i 8 = 1
    · by_cases k2 : L i 10 = q
      · rw [emL_t ⟨k1, k2⟩, cnt_t (p := emP L q) ⟨k1, k2⟩] at ih
        obtain ⟨G32', r1, r2, r3⟩ := ih _ (mv_m hm hi 8 d)
        simp (disch := omega) only [reduceIte, Nat.reduceEqDiff, Nat.reduceAdd, Nat.reduceSub, Nat.reduceMul, Nat.reduceLT, Int.reduceNeg, Int.reduceAdd, Int.reduceSub, Int.reduceMul, Int.reduceLT, Int.reduceLE, Int.reduceEq, Int.reduceToNat, reduceCtorEq, and_self, and_true, true_and, false_and, and_false, or_false, false_or, or_true, true_or, true_implies, false_implies, implies_true, not_true_eq_false, not_false_eq_true, Int.toNat_natCast, Int.cast_ofNat_Int, eq_self, ne_eq, ite_true, ite_false, if_true, if_false, Int.add_sub_cancel, Int.sub_add_cancel, Int.add_zero, Int.zero_add, cast_s] at r1
        refine ⟨G32', ?_, r2, fun k => ?_⟩
        · show f_X12_lose_l34b F (f_X12_lose_l34 F fu) G23 G32 G35 _ _ _ = _
          have mm := moves_m (F := F) (G32 := G32) hl h23 hi 8
          simp (disch := omega) only [reduceIte, Nat.reduceEqDiff, Nat.reduceAdd, Nat.reduceSub, Nat.reduceMul, Nat.reduceLT, Int.reduceNeg, Int.reduceAdd, Int.reduceSub, Int.reduceMul, Int.reduceLT, Int.reduceLE, Int.reduceEq, Int.reduceToNat, reduceCtorEq, and_self, and_true, true_and, false_and, and_false, or_false, false_or, or_true, true_or, true_implies, false_implies, implies_true, not_true_eq_false, not_false_eq_true, Int.toNat_natCast, Int.cast_ofNat_Int, eq_self, ne_eq, ite_true, ite_false, if_true, if_false, Int.add_sub_cancel, Int.sub_add_cancel, Int.add_zero, Int.zero_add, cast_s, iI_in, iI_lit, iI_le, iI_lt, iI_eq, iI_cl, iI_add, iI_sub, iI_mul, iI_neg, iI_nI, ok_s, ok_ck, ok_bn, ok_ob, ck_iI, bn_eq, ob_s, om_n, om_s, cb_bI, gI_g, gI_2, gJ_1, gJ_g, gJ_2, gR_1, gR_2, gR_g, within_v, in_v, bI_i0, bI_i1, iI_bI0, iI_bI1, bI_T, bI_F, f_X12_lose_l34b, h0, e, m8, k1, m10, eq_true k2, mm]
          exact r1
        · rw [r3, gI_g, gI_g, if_neg (by omega), if_neg (by omega)]
      · rw [emL_f fun z => k2 z.2, cnt_f (p := emP L q) fun z => k2 z.2] at ih
        obtain ⟨G32', r1, r2⟩ := ih _ hm
        refine ⟨G32', ?_, r2⟩
        show f_X12_lose_l34b F (f_X12_lose_l34 F fu) G23 G32 G35 _ _ _ = _
        simp (disch := omega) only [reduceIte, Nat.reduceEqDiff, Nat.reduceAdd, Nat.reduceSub, Nat.reduceMul, Nat.reduceLT, Int.reduceNeg, Int.reduceAdd, Int.reduceSub, Int.reduceMul, Int.reduceLT, Int.reduceLE, Int.reduceEq, Int.reduceToNat, reduceCtorEq, and_self, and_true, true_and, false_and, and_false, or_false, false_or, or_true, true_or, true_implies, false_implies, implies_true, not_true_eq_false, not_false_eq_true, Int.toNat_natCast, Int.cast_ofNat_Int, eq_self, ne_eq, ite_true, ite_false, if_true, if_false, Int.add_sub_cancel, Int.sub_add_cancel, Int.add_zero, Int.zero_add, cast_s, iI_in, iI_lit, iI_le, iI_lt, iI_eq, iI_cl, iI_add, iI_sub, iI_mul, iI_neg, iI_nI, ok_s, ok_ck, ok_bn, ok_ob, ck_iI, bn_eq, ob_s, om_n, om_s, cb_bI, gI_g, gI_2, gJ_1, gJ_g, gJ_2, gR_1, gR_2, gR_g, within_v, in_v, bI_i0, bI_i1, iI_bI0, iI_bI1, bI_T, bI_F, f_X12_lose_l34b, h0, e, m8, k1, m10, k2]
        exact r1
    · rw [emL_f fun z => k1 z.1, cnt_f (p := emP L q) fun z => k1 z.1] at ih
      obtain ⟨G32', r1, r2⟩ := ih _ hm
      refine ⟨G32', ?_, r2⟩
      show f_X12_lose_l34b F (f_X12_lose_l34 F fu) G23 G32 G35 _ _ _ = _
      simp (disch := omega) only [reduceIte, Nat.reduceEqDiff, Nat.reduceAdd, Nat.reduceSub, Nat.reduceMul, Nat.reduceLT, Int.reduceNeg, Int.reduceAdd, Int.reduceSub, Int.reduceMul, Int.reduceLT, Int.reduceLE, Int.reduceEq, Int.reduceToNat, reduceCtorEq, and_self, and_true, true_and, false_and, and_false, or_false, false_or, or_true, true_or, true_implies, false_implies, implies_true, not_true_eq_false, not_false_eq_true, Int.toNat_natCast, Int.cast_ofNat_Int, eq_self, ne_eq, ite_true, ite_false, if_true, if_false, Int.add_sub_cancel, Int.sub_add_cancel, Int.add_zero, Int.zero_add, cast_s, iI_in, iI_lit, iI_le, iI_lt, iI_eq, iI_cl, iI_add, iI_sub, iI_mul, iI_neg, iI_nI, ok_s, ok_ck, ok_bn, ok_ob, ck_iI, bn_eq, ob_s, om_n, om_s, cb_bI, gI_g, gI_2, gJ_1, gJ_g, gJ_2, gR_1, gR_2, gR_g, within_v, in_v, bI_i0, bI_i1, iI_bI0, iI_bI1, bI_T, bI_F, f_X12_lose_l34b, h0, e, m8, k1]
      exact r1
theorem com_m (hb : LB pn d ln L) (hd : d < 3600) (h23 : G23.1 91 0 = iI d) {q : Nat} (hq : q < 200) (hF : 200000 ≤ F) (hm : LM G32 ln L) (k2 : Grp → Grp → Grp → Int32 → Option (Grp × Grp)) : ∃ G32', f_X12_sacksCome_l51 F k2 F G23 G32 G35 (iI q) (iI 0) = k2 G23 G32' G35 (iI ((q : Int) + 1)) ∧ LM G32' ln (emL L q 2 d ln) ∧ ∀ k, G32'.1 143 k = G32.1 143 k := by
  have hl := hb.1
  have key := up_ind (n := ln) (Q := fun fu i => ∀ G32, LM G32 ln (emL L q 2 d i) → ∃ G32', f_X12_sacksCome_l51 F k2 fu G23 G32 G35 (iI q) (iI i) = k2 G23 G32' G35 (iI ((q : Int) + 1)) ∧ LM G32' ln (emL L q 2 d ln) ∧ ∀ k, G32'.1 143 k = G32.1 143 k) ?_ ?_
  · exact key 0 F (by omega) (by omega) G32 (by rw [emL_0]; exact hm)
  · intro fu G32 hm
    have h0 := hm.1
    refine ⟨G32, ?_, hm, fun _ => rfl⟩
    have e : (ln : Int) ≤ ln := Int.le_refl _
    show f_X12_sacksCome_l51b F k2 (f_X12_sacksCome_l51 F k2 fu) G23 G32 G35 _ _ = _
    simp (disch := omega) only [reduceIte, Nat.reduceEqDiff, Nat.reduceAdd, Nat.reduceSub, Nat.reduceMul, Nat.reduceLT, Int.reduceNeg, Int.reduceAdd, Int.reduceSub, Int.reduceMul, Int.reduceLT, Int.reduceLE, Int.reduceEq, Int.reduceToNat, reduceCtorEq, and_self, and_true, true_and, false_and, and_false, or_false, false_or, or_true, true_or, true_implies, false_implies, implies_true, not_true_eq_false, not_false_eq_true, Int.toNat_natCast, Int.cast_ofNat_Int, eq_self, ne_eq, ite_true, ite_false, if_true, if_false, Int.add_sub_cancel, Int.sub_add_cancel, Int.add_zero, Int.zero_add, cast_s, iI_in, iI_lit, iI_le, iI_lt, iI_eq, iI_cl, iI_add, iI_sub, iI_mul, iI_neg, iI_nI, ok_s, ok_ck, ok_bn, ok_ob, ck_iI, bn_eq, ob_s, om_n, om_s, cb_bI, gI_g, gI_2, gJ_1, gJ_g, gJ_2, gR_1, gR_2, gR_g, within_v, in_v, bI_i0, bI_i1, iI_bI0, iI_bI1, bI_T, bI_F, f_X12_sacksCome_l51b, h0, e]
  · intro i fu hi ih G32 hm
    have h0 := hm.1
    have e : ¬ (ln : Int) ≤ i := by omega
    obtain ⟨m0, m1, m2, m6, m7, m8, m9, m10, m11⟩ := hm.at hi
    rw [emL_at] at m8 m10
    obtain ⟨p1, p2, p3, p4, p5, p6⟩ := hb.2 i hi
    by_cases k1 : L i 8 = 1
    · by_cases k3 : L i 10 = q
      · rw [emL_t ⟨k1, k3⟩] at ih
        obtain ⟨G32', r1, r2, r3⟩ := ih _ (mv_m hm hi 2 d)
        refine ⟨G32', ?_, r2, fun k => ?_⟩
        · show f_X12_sacksCome_l51b F k2 (f_X12_sacksCome_l51 F k2 fu) G23 G32 G35 _ _ = _
          have mm := moves_m (F := F) (G32 := G32) hl h23 hi 2
          simp (disch := omega) only [reduceIte, Nat.reduceEqDiff, Nat.reduceAdd, Nat.reduceSub, Nat.reduceMul, Nat.reduceLT, Int.reduceNeg, Int.reduceAdd, Int.reduceSub, Int.reduceMul, Int.reduceLT, Int.reduceLE, Int.reduceEq, Int.reduceToNat, reduceCtorEq, and_self, and_true, true_and, false_and, and_false, or_false, false_or, or_true, true_or, true_implies, false_implies, implies_true, not_true_eq_false, not_false_eq_true, Int.toNat_natCast, Int.cast_ofNat_Int, eq_self, ne_eq, ite_true, ite_false, if_true, if_false, Int.add_sub_cancel, Int.sub_add_cancel, Int.add_zero, Int.zero_add, cast_s, iI_in, iI_lit, iI_le, iI_lt, iI_eq, iI_cl, iI_add, iI_sub, iI_mul, iI_neg, iI_nI, ok_s, ok_ck, ok_bn, ok_ob, ck_iI, bn_eq, ob_s, om_n, om_s, cb_bI, gI_g, gI_2, gJ_1, gJ_g, gJ_2, gR_1, gR_2, gR_g, within_v, in_v, bI_i0, bI_i1, iI_bI0, iI_bI1, bI_T, bI_F, f_X12_sacksCome_l51b, h0, e, m8, k1, m10, eq_true k3, mm]
          exact r1
        · rw [r3, gI_g, gI_g, if_neg (by omega), if_neg (by omega)]
      · rw [emL_f fun z => k3 z.2] at ih
        obtain ⟨G32', r1, r2⟩ := ih _ hm
        refine ⟨G32', ?_, r2⟩
        show f_X12_sacksCome_l51b F k2 (f_X12_sacksCome_l51 F k2 fu) G23 G32 G35 _ _ = _
        simp (disch := omega) only [reduceIte, Nat.reduceEqDiff, Nat.reduceAdd, Nat.reduceSub, Nat.reduceMul, Nat.reduceLT, Int.reduceNeg, Int.reduceAdd, Int.reduceSub, Int.reduceMul, Int.reduceLT, Int.reduceLE, Int.reduceEq, Int.reduceToNat, reduceCtorEq, and_self, and_true, true_and, false_and, and_false, or_false, false_or, or_true, true_or, true_implies, false_implies, implies_true, not_true_eq_false, not_false_eq_true, Int.toNat_natCast, Int.cast_ofNat_Int, eq_self, ne_eq, ite_true, ite_false, if_true, if_false, Int.add_sub_cancel, Int.sub_add_cancel, Int.add_zero, Int.zero_add, cast_s, iI_in, iI_lit, iI_le, iI_lt, iI_eq, iI_cl, iI_add, iI_sub, iI_mul, iI_neg, iI_nI, ok_s, ok_ck, ok_bn, ok_ob, ck_iI, bn_eq, ob_s, om_n, om_s, cb_bI, gI_g, gI_2, gJ_1, gJ_g, gJ_2, gR_1, gR_2, gR_g, within_v, in_v, bI_i0, bI_i1, iI_bI0, iI_bI1, bI_T, bI_F, f_X12_sacksCome_l51b, h0, e, m8, k1, m10, k3]
        exact r1
    · rw [emL_f fun z => k1 z.1] at ih
      obtain ⟨G32', r1, r2⟩ := ih _ hm
      refine ⟨G32', ?_, r2⟩
      show f_X12_sacksCome_l51b F k2 (f_X12_sacksCome_l51 F k2 fu) G23 G32 G35 _ _ = _
      simp (disch := omega) only [reduceIte, Nat.reduceEqDiff, Nat.reduceAdd, Nat.reduceSub, Nat.reduceMul, Nat.reduceLT, Int.reduceNeg, Int.reduceAdd, Int.reduceSub, Int.reduceMul, Int.reduceLT, Int.reduceLE, Int.reduceEq, Int.reduceToNat, reduceCtorEq, and_self, and_true, true_and, false_and, and_false, or_false, false_or, or_true, true_or, true_implies, false_implies, implies_true, not_true_eq_false, not_false_eq_true, Int.toNat_natCast, Int.cast_ofNat_Int, eq_self, ne_eq, ite_true, ite_false, if_true, if_false, Int.add_sub_cancel, Int.sub_add_cancel, Int.add_zero, Int.zero_add, cast_s, iI_in, iI_lit, iI_le, iI_lt, iI_eq, iI_cl, iI_add, iI_sub, iI_mul, iI_neg, iI_nI, ok_s, ok_ck, ok_bn, ok_ob, ck_iI, bn_eq, ob_s, om_n, om_s, cb_bI, gI_g, gI_2, gJ_1, gJ_g, gJ_2, gR_1, gR_2, gR_g, within_v, in_v, bI_i0, bI_i1, iI_bI0, iI_bI1, bI_T, bI_F, f_X12_sacksCome_l51b, h0, e, m8, k1]
      exact r1
theorem RSack.off (h : RSack G11 G35 sn) {q : Nat} (x : Int32) : RSack (gI G11 48 q x) (gI G35 146 q x) sn := by
  obtain ⟨h0, h1, h2, h3⟩ := h
  refine ⟨h0, ?_, ?_, fun s hs => ?_⟩
  · rw [gI_g, if_neg (by omega)]; exact h1
  · rw [gI_g, if_neg (by omega)]; exact h2
  · obtain ⟨a1, a2, a3⟩ := h3 s hs
    rw [gI_g, gI_g, gI_g, gI_g, gI_g, gI_g, if_neg (by omega), if_neg (by omega), if_neg (by omega), if_neg (by omega)]
    refine ⟨a1, a2, ?_⟩
    by_cases e : s = q
    · rw [if_pos ⟨rfl, e⟩, if_pos ⟨rfl, e⟩]
    · rw [if_neg fun z => e z.2, if_neg fun z => e z.2]; exact a3
theorem onWay_c (h : RSack G11 G35 sn) {a : Int} (a1 : -2147483648 ≤ a) (a2 : a < 2147483648) : f_X6_isOnWay F G11 (iI a) = some (bI ((0 ≤ a ∧ a ≤ (sn : Int) - 1) ∧ ¬ G35.1 146 a.toNat = 0)) := by
  obtain ⟨h0, h1, h2, h3⟩ := h
  by_cases c : 0 ≤ a ∧ a ≤ (sn : Int) - 1
  · obtain ⟨w1, w2, w3⟩ := h3 a.toNat (by omega)
    by_cases c2 : G35.1 146 a.toNat = 0
    · rw [bI_f fun z => z.2 c2]
      simp (disch := omega) only [reduceIte, Nat.reduceEqDiff, Nat.reduceAdd, Nat.reduceSub, Nat.reduceMul, Nat.reduceLT, Int.reduceNeg, Int.reduceAdd, Int.reduceSub, Int.reduceMul, Int.reduceLT, Int.reduceLE, Int.reduceEq, Int.reduceToNat, reduceCtorEq, and_self, and_true, true_and, false_and, and_false, or_false, false_or, or_true, true_or, true_implies, false_implies, implies_true, not_true_eq_false, not_false_eq_true, Int.toNat_natCast, Int.cast_ofNat_Int, eq_self, ne_eq, ite_true, ite_false, if_true, if_false, Int.add_sub_cancel, Int.sub_add_cancel, Int.add_zero, Int.zero_add, cast_s, iI_in, iI_lit, iI_le, iI_lt, iI_eq, iI_cl, iI_add, iI_sub, iI_mul, iI_neg, iI_nI, ok_s, ok_ck, ok_bn, ok_ob, ck_iI, bn_eq, ob_s, om_n, om_s, cb_bI, gI_g, gI_2, gJ_1, gJ_g, gJ_2, gR_1, gR_2, gR_g, within_v, in_v, bI_i0, bI_i1, iI_bI0, iI_bI1, bI_T, bI_F, f_X6_isOnWay, h1, c, w3, c2]
    · rw [bI_t ⟨c, c2⟩]
      have c2 : ¬ G35.1 146 a.toNat = iI 0 := c2
      simp (disch := omega) only [reduceIte, Nat.reduceEqDiff, Nat.reduceAdd, Nat.reduceSub, Nat.reduceMul, Nat.reduceLT, Int.reduceNeg, Int.reduceAdd, Int.reduceSub, Int.reduceMul, Int.reduceLT, Int.reduceLE, Int.reduceEq, Int.reduceToNat, reduceCtorEq, and_self, and_true, true_and, false_and, and_false, or_false, false_or, or_true, true_or, true_implies, false_implies, implies_true, not_true_eq_false, not_false_eq_true, Int.toNat_natCast, Int.cast_ofNat_Int, eq_self, ne_eq, ite_true, ite_false, if_true, if_false, Int.add_sub_cancel, Int.sub_add_cancel, Int.add_zero, Int.zero_add, cast_s, iI_in, iI_lit, iI_le, iI_lt, iI_eq, iI_cl, iI_add, iI_sub, iI_mul, iI_neg, iI_nI, ok_s, ok_ck, ok_bn, ok_ob, ck_iI, bn_eq, ob_s, om_n, om_s, cb_bI, gI_g, gI_2, gJ_1, gJ_g, gJ_2, gR_1, gR_2, gR_g, within_v, in_v, bI_i0, bI_i1, iI_bI0, iI_bI1, bI_T, bI_F, f_X6_isOnWay, h1, c, w3, c2]
  · rw [bI_f fun z => c z.1]
    simp (disch := omega) only [reduceIte, Nat.reduceEqDiff, Nat.reduceAdd, Nat.reduceSub, Nat.reduceMul, Nat.reduceLT, Int.reduceNeg, Int.reduceAdd, Int.reduceSub, Int.reduceMul, Int.reduceLT, Int.reduceLE, Int.reduceEq, Int.reduceToNat, reduceCtorEq, and_self, and_true, true_and, false_and, and_false, or_false, false_or, or_true, true_or, true_implies, false_implies, implies_true, not_true_eq_false, not_false_eq_true, Int.toNat_natCast, Int.cast_ofNat_Int, eq_self, ne_eq, ite_true, ite_false, if_true, if_false, Int.add_sub_cancel, Int.sub_add_cancel, Int.add_zero, Int.zero_add, cast_s, iI_in, iI_lit, iI_le, iI_lt, iI_eq, iI_cl, iI_add, iI_sub, iI_mul, iI_neg, iI_nI, ok_s, ok_ck, ok_bn, ok_ob, ck_iI, bn_eq, ob_s, om_n, om_s, cb_bI, gI_g, gI_2, gJ_1, gJ_g, gJ_2, gR_1, gR_2, gR_g, within_v, in_v, bI_i0, bI_i1, iI_bI0, iI_bI1, bI_T, bI_F, f_X6_isOnWay, h1, c]
theorem call_lose (hc : LC G10 G13 n ln tp tl L) (hm : LM G32 ln L) (hb : LB pn d ln L) (hx : TXS G3 G32 ln tl Ln L X) (hk : RSack G11 G35 sn) (hd : d < 3600) (h1 : G1.1 0 0 = iI d) (h23 : G23.1 91 0 = iI d) (hF : 200000 ≤ F) (a : Int32) : ok (f_X11_lose F G1 G10 G11 G13 a) (fun q => ok (f_X12_lose F G23 G32 G35 a) fun w => q.1 = w.1 ∧ RSack q.2.1 w.2.2 sn ∧ ∃ L', KP ln L L' ∧ LC G10 q.2.2 n ln tp tl L' ∧ LM w.2.1 ln L' ∧ LB pn d ln L' ∧ TXS G3 w.2.1 ln tl Ln L' X) := by
  obtain ⟨a, rfl, a1, a2⟩ := iI_ex a
  have ow := onWay_c (F := F) hk a1 a2
  obtain ⟨k0, k1, k2, k3⟩ := id hk
  by_cases c : 0 ≤ a ∧ a ≤ (sn : Int) - 1
  · obtain ⟨q, rfl⟩ : ∃ q : Nat, a = (q : Int) := ⟨a.toNat, by omega⟩
    have e1 : ¬ (q : Int) < 0 := by omega
    have e2 : ¬ (sn : Int) ≤ q := by omega
    simp only [Int.toNat_natCast] at ow
    by_cases c2 : G35.1 146 q = 0
    · rw [bI_f fun z => z.2 c2] at ow
      have c2 : G35.1 146 q = iI 0 := c2
      simp (disch := omega) only [reduceIte, Nat.reduceEqDiff, Nat.reduceAdd, Nat.reduceSub, Nat.reduceMul, Nat.reduceLT, Int.reduceNeg, Int.reduceAdd, Int.reduceSub, Int.reduceMul, Int.reduceLT, Int.reduceLE, Int.reduceEq, Int.reduceToNat, reduceCtorEq, and_self, and_true, true_and, false_and, and_false, or_false, false_or, or_true, true_or, true_implies, false_implies, implies_true, not_true_eq_false, not_false_eq_true, Int.toNat_natCast, Int.cast_ofNat_Int, eq_self, ne_eq, ite_true, ite_false, if_true, if_false, Int.add_sub_cancel, Int.sub_add_cancel, Int.add_zero, Int.zero_add, cast_s, iI_in, iI_lit, iI_le, iI_lt, iI_eq, iI_cl, iI_add, iI_sub, iI_mul, iI_neg, iI_nI, ok_s, ok_ck, ok_bn, ok_ob, ck_iI, bn_eq, ob_s, om_n, om_s, cb_bI, gI_g, gI_2, gJ_1, gJ_g, gJ_2, gR_1, gR_2, gR_g, within_v, in_v, bI_i0, bI_i1, iI_bI0, iI_bI1, bI_T, bI_F, f_X11_lose, f_X12_lose, ow, e1, e2, k2, c2]
      exact ⟨hk, L, KP.rf _ _, hc, hm, hb, hx⟩
    · obtain ⟨G13', r1, r2⟩ := emp_c (F := F) (G11 := G11) hb hd (q := q) (s := 8) (by omega) (by omega) hF hc
      obtain ⟨G32', t1, t2, t3⟩ := los_m (F := F) (G35 := gI G35 146 q (vp_nar .boolean 0)) hb hd h23 (q := q) (by omega) hF hm
      rw [bI_t ⟨c, c2⟩] at ow
      have c2 : ¬ G35.1 146 q = iI 0 := c2
      have fin : ok (some (iI (cnt (emP L q) ln), gI G11 48 q (vp_nar .boolean 0), G13')) (fun w' => ok (some (iI (cnt (emP L q) ln), G32', gI G35 146 q (vp_nar .boolean 0))) fun w => w'.1 = w.1 ∧ RSack w'.2.1 w.2.2 sn ∧ ∃ L', KP ln L L' ∧ LC G10 w'.2.2 n ln tp tl L' ∧ LM w.2.1 ln L' ∧ LB pn d ln L' ∧ TXS G3 w.2.1 ln tl Ln L' X) :=
        ⟨rfl, hk.off _, _, emL_kp (by omega) ln, r2, t2, emL_b hb (by omega) ln, hx.fr (fun i _ => emL_o (by omega)) t3⟩
      have ec : f_X11_lose F G1 G10 G11 G13 (iI q) = some (iI (cnt (emP L q) ln), gI G11 48 q (vp_nar .boolean 0), G13') := by
        have r1 : f_X6_empty_l16 F F G10 G11 G13 (iI q) (iI 8) (iI d) 0 0 = _ := r1
        have h8 : (8 : Int32) = iI 8 := rfl
        unfold f_X11_lose f_X6_empty
        rw [ow, ob_s, if_neg (by decide), ob_s, if_neg (by decide), h8, h1, r1]
        rfl
      have em : f_X12_lose F G23 G32 G35 (iI q) = some (iI (cnt (emP L q) ln), G32', gI G35 146 q (vp_nar .boolean 0)) := by
        have t1 : f_X12_lose_l34 F F G23 G32 (gI G35 146 q (vp_nar .boolean (iI 0))) (iI q) (iI 0) (iI 0) = _ := t1
        simp (disch := omega) only [reduceIte, Nat.reduceEqDiff, Nat.reduceAdd, Nat.reduceSub, Nat.reduceMul, Nat.reduceLT, Int.reduceNeg, Int.reduceAdd, Int.reduceSub, Int.reduceMul, Int.reduceLT, Int.reduceLE, Int.reduceEq, Int.reduceToNat, reduceCtorEq, and_self, and_true, true_and, false_and, and_false, or_false, false_or, or_true, true_or, true_implies, false_implies, implies_true, not_true_eq_false, not_false_eq_true, Int.toNat_natCast, Int.cast_ofNat_Int, eq_self, ne_eq, ite_true, ite_false, if_true, if_false, Int.add_sub_cancel, Int.sub_add_cancel, Int.add_zero, Int.zero_add, cast_s, iI_in, iI_lit, iI_le, iI_lt, iI_eq, iI_cl, iI_add, iI_sub, iI_mul, iI_neg, iI_nI, ok_s, ok_ck, ok_bn, ok_ob, ck_iI, bn_eq, ob_s, om_n, om_s, cb_bI, gI_g, gI_2, gJ_1, gJ_g, gJ_2, gR_1, gR_2, gR_g, within_v, in_v, bI_i0, bI_i1, iI_bI0, iI_bI1, bI_T, bI_F, f_X12_lose, e1, e2, k2, c2, t1]
      rw [ec, em]
      exact fin
  · rw [bI_f fun z => c z.1] at ow
    by_cases e1 : a < 0
    · skip
      simp (disch := omega) only [reduceIte, Nat.reduceEqDiff, Nat.reduceAdd, Nat.reduceSub, Nat.reduceMul, Nat.reduceLT, Int.reduceNeg, Int.reduceAdd, Int.reduceSub, Int.reduceMul, Int.reduceLT, Int.reduceLE, Int.reduceEq, Int.reduceToNat, reduceCtorEq, and_self, and_true, true_and, false_and, and_false, or_false, false_or, or_true, true_or, true_implies, false_implies, implies_true, not_true_eq_false, not_false_eq_true, Int.toNat_natCast, Int.cast_ofNat_Int, eq_self, ne_eq, ite_true, ite_false, if_true, if_false, Int.add_sub_cancel, Int.sub_add_cancel, Int.add_zero, Int.zero_add, cast_s, iI_in, iI_lit, iI_le, iI_lt, iI_eq, iI_cl, iI_add, iI_sub, iI_mul, iI_neg, iI_nI, ok_s, ok_ck, ok_bn, ok_ob, ck_iI, bn_eq, ob_s, om_n, om_s, cb_bI, gI_g, gI_2, gJ_1, gJ_g, gJ_2, gR_1, gR_2, gR_g, within_v, in_v, bI_i0, bI_i1, iI_bI0, iI_bI1, bI_T, bI_F, f_X11_lose, f_X12_lose, ow, e1]
      exact ⟨hk, L, KP.rf _ _, hc, hm, hb, hx⟩
    · have e2 : (sn : Int) ≤ a := by omega
      simp (disch := omega) only [reduceIte, Nat.reduceEqDiff, Nat.reduceAdd, Nat.reduceSub, Nat.reduceMul, Nat.reduceLT, Int.reduceNeg, Int.reduceAdd, Int.reduceSub, Int.reduceMul, Int.reduceLT, Int.reduceLE, Int.reduceEq, Int.reduceToNat, reduceCtorEq, and_self, and_true, true_and, false_and, and_false, or_false, false_or, or_true, true_or, true_implies, false_implies, implies_true, not_true_eq_false, not_false_eq_true, Int.toNat_natCast, Int.cast_ofNat_Int, eq_self, ne_eq, ite_true, ite_false, if_true, if_false, Int.add_sub_cancel, Int.sub_add_cancel, Int.add_zero, Int.zero_add, cast_s, iI_in, iI_lit, iI_le, iI_lt, iI_eq, iI_cl, iI_add, iI_sub, iI_mul, iI_neg, iI_nI, ok_s, ok_ck, ok_bn, ok_ob, ck_iI, bn_eq, ob_s, om_n, om_s, cb_bI, gI_g, gI_2, gJ_1, gJ_g, gJ_2, gR_1, gR_2, gR_g, within_v, in_v, bI_i0, bI_i1, iI_bI0, iI_bI1, bI_T, bI_F, f_X11_lose, f_X12_lose, ow, e1, e2, k2]
      exact ⟨hk, L, KP.rf _ _, hc, hm, hb, hx⟩
end PR
