/-! both parsers, side by side -/
/-- signs of the tape -/
def TPE (G3 G27 : Grp) (n : Nat) (b : Nat → Nat) : Prop := n ≤ 200 ∧ G3.2.2 1 0 = some 240 ∧ (∀ i, i < n → G3.1 1 i = iI (b i) ∧ G27.1 106 i = iI (sg8 (b i))) ∧ ∀ i, b i < 256
/-- what stays of the class's parser while a pattern is read: t0 is the pattern's goal -/
def FRC (v t0 : Nat) (G G' : Grp) : Prop := OTR v G G' ∧ G'.1 v 7 = G.1 v 7 ∧ ar G' (v + 4) = ar G (v + 4) ∧ sam (gph G v) (gph G' v) 0 t0
def FRM (c0 : Nat) (G G' : Grp) : Prop := G'.2 = G.2 ∧ (∀ x k, (x ≠ 111 ∧ x ≠ 112 ∧ x ≠ 113 ∧ x ≠ 114 ∧ x ≠ 119 ∧ x ≠ 120 ∧ x ≠ 121 ∧ (x ≠ 91 ∨ (k ≠ 21 ∧ k ≠ 39 ∧ k ≠ 41))) → G'.1 x k = G.1 x k) ∧ agp (prt G) (prt G') c0
theorem sam.tr {g g1 g2 : Gr} {s e : Nat} (h : sam g g1 s e) (h2 : sam g1 g2 s e) : sam g g2 s e := fun x z1 z2 => by
  obtain ⟨a1, a2, a3⟩ := h x z1 z2
  obtain ⟨b1, b2, b3⟩ := h2 x z1 z2
  exact ⟨a1.trans b1, a2.trans b2, a3.trans b3⟩
theorem sam.rf (g : Gr) (s e : Nat) : sam g g s e := fun _ _ _ => ⟨rfl, rfl, rfl⟩
theorem FRC.tr {v t0 : Nat} {G G1 G2 : Grp} (h : FRC v t0 G G1) (h2 : FRC v t0 G1 G2) : FRC v t0 G G2 := ⟨h.1.tr h2.1, h2.2.1.trans h.2.1, h2.2.2.1.trans h.2.2.1, h.2.2.2.tr h2.2.2.2⟩
theorem FRC.rf (v t0 : Nat) (G : Grp) : FRC v t0 G G := ⟨OTR.rf, rfl, rfl, sam.rf _ _ _⟩
theorem FRM.tr {c0 : Nat} {G G1 G2 : Grp} (h : FRM c0 G G1) (h2 : FRM c0 G1 G2) : FRM c0 G G2 := ⟨h2.1.trans h.1, fun x k hx => (h2.2.1 x k hx).trans (h.2.1 x k hx), h.2.2.tr h2.2.2 (Nat.le_refl _)⟩
theorem FRM.rf (c0 : Nat) (G : Grp) : FRM c0 G G := ⟨rfl, fun _ _ _ => rfl, agp_rf _ _⟩
theorem FRM.of {c0 c : Nat} {G G1 : Grp} (h : OTM G G1) (hp : agp (prt G) (prt G1) c) (hc : c0 ≤ c) : FRM c0 G G1 := ⟨h.1, fun x k hx => h.2 x k (by omega), hp.le hc⟩
/-- kinds of the pattern's states -/
def KDR (g : Gr) (t0 S : Nat) : Prop := ∀ x, t0 < x → x < S → g.1 x ≠ 1 ∧ 0 ≤ g.1 x ∧ g.1 x < 256
def isRp (c : Nat) : Prop := c = 42 ∨ c = 43 ∨ c = 63
/-- the goal of the whole pattern -/
def tge : List Lv → Nat
  | [] => 0
  | l :: rest => if rest.length = 0 then lge l else tge rest
theorem lvs_t {g : Gr} {p : Pr} {cnt : Nat} : ∀ {rest : List Lv} {l : Lv} {hi : Nat} {N : Int}, lvs g p cnt (l :: rest) hi N → tge (l :: rest) < lrs l (lm l) := by
  intro rest
  induction rest with
  | nil =>
    intro l hi N h
    have := (lvl_lt h.1).1
    show (if ([] : List Lv).length = 0 then lge l else tge []) < _
    rw [if_pos (show ([] : List Lv).length = 0 from rfl)]; exact this
  | cons l2 rest ih =>
    intro l hi N h
    have a1 := ih h.2.2
    have a2 := lvl_lt h.2.2.1
    have a3 := lvl_lt h.1
    have a4 := h.1.1
    show (if (l2 :: rest).length = 0 then lge l else tge (l2 :: rest)) < _
    rw [if_neg (by simp)]
    omega
/-- between two items -/
def PS (G4 G28 : Grp) (v n p t0 : Nat) (l : Lv) (rest : List Lv) (S cnt rz : Nat) (it rp : Int) : Prop :=
  CI G4 v S n p rest.length (ltl l (lm l)) it rp ∧ MI G28 n p cnt rz (sd (l :: rest)) ∧ lvs (gph G4 v) (prt G28) cnt (l :: rest) S (-1) ∧ wfp (prt G28) cnt ∧ stk (ar G28 119) (l :: rest) ∧ itr (ar G28 120) (ar G28 121) (l :: rest) ∧ gar (ar G4 (v + 7)) (ar G4 (v + 8)) (ar G4 (v + 9)) (l :: rest) ∧
  KDR (gph G4 v) t0 S ∧ (rest.length ≤ 6 ∧ p ≤ n ∧ S ≤ 2 * p + rest.length ∧ cnt + smr (l :: rest) ≤ 2 * p ∧ sd (l :: rest) ≤ p ∧ tge (l :: rest) = t0) ∧ (it = -1 ↔ lfu l = false) ∧ -1 ≤ it ∧ it < 1000
/-- an item stands behind the current row's end, not yet joined to it in the reference -/
def PEND (G4 G28 : Grp) (v n p t0 : Nat) (l : Lv) (rest : List Lv) (h x k S cnt rz : Nat) : Prop :=
  CI G4 v S n p rest.length x h 0 ∧ MI G28 n p cnt rz (sd (l :: rest) + 1) ∧ lvs (gph G4 v) (prt G28) cnt (l :: rest) h h ∧ itm (gph G4 v) h S x ∧ fre (gph G4 v) h S x ∧ sem (gph G4 v) h S x (some k) (prt G28) cnt ∧ k < cnt ∧ wfp (prt G28) cnt ∧ stk (ar G28 119) (l :: rest) ∧ ar G28 119 (sd (l :: rest)) = k ∧ itr (ar G28 120) (ar G28 121) (l :: rest) ∧ gar (ar G4 (v + 7)) (ar G4 (v + 8)) (ar G4 (v + 9)) (l :: rest) ∧
  KDR (gph G4 v) t0 S ∧ (rest.length ≤ 6 ∧ p ≤ n ∧ S ≤ 2 * p + rest.length ∧ cnt + smr (l :: rest) + (if lfu l = true then 1 else 0) ≤ 2 * p ∧ sd (l :: rest) + 1 ≤ p ∧ tge (l :: rest) = t0)
/-- the way out of a level set anew -/
theorem lvl.out {g g' : Gr} {p : Pr} {cnt : Nat} {l : Lv} {hi : Nat} {N N' : Int} (h : lvl g p cnt l hi N) (hN : ¬ ins N' (lrs l (lm l)) hi) (h1 : ∀ x, x < hi → g'.1 x = g.1 x) (h2 : ∀ x, x < hi → g'.2.1 x = if x = ltl l (lm l) then N' else g.2.1 x) (h3 : ∀ x, x < hi → g'.2.2 x = g.2.2 x) : lvl g' p cnt l hi N' := by
  obtain ⟨w1, w2, w3⟩ := lvl_lt h
  obtain ⟨q1, q2, q3, q4, q5, q6, q7, q8, q9⟩ := h
  have rt := q4.1
  have sm : ∀ s' e', e' ≤ lrs l (lm l) → sam g g' s' e' := fun s' e' he y z1 z2 => ⟨(h1 y (by omega)).symm, by rw [h2 y (by omega), if_neg (by omega)], (h3 y (by omega)).symm⟩
  have ag := sm 0 (lge l + 1) (by omega) (lge l) (by omega) (by omega)
  obtain ⟨r1, r2⟩ := q4.re (g' := g') (N' := N') (O' := -1) hN (fun z => by have := z.1; omega) (fun y z1 z2 => h1 y z2) (fun y z1 z2 => h2 y z2) (fun y z1 z2 => by
    rw [h3 y z2]
    by_cases c : y = lrs l (lm l)
    · rw [if_pos c, c]; exact q4.2.2.2.2.2.1
    · rw [if_neg c])
  refine ⟨q1, q2, fun r hr => ?_, r1, q5.to r2 (agp_rf _ _) (Nat.le_refl _), q6, ag.2.1 ▸ q7, ag.2.2 ▸ q8, q9⟩
  have := w3 r hr
  obtain ⟨z1, z2, z3⟩ := q3 r hr
  exact ⟨z1.to (sm _ _ (by omega)), z2.to (sm _ _ (by omega)).agr (agp_rf _ _) (Nat.le_refl _), z3⟩
theorem lvl_item2 {g : Gr} {p p' : Pr} {cnt cnt' : Nat} {l : Lv} {h e x k q : Nat} (hl : lvl g p cnt l h h) (hi : itm g h e x) (hk : sem g h e x (some k) p cnt) (hkc : k < cnt) (hw : wfp p cnt) (hp : agp p p' cnt) (hc : cnt ≤ cnt') (hq : (lfu l = false ∧ q = k) ∨ (lfu l = true ∧ q = cnt ∧ cnt < cnt' ∧ p'.1 q = 2 ∧ pA p' q = lpk l (lm l) ∧ pB p' q = k)) : lvl g p' cnt' (lset l x q) e (-1) := by
  obtain ⟨w1, w2, w3⟩ := lvl_lt hl
  have r4 := hl.2.2.2.1
  have rt := r4.2.1
  have rN : g.2.1 (ltl l (lm l)) = (h : Int) := r4.2.2.2.2.1
  have sm : sam g (g.1, up g.2.1 (ltl l (lm l)) (-1), g.2.2) h e := fun y z1 z2 => ⟨rfl, by show g.2.1 y = up g.2.1 (ltl l (lm l)) (-1) y; rw [up_f _ _ (by omega)], rfl⟩
  have l0 : lvl (g.1, up g.2.1 (ltl l (lm l)) (-1), g.2.2) p cnt l h (-1) := hl.out (fun z => by have := z.1; omega) (fun _ _ => rfl) (fun _ _ => rfl) (fun _ _ => rfl)
  have i0 : itm (g.1, up g.2.1 (ltl l (lm l)) (-1), g.2.2) h e x := by
    obtain ⟨i1, i2, i3, i4, i5, i6⟩ := hi
    refine ⟨i1, i2, i3, ?_, fun y z1 z2 => ?_, i6⟩
    · rw [← (sm x (by omega) i2).2.1]; exact i4
    · rw [← (sm y z1 z2).2.1]; exact i5 y z1 z2
  have s0 := hk.to sm.agr (agp_rf p cnt) (Nat.le_refl _)
  have fin := lvl_item l0 i0 s0 hkc hw hp hc hq
  have eg : ((g.1, up g.2.1 (ltl l (lm l)) (-1), g.2.2).1, up (g.1, up g.2.1 (ltl l (lm l)) (-1), g.2.2).2.1 (ltl l (lm l)) h, (g.1, up g.2.1 (ltl l (lm l)) (-1), g.2.2).2.2) = g := by
    refine Prod.ext rfl (Prod.ext ?_ rfl)
    funext y
    show up (up g.2.1 (ltl l (lm l)) (-1)) (ltl l (lm l)) h y = g.2.1 y
    by_cases c : y = ltl l (lm l)
    · rw [c, up_t, rN]
    · rw [up_f _ _ c, up_f _ _ c]
  rw [eg] at fin
  exact fin
section PR
variable {F v n p t0 : Nat} {G3 G27 G4 G28 : Grp} {b : Nat → Nat}
theorem sign_c {S dp tl : Nat} {it rp : Int} (h : CI G4 v S n p dp tl it rp) (ht : TPE G3 G27 n b) (hp : p < n) : f_X7_sign F G3 G4 v = some (iI (b p)) := by
  obtain ⟨h1, h2, h3, h4, h5, h6, h7, h8⟩ := h
  obtain ⟨t1, t2, t3, t4⟩ := ht
  have e1 : ¬ (n : Int) ≤ p := by omega
  have w := (t3 p hp).1
  simp (disch := omega) only [reduceIte, Nat.reduceEqDiff, Nat.reduceAdd, Nat.reduceSub, Nat.reduceMul, Nat.reduceLT, Int.reduceNeg, Int.reduceAdd, Int.reduceSub, Int.reduceMul, Int.reduceLT, Int.reduceLE, Int.reduceEq, Int.reduceToNat, reduceCtorEq, and_self, and_true, true_and, false_and, and_false, or_false, false_or, or_true, true_or, true_implies, false_implies, implies_true, not_true_eq_false, not_false_eq_true, Int.toNat_natCast, Int.cast_ofNat_Int, eq_self, ne_eq, ite_true, ite_false, if_true, if_false, Int.add_sub_cancel, Int.sub_add_cancel, Int.add_zero, Int.zero_add, cast_s, iI_in, iI_lit, iI_le, iI_lt, iI_eq, iI_cl, iI_add, iI_sub, iI_mul, iI_neg, iI_nI, ok_s, ok_ck, ok_bn, ok_ob, ck_iI, bn_eq, ob_s, om_n, om_s, cb_bI, gI_g, gI_2, gJ_1, gJ_g, gJ_2, gR_1, gR_2, gR_g, within_v, in_v, bI_i0, bI_i1, iI_bI0, iI_bI1, bI_T, bI_F, f_X7_sign, h2, h3, h8, t2, e1, w, Option.getD_some]
theorem sign_m' {cnt rz s : Nat} (h : MI G28 n p cnt rz s) (ht : TPE G3 G27 n b) (hp : p < n) : f_X12_sign F G27 G28 = some (iI (b p)) := by
  obtain ⟨t1, t2, t3, t4⟩ := ht
  exact sign_m h hp (by omega) (t4 p) (t3 p hp).2
theorem repeats_no {cnt rz s : Nat} (h : MI G28 n p cnt rz s) (ht : TPE G3 G27 n b) (hpn : p ≤ n) (hr : n ≤ p ∨ ¬ isRp (b p)) : f_X12_repeats F G27 G28 = some G28 := by
  by_cases c : p < n
  · have sg := sign_m' (F := F) h ht c
    have hb := ht.2.2.2 p
    have hr : ¬ isRp (b p) := hr.resolve_left (by omega)
    unfold isRp at hr
    have c1 : ¬ (b p : Int) = 42 := by omega
    have c2 : ¬ (b p : Int) = 43 := by omega
    have c3 : ¬ (b p : Int) = 63 := by omega
    simp (disch := omega) only [reduceIte, Nat.reduceEqDiff, Nat.reduceAdd, Nat.reduceSub, Nat.reduceMul, Nat.reduceLT, Int.reduceNeg, Int.reduceAdd, Int.reduceSub, Int.reduceMul, Int.reduceLT, Int.reduceLE, Int.reduceEq, Int.reduceToNat, reduceCtorEq, and_self, and_true, true_and, false_and, and_false, or_false, false_or, or_true, true_or, true_implies, false_implies, implies_true, not_true_eq_false, not_false_eq_true, Int.toNat_natCast, Int.cast_ofNat_Int, eq_self, ne_eq, ite_true, ite_false, if_true, if_false, Int.add_sub_cancel, Int.sub_add_cancel, Int.add_zero, Int.zero_add, cast_s, iI_in, iI_lit, iI_le, iI_lt, iI_eq, iI_cl, iI_add, iI_sub, iI_mul, iI_neg, iI_nI, ok_s, ok_ck, ok_bn, ok_ob, ck_iI, bn_eq, ob_s, om_n, om_s, cb_bI, gI_g, gI_2, gJ_1, gJ_g, gJ_2, gR_1, gR_2, gR_g, within_v, in_v, bI_i0, bI_i1, iI_bI0, iI_bI1, bI_T, bI_F, f_X12_repeats, sg, c1, c2, c3]
  · have sg := sign_m0 (F := F) (G27 := G27) h (by omega) (by have := ht.1; omega) (by have := ht.1; omega)
    simp (disch := omega) only [reduceIte, Nat.reduceEqDiff, Nat.reduceAdd, Nat.reduceSub, Nat.reduceMul, Nat.reduceLT, Int.reduceNeg, Int.reduceAdd, Int.reduceSub, Int.reduceMul, Int.reduceLT, Int.reduceLE, Int.reduceEq, Int.reduceToNat, reduceCtorEq, and_self, and_true, true_and, false_and, and_false, or_false, false_or, or_true, true_or, true_implies, false_implies, implies_true, not_true_eq_false, not_false_eq_true, Int.toNat_natCast, Int.cast_ofNat_Int, eq_self, ne_eq, ite_true, ite_false, if_true, if_false, Int.add_sub_cancel, Int.sub_add_cancel, Int.add_zero, Int.zero_add, cast_s, iI_in, iI_lit, iI_le, iI_lt, iI_eq, iI_cl, iI_add, iI_sub, iI_mul, iI_neg, iI_nI, ok_s, ok_ck, ok_bn, ok_ob, ck_iI, bn_eq, ob_s, om_n, om_s, cb_bI, gI_g, gI_2, gJ_1, gJ_g, gJ_2, gR_1, gR_2, gR_g, within_v, in_v, bI_i0, bI_i1, iI_bI0, iI_bI1, bI_T, bI_F, f_X12_repeats, sg]
theorem repeats_yes {cnt rz s : Nat} (h : MI G28 n p cnt rz s) (ht : TPE G3 G27 n b) (hp : p < n) (hr : isRp (b p)) (hc : cnt < 420) (hs : 1 ≤ s ∧ s ≤ 220) {k : Nat} (hk : ar G28 119 (s - 1) = k) (hkc : k < cnt) {c : Int} (hcc : c = if b p = 42 then 4 else if b p = 43 then 5 else 6) :
    ∃ G', f_X12_repeats F G27 G28 = some G' ∧ MI G' n (p + 1) (cnt + 1) rz s ∧ prt G' = upP (prt G28) cnt c 0 k (-1) ∧ ar G' 119 = up (ar G28 119) (s - 1) cnt ∧ G'.2 = G28.2 ∧ ∀ x j, (x ≠ 111 ∧ x ≠ 112 ∧ x ≠ 113 ∧ x ≠ 114 ∧ x ≠ 119 ∧ (x ≠ 91 ∨ (j ≠ 21 ∧ j ≠ 39 ∧ j ≠ 41))) → G'.1 x j = G28.1 x j := by
  have sg := sign_m' (F := F) h ht hp
  obtain ⟨h1, h2, h3, h4, h5⟩ := id h
  have hk' := iI_of hk
  have e1 : ((s : Int) - 1).toNat = s - 1 := by omega
  have hb := ht.2.2.2 p
  have hn := ht.1
  refine ⟨gI (gI (pT G28 cnt (iI c) (iI 0) (iI k) (iI (-1))) 119 (s - 1) (iI cnt)) 91 21 (iI ((p : Int) + 1)), ?_, ?_, ?_, ?_, rfl, fun x j hx => ?_⟩
  · have b57 : ∀ c : Int, f_X12_repeats_b57 F G27 G28 (iI ((s : Int) - 1)) (iI c) = some (gI (gI (pT G28 cnt (iI c) (iI 0) (iI k) (iI (-1))) 119 (s - 1) (iI cnt)) 91 21 (iI ((p : Int) + 1))) := fun c => by
      have pv := part_v (F := F) h3 hc (iI c) (iI 0) (iI k) (iI (-1))
      have p21 : (pT G28 cnt (iI c) (iI 0) (iI k) (iI (-1))).1 91 21 = iI p := (pT_m h (iI c) (iI 0) (iI k) (iI (-1))).2.1
      simp (disch := omega) only [reduceIte, Nat.reduceEqDiff, Nat.reduceAdd, Nat.reduceSub, Nat.reduceMul, Nat.reduceLT, Int.reduceNeg, Int.reduceAdd, Int.reduceSub, Int.reduceMul, Int.reduceLT, Int.reduceLE, Int.reduceEq, Int.reduceToNat, reduceCtorEq, and_self, and_true, true_and, false_and, and_false, or_false, false_or, or_true, true_or, true_implies, false_implies, implies_true, not_true_eq_false, not_false_eq_true, Int.toNat_natCast, Int.cast_ofNat_Int, eq_self, ne_eq, ite_true, ite_false, if_true, if_false, Int.add_sub_cancel, Int.sub_add_cancel, Int.add_zero, Int.zero_add, cast_s, iI_in, iI_lit, iI_le, iI_lt, iI_eq, iI_cl, iI_add, iI_sub, iI_mul, iI_neg, iI_nI, ok_s, ok_ck, ok_bn, ok_ob, ck_iI, bn_eq, ob_s, om_n, om_s, cb_bI, gI_g, gI_2, gJ_1, gJ_g, gJ_2, gR_1, gR_2, gR_g, within_v, in_v, bI_i0, bI_i1, iI_bI0, iI_bI1, bI_T, bI_F, f_X12_repeats_b57, h5, e1, hk', pv, p21]
    rcases hr with q | q | q
    · have c1 : (b p : Int) = 42 := by omega
      rw [if_pos q] at hcc
      subst hcc
      simp (disch := omega) only [reduceIte, Nat.reduceEqDiff, Nat.reduceAdd, Nat.reduceSub, Nat.reduceMul, Nat.reduceLT, Int.reduceNeg, Int.reduceAdd, Int.reduceSub, Int.reduceMul, Int.reduceLT, Int.reduceLE, Int.reduceEq, Int.reduceToNat, reduceCtorEq, and_self, and_true, true_and, false_and, and_false, or_false, false_or, or_true, true_or, true_implies, false_implies, implies_true, not_true_eq_false, not_false_eq_true, Int.toNat_natCast, Int.cast_ofNat_Int, eq_self, ne_eq, ite_true, ite_false, if_true, if_false, Int.add_sub_cancel, Int.sub_add_cancel, Int.add_zero, Int.zero_add, cast_s, iI_in, iI_lit, iI_le, iI_lt, iI_eq, iI_cl, iI_add, iI_sub, iI_mul, iI_neg, iI_nI, ok_s, ok_ck, ok_bn, ok_ob, ck_iI, bn_eq, ob_s, om_n, om_s, cb_bI, gI_g, gI_2, gJ_1, gJ_g, gJ_2, gR_1, gR_2, gR_g, within_v, in_v, bI_i0, bI_i1, iI_bI0, iI_bI1, bI_T, bI_F, f_X12_repeats, f_X12_repeats_b24, sg, c1, h5, b57]
    · have c1 : (b p : Int) = 43 := by omega
      rw [if_neg (by omega), if_pos q] at hcc
      subst hcc
      simp (disch := omega) only [reduceIte, Nat.reduceEqDiff, Nat.reduceAdd, Nat.reduceSub, Nat.reduceMul, Nat.reduceLT, Int.reduceNeg, Int.reduceAdd, Int.reduceSub, Int.reduceMul, Int.reduceLT, Int.reduceLE, Int.reduceEq, Int.reduceToNat, reduceCtorEq, and_self, and_true, true_and, false_and, and_false, or_false, false_or, or_true, true_or, true_implies, false_implies, implies_true, not_true_eq_false, not_false_eq_true, Int.toNat_natCast, Int.cast_ofNat_Int, eq_self, ne_eq, ite_true, ite_false, if_true, if_false, Int.add_sub_cancel, Int.sub_add_cancel, Int.add_zero, Int.zero_add, cast_s, iI_in, iI_lit, iI_le, iI_lt, iI_eq, iI_cl, iI_add, iI_sub, iI_mul, iI_neg, iI_nI, ok_s, ok_ck, ok_bn, ok_ob, ck_iI, bn_eq, ob_s, om_n, om_s, cb_bI, gI_g, gI_2, gJ_1, gJ_g, gJ_2, gR_1, gR_2, gR_g, within_v, in_v, bI_i0, bI_i1, iI_bI0, iI_bI1, bI_T, bI_F, f_X12_repeats, f_X12_repeats_b24, sg, c1, h5, b57]
    · have c1 : (b p : Int) = 63 := by omega
      rw [if_neg (by omega), if_neg (by omega)] at hcc
      subst hcc
      simp (disch := omega) only [reduceIte, Nat.reduceEqDiff, Nat.reduceAdd, Nat.reduceSub, Nat.reduceMul, Nat.reduceLT, Int.reduceNeg, Int.reduceAdd, Int.reduceSub, Int.reduceMul, Int.reduceLT, Int.reduceLE, Int.reduceEq, Int.reduceToNat, reduceCtorEq, and_self, and_true, true_and, false_and, and_false, or_false, false_or, or_true, true_or, true_implies, false_implies, implies_true, not_true_eq_false, not_false_eq_true, Int.toNat_natCast, Int.cast_ofNat_Int, eq_self, ne_eq, ite_true, ite_false, if_true, if_false, Int.add_sub_cancel, Int.sub_add_cancel, Int.add_zero, Int.zero_add, cast_s, iI_in, iI_lit, iI_le, iI_lt, iI_eq, iI_cl, iI_add, iI_sub, iI_mul, iI_neg, iI_nI, ok_s, ok_ck, ok_bn, ok_ob, ck_iI, bn_eq, ob_s, om_n, om_s, cb_bI, gI_g, gI_2, gJ_1, gJ_g, gJ_2, gR_1, gR_2, gR_g, within_v, in_v, bI_i0, bI_i1, iI_bI0, iI_bI1, bI_T, bI_F, f_X12_repeats, f_X12_repeats_b24, sg, c1, h5, b57]
  · obtain ⟨m1, m2, m3, m4, m5⟩ := pT_m h (iI c) (iI 0) (iI k) (iI (-1))
    unfold MI
    simp (disch := omega) only [reduceIte, Nat.reduceEqDiff, Nat.reduceAdd, Nat.reduceSub, Nat.reduceMul, Nat.reduceLT, Int.reduceNeg, Int.reduceAdd, Int.reduceSub, Int.reduceMul, Int.reduceLT, Int.reduceLE, Int.reduceEq, Int.reduceToNat, reduceCtorEq, and_self, and_true, true_and, false_and, and_false, or_false, false_or, or_true, true_or, true_implies, false_implies, implies_true, not_true_eq_false, not_false_eq_true, Int.toNat_natCast, Int.cast_ofNat_Int, eq_self, ne_eq, ite_true, ite_false, if_true, if_false, Int.add_sub_cancel, Int.sub_add_cancel, Int.add_zero, Int.zero_add, cast_s, iI_in, iI_lit, iI_le, iI_lt, iI_eq, iI_cl, iI_add, iI_sub, iI_mul, iI_neg, iI_nI, ok_s, ok_ck, ok_bn, ok_ob, ck_iI, bn_eq, ob_s, om_n, om_s, cb_bI, gI_g, gI_2, gJ_1, gJ_g, gJ_2, gR_1, gR_2, gR_g, within_v, in_v, bI_i0, bI_i1, iI_bI0, iI_bI1, bI_T, bI_F, m1, m3, m4, m5]
  · have hcb : 0 ≤ c ∧ c ≤ 6 := by
      rw [hcc]
      split
      · omega
      · split <;> omega
    rw [← pT_p G28 cnt (k := c) (w := 0) (a := k) (b := -1) (by omega) (by omega) (by omega) (by omega)]
    rfl
  · rw [ar_oth _ _ _ (by omega), ar_set _ _ _ (by omega) (by omega), pT_s]
  · have e2 : ¬ (x = 91 ∧ j = 21) := by omega
    have e3 : ¬ (x = 119 ∧ j = s - 1) := by omega
    rw [gI_g, if_neg e2, gI_g, if_neg e3]
    exact (pT_o _ _ _ _ _ _).2 x j (by omega)
theorem comes_v {cnt rz s o : Nat} {fu : Bool} (h : MI G28 n p cnt rz s) (ho : o < 8) (hi : ar G28 120 o = if fu = true then 1 else 0) (hc : cnt < 420) (hs : s ≤ 220) (h2 : fu = true → 2 ≤ s) {k0 k : Nat} (hk0 : fu = true → ar G28 119 (s - 2) = k0 ∧ k0 < cnt) (hk : ar G28 119 (s - 1) = k) (hkc : k < cnt) (hw : wfp (prt G28) cnt) :
    ∃ G' q, f_X12_comes F G28 (iI o) = some G' ∧ ((fu = false ∧ q = k ∧ MI G' n p cnt rz s ∧ prt G' = prt G28 ∧ ar G' 119 = ar G28 119) ∨ (fu = true ∧ q = cnt ∧ MI G' n p (cnt + 1) rz (s - 1) ∧ prt G' = upP (prt G28) cnt 2 0 k0 k ∧ ar G' 119 = up (ar G28 119) (s - 2) cnt)) ∧ ar G' 120 = up (ar G28 120) o 1 ∧ G'.2 = G28.2 ∧ ∀ x j, (x ≠ 111 ∧ x ≠ 112 ∧ x ≠ 113 ∧ x ≠ 114 ∧ x ≠ 119 ∧ x ≠ 120 ∧ (x ≠ 91 ∨ (j ≠ 39 ∧ j ≠ 41))) → G'.1 x j = G28.1 x j := by
  have hi' := iI_of hi
  cases fu with
  | false =>
    obtain ⟨h1, h2, h3, h4, h5⟩ := id h
    rw [if_neg (by decide)] at hi'
    refine ⟨gI G28 120 o (iI 1), k, ?_, Or.inl ⟨rfl, rfl, ?_, rfl, rfl⟩, ar_set _ _ _ (by omega) (by omega), rfl, fun x j hx => by rw [gI_g, if_neg (by omega)]⟩
    · skip
      simp (disch := omega) only [reduceIte, Nat.reduceEqDiff, Nat.reduceAdd, Nat.reduceSub, Nat.reduceMul, Nat.reduceLT, Int.reduceNeg, Int.reduceAdd, Int.reduceSub, Int.reduceMul, Int.reduceLT, Int.reduceLE, Int.reduceEq, Int.reduceToNat, reduceCtorEq, and_self, and_true, true_and, false_and, and_false, or_false, false_or, or_true, true_or, true_implies, false_implies, implies_true, not_true_eq_false, not_false_eq_true, Int.toNat_natCast, Int.cast_ofNat_Int, eq_self, ne_eq, ite_true, ite_false, if_true, if_false, Int.add_sub_cancel, Int.sub_add_cancel, Int.add_zero, Int.zero_add, cast_s, iI_in, iI_lit, iI_le, iI_lt, iI_eq, iI_cl, iI_add, iI_sub, iI_mul, iI_neg, iI_nI, ok_s, ok_ck, ok_bn, ok_ob, ck_iI, bn_eq, ob_s, om_n, om_s, cb_bI, gI_g, gI_2, gJ_1, gJ_g, gJ_2, gR_1, gR_2, gR_g, within_v, in_v, bI_i0, bI_i1, iI_bI0, iI_bI1, bI_T, bI_F, f_X12_comes, f_X12_comes_b14, hi']
    · unfold MI
      simp (disch := omega) only [reduceIte, Nat.reduceEqDiff, Nat.reduceAdd, Nat.reduceSub, Nat.reduceMul, Nat.reduceLT, Int.reduceNeg, Int.reduceAdd, Int.reduceSub, Int.reduceMul, Int.reduceLT, Int.reduceLE, Int.reduceEq, Int.reduceToNat, reduceCtorEq, and_self, and_true, true_and, false_and, and_false, or_false, false_or, or_true, true_or, true_implies, false_implies, implies_true, not_true_eq_false, not_false_eq_true, Int.toNat_natCast, Int.cast_ofNat_Int, eq_self, ne_eq, ite_true, ite_false, if_true, if_false, Int.add_sub_cancel, Int.sub_add_cancel, Int.add_zero, Int.zero_add, cast_s, iI_in, iI_lit, iI_le, iI_lt, iI_eq, iI_cl, iI_add, iI_sub, iI_mul, iI_neg, iI_nI, ok_s, ok_ck, ok_bn, ok_ob, ck_iI, bn_eq, ob_s, om_n, om_s, cb_bI, gI_g, gI_2, gJ_1, gJ_g, gJ_2, gR_1, gR_2, gR_g, within_v, in_v, bI_i0, bI_i1, iI_bI0, iI_bI1, bI_T, bI_F, h1, h2, h3, h4, h5]
  | true =>
    rw [if_pos rfl] at hi'
    obtain ⟨k1, k2⟩ := hk0 rfl
    obtain ⟨G', g1, g2, g3, g4, g5⟩ := joins_v (F := F) h hc ⟨h2 rfl, hs⟩ (k := 2) (by omega) k1 hk ⟨k2, hkc⟩
    obtain ⟨u1, u2, u3, u4, u5⟩ := id g2
    refine ⟨gI G' 120 o (iI 1), cnt, ?_, Or.inr ⟨rfl, rfl, ?_, g3, g4⟩, ?_, g5.1, fun x j hx => ?_⟩
    · skip
      simp (disch := omega) only [reduceIte, Nat.reduceEqDiff, Nat.reduceAdd, Nat.reduceSub, Nat.reduceMul, Nat.reduceLT, Int.reduceNeg, Int.reduceAdd, Int.reduceSub, Int.reduceMul, Int.reduceLT, Int.reduceLE, Int.reduceEq, Int.reduceToNat, reduceCtorEq, and_self, and_true, true_and, false_and, and_false, or_false, false_or, or_true, true_or, true_implies, false_implies, implies_true, not_true_eq_false, not_false_eq_true, Int.toNat_natCast, Int.cast_ofNat_Int, eq_self, ne_eq, ite_true, ite_false, if_true, if_false, Int.add_sub_cancel, Int.sub_add_cancel, Int.add_zero, Int.zero_add, cast_s, iI_in, iI_lit, iI_le, iI_lt, iI_eq, iI_cl, iI_add, iI_sub, iI_mul, iI_neg, iI_nI, ok_s, ok_ck, ok_bn, ok_ob, ck_iI, bn_eq, ob_s, om_n, om_s, cb_bI, gI_g, gI_2, gJ_1, gJ_g, gJ_2, gR_1, gR_2, gR_g, within_v, in_v, bI_i0, bI_i1, iI_bI0, iI_bI1, bI_T, bI_F, f_X12_comes, f_X12_comes_b14, hi', g1]
    · unfold MI
      simp (disch := omega) only [reduceIte, Nat.reduceEqDiff, Nat.reduceAdd, Nat.reduceSub, Nat.reduceMul, Nat.reduceLT, Int.reduceNeg, Int.reduceAdd, Int.reduceSub, Int.reduceMul, Int.reduceLT, Int.reduceLE, Int.reduceEq, Int.reduceToNat, reduceCtorEq, and_self, and_true, true_and, false_and, and_false, or_false, false_or, or_true, true_or, true_implies, false_implies, implies_true, not_true_eq_false, not_false_eq_true, Int.toNat_natCast, Int.cast_ofNat_Int, eq_self, ne_eq, ite_true, ite_false, if_true, if_false, Int.add_sub_cancel, Int.sub_add_cancel, Int.add_zero, Int.zero_add, cast_s, iI_in, iI_lit, iI_le, iI_lt, iI_eq, iI_cl, iI_add, iI_sub, iI_mul, iI_neg, iI_nI, ok_s, ok_ck, ok_bn, ok_ob, ck_iI, bn_eq, ob_s, om_n, om_s, cb_bI, gI_g, gI_2, gJ_1, gJ_g, gJ_2, gR_1, gR_2, gR_g, within_v, in_v, bI_i0, bI_i1, iI_bI0, iI_bI1, bI_T, bI_F, u1, u2, u3, u4, u5]
    · have e : ar G' 120 = ar G28 120 := by
        funext j
        show (G'.1 120 j).toInt = _
        rw [g5.2 120 j (by omega)]; rfl
      rw [ar_set _ _ _ (by omega) (by omega), e]
    · rw [gI_g, if_neg (by omega)]
      exact g5.2 x j (by omega)
end PR
