/-! the reference's cutting -/
section PR
variable {F : Nat} {G1 G3 G4 G5 G13 G29 G30 G32 : Grp} {v sp S cnt r m n l : Nat} {gl rt tx : Nat → Nat} {dc : Nat → Int} {fd : Fnd}
/-- what the cutting has written so far: K signs, c cuts -/
def CT (G0 G : Grp) (l K : Nat) (Y : Nat → Nat) (c : Int) : Prop := (∀ q, q < K → G.1 143 (160 * l + q) = iI (Y q)) ∧ G.1 140 l = iI c ∧ ∀ a k, ¬ (a = 140 ∧ k = l) → ¬ (a = 143 ∧ 160 * l ≤ k ∧ k < 160 * l + 160) → G.1 a k = G0.1 a k
theorem CT.put {G0 G : Grp} {K : Nat} {Y Y' : Nat → Nat} {c c' : Int} (h : CT G0 G l K Y c) (hK : K < 160) {x : Nat} (hY : ∀ q, q < K → Y' q = Y q) (hx : Y' K = x) : CT G0 (gI (gI G 143 (160 * l + K) (iI x)) 140 l (iI c')) l (K + 1) Y' c' := by
  obtain ⟨h1, h2, h3⟩ := h
  refine ⟨fun q hq => ?_, ?_, fun a k n1 n2 => ?_⟩
  · rw [gI_g, if_neg (by omega), gI_g]
    by_cases e : q = K
    · rw [if_pos ⟨rfl, by omega⟩, e, hx]
    · rw [if_neg (by omega), hY q (by omega)]; exact h1 q (by omega)
  · rw [gI_g, if_pos ⟨rfl, rfl⟩]
  · rw [gI_g, if_neg n1, gI_g, if_neg (by omega)]; exact h3 a k n1 n2
def NX (fd : Fnd) (m nx i : Nat) : Prop := nx ≤ m ∧ ∀ k, k < nx → (fd k).2.1 < i
theorem inn_m (hm : FA G30 91 51 124 m fd) (ho : FO m r n fd) (hn : n ≤ 160) (hF : 200000 ≤ F) {to nx i : Nat} (hx : NX fd m nx i) (hi : i < n) (k7 : Grp → Grp → Grp → Int32 → Int32 → Int32 → Int32 → Option Grp) (G : Grp) : ∃ nx', NX fd m nx' i ∧ (nx' < m → i ≤ (fd nx').2.1) ∧ f_X12_cutsOut_l16 F k7 F G29 G30 G (iI l) (iI to) (iI nx) (iI i) = f_X12_cutsOut_b42 F k7 G29 G30 G (iI l) (iI to) (iI nx') (iI i) := by
  obtain ⟨b0, b1⟩ := hm
  obtain ⟨o0, o1, o2⟩ := id ho
  have ic : ∀ x : Nat, x < 1000 → (iI (x : Int)).toNatClampNeg = x := fun x hx => by
    rw [iI_cl (by omega) (by omega)]
    omega
  have key : ∀ t nx, nx + t = m → NX fd m nx i → ∀ fu, t < fu → ∃ nx', NX fd m nx' i ∧ (nx' < m → i ≤ (fd nx').2.1) ∧ f_X12_cutsOut_l16 F k7 fu G29 G30 G (iI l) (iI to) (iI nx) (iI i) = f_X12_cutsOut_b42 F k7 G29 G30 G (iI l) (iI to) (iI nx') (iI i) := by
    intro t
    induction t with
    | zero =>
      intro nx e1 hx fu hfu
      obtain ⟨fu, rfl⟩ : ∃ f, fu = f + 1 := ⟨fu - 1, by omega⟩
      refine ⟨nx, hx, fun z => by omega, ?_⟩
      have e : (m : Int) ≤ nx := by omega
      show f_X12_cutsOut_l16b F k7 (f_X12_cutsOut_l16 F k7 fu) G29 G30 G _ _ _ _ = _
      unfold f_X12_cutsOut_l16b
      rw [b0, if_p (by rw [iI_le (by omega) (by omega) (by omega) (by omega)]; exact e)]
    | succ t ih =>
      intro nx e1 hx fu hfu
      obtain ⟨fu, rfl⟩ : ∃ f, fu = f + 1 := ⟨fu - 1, by omega⟩
      have e : ¬ (m : Int) ≤ nx := by omega
      have u2 := (b1 nx (by omega)).2.1
      simp only [Nat.reduceAdd] at u2
      have o := o1 nx (by omega)
      by_cases c : i ≤ (fd nx).2.1
      · refine ⟨nx, hx, fun _ => c, ?_⟩
        have c' : (i : Int) ≤ (fd nx).2.1 := by omega
        show f_X12_cutsOut_l16b F k7 (f_X12_cutsOut_l16 F k7 fu) G29 G30 G _ _ _ _ = _
        unfold f_X12_cutsOut_l16b
        rw [b0, if_n (by rw [iI_le (by omega) (by omega) (by omega) (by omega)]; exact e), ck_iI (by omega) (by omega) (by omega), ic nx (by omega), u2, if_p (by rw [iI_le (by omega) (by omega) (by omega) (by omega)]; exact c')]
      · have c' : ¬ (i : Int) ≤ (fd nx).2.1 := by omega
        obtain ⟨nx', n1, n2, n3⟩ := ih (nx + 1) (by omega) ⟨by omega, fun k hk => by
          by_cases ek : k = nx
          · rw [ek]; omega
          · exact hx.2 k (by omega)⟩ fu (by omega)
        refine ⟨nx', n1, n2, ?_⟩
        have n3 : f_X12_cutsOut_l16 F k7 fu G29 G30 G (iI l) (iI to) (iI ((nx : Int) + 1)) (iI i) = _ := n3
        rw [← n3]
        show f_X12_cutsOut_l16b F k7 (f_X12_cutsOut_l16 F k7 fu) G29 G30 G _ _ _ _ = _
        unfold f_X12_cutsOut_l16b
        rw [b0, if_n (by rw [iI_le (by omega) (by omega) (by omega) (by omega)]; exact e), ck_iI (by omega) (by omega) (by omega), ic nx (by omega), u2, if_n (by rw [iI_le (by omega) (by omega) (by omega) (by omega)]; exact c'), bn_eq, show (1 : Int32) = iI 1 from rfl, iI_add]
  exact key (m - nx) nx (by have := hx.1; omega) hx F (by have := hx.1; have := o0; omega)
theorem b138_0 (hl : l < 200) (k7 : Grp → Grp → Grp → Int32 → Int32 → Int32 → Int32 → Option Grp) (G : Grp) (v1 v2 v3 : Int32) {i : Nat} {c : Int} : f_X12_cutsOut_b138 F k7 G29 G30 G v1 v2 v3 (iI i) (iI 0) (iI l) (iI c) (iI 0) = k7 G29 G30 (gI G 140 l (iI c)) v1 v2 v3 (iI ((i : Int) + 1)) := by
  simp (disch := omega) only [reduceIte, Nat.reduceEqDiff, Nat.reduceAdd, Nat.reduceSub, Nat.reduceMul, Nat.reduceLT, Int.reduceNeg, Int.reduceAdd, Int.reduceSub, Int.reduceMul, Int.reduceLT, Int.reduceLE, Int.reduceEq, Int.reduceToNat, reduceCtorEq, and_self, and_true, true_and, false_and, and_false, or_false, false_or, or_true, true_or, true_implies, false_implies, implies_true, not_true_eq_false, not_false_eq_true, Int.toNat_natCast, Int.cast_ofNat_Int, eq_self, ne_eq, ite_true, ite_false, if_true, if_false, Int.add_sub_cancel, Int.sub_add_cancel, Int.add_zero, Int.zero_add, cast_s, iI_in, iI_lit, iI_le, iI_lt, iI_eq, iI_cl, iI_add, iI_sub, iI_mul, iI_neg, iI_nI, ok_s, ok_ck, ok_bn, ok_ob, ck_iI, bn_eq, ob_s, om_n, om_s, cb_bI, gI_g, gI_2, gJ_1, gJ_g, gJ_2, gR_1, gR_2, gR_g, within_v, in_v, bI_i0, bI_i1, iI_bI0, iI_bI1, bI_T, bI_F, f_X12_cutsOut_b138]
theorem b112_0 (hl : l < 200) (k7 : Grp → Grp → Grp → Int32 → Int32 → Int32 → Int32 → Option Grp) (G : Grp) (v3 : Int32) {i to x : Nat} {c : Int} (hx : x < 128) (hto : to < 160) (h140 : G.1 140 l = iI c) : f_X12_cutsOut_b112 F k7 G29 G30 G (iI l) (iI to) v3 (iI i) (iI 0) (iI (160 * (l : Int) + (to : Int))) (iI x) = k7 G29 G30 (gI (gI G 143 (160 * l + to) (iI x)) 140 l (iI c)) (iI l) (iI ((to : Int) + 1)) v3 (iI ((i : Int) + 1)) := by
  have nb := nar_b x hx
  have e1 : (160 * (l : Int) + (to : Int)).toNat = 160 * l + to := by omega
  have z := fun (G : Grp) v1 v2 v3 => b138_0 (F := F) (l := l) (G29 := G29) (G30 := G30) hl k7 G v1 v2 v3 (i := i) (c := c)
  simp (disch := omega) only [reduceIte, Nat.reduceEqDiff, Nat.reduceAdd, Nat.reduceSub, Nat.reduceMul, Nat.reduceLT, Int.reduceNeg, Int.reduceAdd, Int.reduceSub, Int.reduceMul, Int.reduceLT, Int.reduceLE, Int.reduceEq, Int.reduceToNat, reduceCtorEq, and_self, and_true, true_and, false_and, and_false, or_false, false_or, or_true, true_or, true_implies, false_implies, implies_true, not_true_eq_false, not_false_eq_true, Int.toNat_natCast, Int.cast_ofNat_Int, eq_self, ne_eq, ite_true, ite_false, if_true, if_false, Int.add_sub_cancel, Int.sub_add_cancel, Int.add_zero, Int.zero_add, cast_s, iI_in, iI_lit, iI_le, iI_lt, iI_eq, iI_cl, iI_add, iI_sub, iI_mul, iI_neg, iI_nI, ok_s, ok_ck, ok_bn, ok_ob, ck_iI, bn_eq, ob_s, om_n, om_s, cb_bI, gI_g, gI_2, gJ_1, gJ_g, gJ_2, gR_1, gR_2, gR_g, within_v, in_v, bI_i0, bI_i1, iI_bI0, iI_bI1, bI_T, bI_F, f_X12_cutsOut_b112, nb, e1, h140, z]
/-- one sign that is no cut -/
theorem sgn_m (h : RRul G1 G4 G29 v sp S cnt r gl rt dc) (hm : FA G30 91 51 124 m fd) (ho : FO m r n fd) (hn : n ≤ 160) (hl : l < 200) (h46 : G30.1 91 46 = iI n) (hF : 200000 ≤ F) {to nx i : Nat} (hx : NX fd m nx i) (hi : i < n) (hto : to ≤ i) (hno : ∀ k, k < m → (fd k).2.1 = i → ¬ dc (fd k).1 = 99) (ht : G30.1 123 i = iI (tx i) ∧ tx i < 128) {c : Int} (G : Grp) (h140 : G.1 140 l = iI c) (fu : Nat) : ∃ nx', NX fd m nx' i ∧ f_X12_cutsOut_l7 F (fu + 1) G29 G30 G (iI l) (iI to) (iI nx) (iI i) = f_X12_cutsOut_l7 F fu G29 G30 (gI (gI G 143 (160 * l + to) (iI (tx i))) 140 l (iI c)) (iI l) (iI ((to : Int) + 1)) (iI nx') (iI ((i : Int) + 1)) := by
  obtain ⟨b0, b1⟩ := id hm
  obtain ⟨o0, o1, o2⟩ := id ho
  have r12 := h.2.2.2.2.2.2.2.2.2.2.2.2.2
  obtain ⟨nx', n1, n2, n3⟩ := inn_m (F := F) (l := l) (G29 := G29) (to := to) hm ho hn hF hx hi (f_X12_cutsOut_l7 F fu) G
  refine ⟨nx', n1, ?_⟩
  have e : ¬ (n : Int) ≤ i := by omega
  have n1' := n1.1
  have bz := fun v3 => b112_0 (F := F) (G29 := G29) (G30 := G30) hl (f_X12_cutsOut_l7 F fu) G v3 (i := i) (c := c) (to := to) (x := tx i) ht.2 (by omega) h140
  have b81 : f_X12_cutsOut_b81 F (f_X12_cutsOut_l7 F fu) G29 G30 G (iI l) (iI to) (iI nx') (iI i) = f_X12_cutsOut_l7 F fu G29 G30 (gI (gI G 143 (160 * l + to) (iI (tx i))) 140 l (iI c)) (iI l) (iI ((to : Int) + 1)) (iI nx') (iI ((i : Int) + 1)) := by
    simp (disch := omega) only [reduceIte, Nat.reduceEqDiff, Nat.reduceAdd, Nat.reduceSub, Nat.reduceMul, Nat.reduceLT, Int.reduceNeg, Int.reduceAdd, Int.reduceSub, Int.reduceMul, Int.reduceLT, Int.reduceLE, Int.reduceEq, Int.reduceToNat, reduceCtorEq, and_self, and_true, true_and, false_and, and_false, or_false, false_or, or_true, true_or, true_implies, false_implies, implies_true, not_true_eq_false, not_false_eq_true, Int.toNat_natCast, Int.cast_ofNat_Int, eq_self, ne_eq, ite_true, ite_false, if_true, if_false, Int.add_sub_cancel, Int.sub_add_cancel, Int.add_zero, Int.zero_add, cast_s, iI_in, iI_lit, iI_le, iI_lt, iI_eq, iI_cl, iI_add, iI_sub, iI_mul, iI_neg, iI_nI, ok_s, ok_ck, ok_bn, ok_ob, ck_iI, bn_eq, ob_s, om_n, om_s, cb_bI, gI_g, gI_2, gJ_1, gJ_g, gJ_2, gR_1, gR_2, gR_g, within_v, in_v, bI_i0, bI_i1, iI_bI0, iI_bI1, bI_T, bI_F, f_X12_cutsOut_b81, f_X12_cutsOut_b82, ht.1, bz]
  show f_X12_cutsOut_l7b F (f_X12_cutsOut_l7 F fu) G29 G30 G _ _ _ _ = _
  unfold f_X12_cutsOut_l7b
  rw [h46, if_n (by rw [iI_le (by omega) (by omega) (by omega) (by omega)]; exact e), n3]
  unfold f_X12_cutsOut_b42
  rw [b0]
  have ic : ∀ x : Nat, x < 1000 → (iI (x : Int)).toNatClampNeg = x := fun x hx => by
    rw [iI_cl (by omega) (by omega)]
    omega
  by_cases c1 : nx' < m
  · have u1 := (b1 nx' c1).1
    have u2 := (b1 nx' c1).2.1
    simp only [Nat.reduceAdd] at u2
    have o := o1 nx' c1
    have g1 := (h.2.2.2.2.2.2.2.2.2.2.1 (fd nx').1 o.1).2.2.2.1
    have e2 : ¬ (m : Int) ≤ nx' := by omega
    by_cases c2 : (fd nx').2.1 = i
    · have d99 := hno nx' c1 c2
      have dd : ¬ iI (dc (fd nx').1) = iI 99 := by
        rcases doe_x h o.1 with ⟨d1, -, -⟩ | ⟨k, d1, d2, -, -⟩
        · rw [iI_eq (by omega) (by omega) (by omega) (by omega)]; exact d99
        · rw [iI_eq (by omega) (by omega) (by omega) (by omega)]; exact d99
      rw [if_n (by rw [iI_le (by omega) (by omega) (by omega) (by omega)]; exact e2), ck_iI (by omega) (by omega) (by omega), ic nx' (by omega), u2, if_p (by rw [c2]), ck_iI (by omega) (by omega) (by omega), u1, ck_iI (by omega) (by omega) (by omega), ic (fd nx').1 (by omega), g1, if_n (c := iI (dc (fd nx').1) = 99) dd]
      exact b81
    · rw [if_n (by rw [iI_le (by omega) (by omega) (by omega) (by omega)]; exact e2), ck_iI (by omega) (by omega) (by omega), ic nx' (by omega), u2, if_n (by rw [iI_eq (by omega) (by omega) (by omega) (by omega)]; omega)]
      exact b81
  · have e2 : (m : Int) ≤ nx' := by omega
    rw [if_p (by rw [iI_le (by omega) (by omega) (by omega) (by omega)]; exact e2)]
    exact b81
/-- a cut -/
theorem xxx_m (h : RRul G1 G4 G29 v sp S cnt r gl rt dc) (hm : FA G30 91 51 124 m fd) (ho : FO m r n fd) (hn : n ≤ 160) (hl : l < 200) (h46 : G30.1 91 46 = iI n) (hF : 200000 ≤ F) {to nx j : Nat} (hj : j < m) (hx : NX fd m nx (fd j).2.1) (hto : to ≤ (fd j).2.1) (h99 : dc (fd j).1 = 99) {c : Int} (G : Grp) (h140 : G.1 140 l = iI c) (fu : Nat) : f_X12_cutsOut_l7 F (fu + 1) G29 G30 G (iI l) (iI to) (iI nx) (iI ((fd j).2.1 : Int)) = f_X12_cutsOut_l7 F fu G29 G30 (gI (gI G 143 (160 * l + to) (iI 120)) 140 l (iI ((c : Int) + 1))) (iI l) (iI ((to : Int) + 1)) (iI j) (iI (((fd j).2.1 : Int) + ((fd j).2.2.1 : Int))) := by
  obtain ⟨b0, b1⟩ := id hm
  obtain ⟨o0, o1, o2⟩ := id ho
  have r12 := h.2.2.2.2.2.2.2.2.2.2.2.2.2
  have o := o1 j hj
  obtain ⟨nx', n1, n2, n3⟩ := inn_m (F := F) (l := l) (G29 := G29) (to := to) hm ho hn hF hx (by omega) (f_X12_cutsOut_l7 F fu) G
  have ej : nx' = j := by
    by_cases c1 : nx' < j
    · have := fo_inc ho (i := nx') j c1 hj
      have := n2 (by omega)
      have := (o1 nx' (by omega)).2.1
      omega
    · by_cases c2 : j < nx'
      · have := n1.2 j c2; omega
      · omega
  subst ej
  have e : ¬ (n : Int) ≤ ((fd nx').2.1 : Int) := by omega
  have n120 : vp_nar .byte (iI 120) = iI 120 := nar_b 120 (by omega)
  have e1 : (160 * (l : Int) + (to : Int)).toNat = 160 * l + to := by omega
  obtain ⟨u1, u2, u3, -⟩ := b1 nx' hj
  simp only [Nat.reduceAdd] at u2 u3
  have g1 := (h.2.2.2.2.2.2.2.2.2.2.1 (fd nx').1 o.1).2.2.2.1
  rw [h99] at g1
  have e2 : ¬ (m : Int) ≤ nx' := by omega
  show f_X12_cutsOut_l7b F (f_X12_cutsOut_l7 F fu) G29 G30 G _ _ _ _ = _
  unfold f_X12_cutsOut_l7b
  rw [h46, if_n (by rw [iI_le (by omega) (by omega) (by omega) (by omega)]; exact e), n3]
  simp (disch := omega) only [reduceIte, Nat.reduceEqDiff, Nat.reduceAdd, Nat.reduceSub, Nat.reduceMul, Nat.reduceLT, Int.reduceNeg, Int.reduceAdd, Int.reduceSub, Int.reduceMul, Int.reduceLT, Int.reduceLE, Int.reduceEq, Int.reduceToNat, reduceCtorEq, and_self, and_true, true_and, false_and, and_false, or_false, false_or, or_true, true_or, true_implies, false_implies, implies_true, not_true_eq_false, not_false_eq_true, Int.toNat_natCast, Int.cast_ofNat_Int, eq_self, ne_eq, ite_true, ite_false, if_true, if_false, Int.add_sub_cancel, Int.sub_add_cancel, Int.add_zero, Int.zero_add, cast_s, iI_in, iI_lit, iI_le, iI_lt, iI_eq, iI_cl, iI_add, iI_sub, iI_mul, iI_neg, iI_nI, ok_s, ok_ck, ok_bn, ok_ob, ck_iI, bn_eq, ob_s, om_n, om_s, cb_bI, gI_g, gI_2, gJ_1, gJ_g, gJ_2, gR_1, gR_2, gR_g, within_v, in_v, bI_i0, bI_i1, iI_bI0, iI_bI1, bI_T, bI_F, f_X12_cutsOut_b42, f_X12_cutsOut_b82, f_X12_cutsOut_b112, f_X12_cutsOut_b138, b0, e2, u1, u2, u3, g1, n120, e1, h140]
/-- a stretch without a cut -/
theorem run_m (h : RRul G1 G4 G29 v sp S cnt r gl rt dc) (hm : FA G30 91 51 124 m fd) (ho : FO m r n fd) (hn : n ≤ 160) (hl : l < 200) (h46 : G30.1 91 46 = iI n) (hF : 200000 ≤ F) (ht : ∀ i, i < n → G30.1 123 i = iI (tx i) ∧ tx i < 128) {c : Int} (G0 : Grp) {e : Nat} (he : e ≤ n) : ∀ t i to nx G Y fu, i + t = e → to ≤ i → NX fd m nx i → (∀ k, k < m → i ≤ (fd k).2.1 → (fd k).2.1 < e → ¬ dc (fd k).1 = 99) → CT G0 G l to Y c → ∃ nx' G', NX fd m nx' e ∧ CT G0 G' l (to + t) (fun q => if to ≤ q then tx (i + (q - to)) else Y q) c ∧ f_X12_cutsOut_l7 F (fu + t) G29 G30 G (iI l) (iI to) (iI nx) (iI i) = f_X12_cutsOut_l7 F fu G29 G30 G' (iI l) (iI ((to + t : Nat) : Int)) (iI nx') (iI e) := by
  intro t
  induction t with
  | zero =>
    intro i to nx G Y fu e1 e2 hx hno hct
    have : i = e := by omega
    subst this
    refine ⟨nx, G, hx, ⟨fun q hq => ?_, hct.2⟩, rfl⟩
    have hq : q < to := hq
    show _ = iI ((if to ≤ q then tx (i + (q - to)) else Y q : Nat) : Int)
    rw [if_neg (by omega)]
    exact hct.1 q hq
  | succ t ih =>
    intro i to nx G Y fu e1 e2 hx hno hct
    obtain ⟨nx1, x1, x2⟩ := sgn_m (tx := tx) h hm ho hn hl h46 hF hx (by omega) e2 (fun k hk hki => hno k hk (by omega) (by omega)) (ht i (by omega)) G hct.2.1 (fu + t)
    have ct1 := hct.put (l := l) (by omega) (Y' := fun q => if to ≤ q then tx (i + (q - to)) else Y q) (c' := (c : Int)) (x := tx i) (fun q hq => by
      show (if to ≤ q then tx (i + (q - to)) else Y q) = Y q
      rw [if_neg (by omega)]) (by
      show (if to ≤ to then tx (i + (to - to)) else Y to) = tx i
      rw [if_pos (Nat.le_refl _), Nat.sub_self, Nat.add_zero])
    obtain ⟨nx', G', y1, y2, y3⟩ := ih (i + 1) (to + 1) nx1 _ _ fu (by omega) (by omega) ⟨x1.1, fun k hk => by have := x1.2 k hk; omega⟩ (fun k hk w1 w2 => hno k hk (by omega) w2) ct1
    refine ⟨nx', G', y1, ⟨fun q hq => ?_, y2.2⟩, ?_⟩
    · have z := y2.1 q (by omega)
      rw [z]
      congr 2
      show (if to + 1 ≤ q then tx (i + 1 + (q - (to + 1))) else if to ≤ q then tx (i + (q - to)) else Y q) = if to ≤ q then tx (i + (q - to)) else Y q
      by_cases c1 : to + 1 ≤ q
      · rw [if_pos c1, if_pos (by omega), show i + 1 + (q - (to + 1)) = i + (q - to) by omega]
      · rw [if_neg c1]
    · rw [show fu + (t + 1) = fu + t + 1 by omega, x2]
      have s1 : ((to + 1 : Nat) : Int) = (to : Int) + 1 := rfl
      have s2 : ((i + 1 : Nat) : Int) = (i : Int) + 1 := rfl
      rw [s1, s2] at y3
      rw [y3, show to + 1 + t = to + (t + 1) by omega]
theorem cut_m (h : RRul G1 G4 G29 v sp S cnt r gl rt dc) (hm : FA G30 91 51 124 m fd) (ho : FO m r n fd) (hn : n ≤ 160) (hl : l < 200) (h46 : G30.1 91 46 = iI n) (hF : 200000 ≤ F) (ht : ∀ i, i < n → G30.1 123 i = iI (tx i) ∧ tx i < 128) {c0 : Int} (h140 : G32.1 140 l = iI c0) : ∃ G32', f_X12_cutsOut F G29 G30 G32 (iI l) = some G32' ∧ (∀ q, q < cN dc fd m n → G32'.1 143 (160 * l + q) = iI (cT dc fd tx m q)) ∧ G32'.1 140 l = iI ((c0 : Int) + cC dc fd m) ∧ G32'.1 139 l = iI (cN dc fd m n) ∧ ∀ a k, ¬ (a = 140 ∧ k = l) → ¬ (a = 139 ∧ k = l) → ¬ (a = 143 ∧ 160 * l ≤ k ∧ k < 160 * l + 160) → G32'.1 a k = G32.1 a k := by
  have o0 := ho.1
  have key : ∀ j, j ≤ m → ∃ (nx : Nat) (G : Grp) (fu : Nat), f_X12_cutsOut_l7 F F G29 G30 G32 (iI l) (iI 0) (iI 0) (iI 0) = f_X12_cutsOut_l7 F fu G29 G30 G (iI l) (iI ((cK dc fd j).1 : Int)) (iI nx) (iI ((cK dc fd j).2 : Int)) ∧ F = fu + (cK dc fd j).1 ∧ NX fd m nx (cK dc fd j).2 ∧ CT G32 G l (cK dc fd j).1 (cY dc fd tx j) (c0 + (cC dc fd j : Int)) := by
    intro j
    induction j with
    | zero => intro _; exact ⟨0, G32, F, rfl, rfl, ⟨Nat.zero_le _, fun k hk => absurd hk (Nat.not_lt_zero k)⟩, fun q hq => absurd hq (Nat.not_lt_zero q), by rw [h140]; show iI c0 = iI (c0 + ((0 : Nat) : Int)); rw [show c0 + ((0 : Nat) : Int) = c0 by omega], fun _ _ _ _ => rfl⟩
    | succ j ih =>
      intro hj
      obtain ⟨nx, G, fu, x1, x2, x3, x4⟩ := ih (by omega)
      obtain ⟨b1, b2, b3, b4⟩ := cK_le (dc := dc) ho j (by omega)
      have b3' := b3 j (Nat.le_refl _) (by omega)
      have o := ho.2.1 j (by omega)
      have hcc := cC_le (dc := dc) (fd := fd) j
      by_cases c : dc (fd j).1 = 99
      · obtain ⟨fu1, hfu1⟩ : ∃ fu1, fu = fu1 + 1 + ((fd j).2.1 - (cK dc fd j).2) := ⟨fu - 1 - ((fd j).2.1 - (cK dc fd j).2), by omega⟩
        obtain ⟨nx1, Ga, y1, y2, y3⟩ := run_m (tx := tx) h hm ho hn hl h46 hF ht (c := c0 + cC dc fd j) G32 (e := (fd j).2.1) (by omega) ((fd j).2.1 - (cK dc fd j).2) (cK dc fd j).2 (cK dc fd j).1 nx G _ (fu1 + 1) (by omega) b1 x3 (fun k hk w1 w2 w3 => by
          by_cases ek : k < j
          · have := b4 k ek w3; omega
          · by_cases ek2 : k = j
            · subst ek2; omega
            · have := fo_inc ho (i := j) k (by omega) hk; omega) x4
        have z := xxx_m (to := (cK dc fd j).1 + ((fd j).2.1 - (cK dc fd j).2)) (j := j) h hm ho hn hl h46 hF (by omega) y1 (by omega) c (c := c0 + cC dc fd j) Ga y2.2.1 fu1
        refine ⟨j, gI (gI Ga 143 (160 * l + ((cK dc fd j).1 + ((fd j).2.1 - (cK dc fd j).2))) (iI 120)) 140 l (iI ((c0 + (cC dc fd j : Int)) + 1)), fu1, ?_, ?_, ?_, ?_⟩
        · rw [x1, hfu1, y3, z, cK_t c]
          rfl
        · rw [cK_t c]
          show F = fu1 + ((cK dc fd j).1 + ((fd j).2.1 - (cK dc fd j).2) + 1)
          omega
        · rw [cK_t c]
          refine ⟨by omega, fun k hk => ?_⟩
          show (fd k).2.1 < (fd j).2.1 + (fd j).2.2.1
          have := fo_inc ho (i := k) j hk (by omega)
          have := (ho.2.1 k (by omega)).2.1
          omega
        · rw [cK_t c, cC_t c, show c0 + ((cC dc fd j + 1 : Nat) : Int) = c0 + (cC dc fd j : Int) + 1 by omega]
          exact y2.put (by omega) (fun q hq => by
            rw [cY_t c, if_neg (by omega)]) (by rw [cY_t c, if_pos rfl])
      · refine ⟨nx, G, fu, ?_, ?_, ?_, ?_⟩
        · rw [cK_f c]; exact x1
        · rw [cK_f c]; exact x2
        · rw [cK_f c]; exact x3
        · rw [cK_f c, cY_f c, cC_f c]; exact x4
  obtain ⟨nx, G, fu, x1, x2, x3, x4⟩ := key m (Nat.le_refl _)
  obtain ⟨b1, b2, b3, b4⟩ := cK_le (dc := dc) ho m (Nat.le_refl _)
  have hcc := cC_le (dc := dc) (fd := fd) m
  obtain ⟨fu1, hfu1⟩ : ∃ fu1, fu = fu1 + 1 + (n - (cK dc fd m).2) := ⟨fu - 1 - (n - (cK dc fd m).2), by omega⟩
  obtain ⟨nx1, Ga, y1, y2, y3⟩ := run_m (tx := tx) h hm ho hn hl h46 hF ht (c := c0 + cC dc fd m) G32 (e := n) (Nat.le_refl _) (n - (cK dc fd m).2) (cK dc fd m).2 (cK dc fd m).1 nx G _ (fu1 + 1) (by omega) b1 x3 (fun k hk w1 w2 w3 => by have := b4 k hk w3; omega) x4
  refine ⟨gI Ga 139 l (iI ((cN dc fd m n : Nat) : Int)), ?_, fun q hq => ?_, ?_, ?_, fun a k n1 n2 n3 => ?_⟩
  · show f_X12_cutsOut_l7 F F G29 G30 G32 (iI l) (iI 0) (iI 0) (iI 0) = _
    rw [x1, hfu1, y3]
    show f_X12_cutsOut_l7b F (f_X12_cutsOut_l7 F fu1) G29 G30 Ga (iI l) (iI ((cN dc fd m n : Nat) : Int)) (iI nx1) (iI n) = _
    have e : (n : Int) ≤ n := Int.le_refl _
    simp (disch := omega) only [reduceIte, Nat.reduceEqDiff, Nat.reduceAdd, Nat.reduceSub, Nat.reduceMul, Nat.reduceLT, Int.reduceNeg, Int.reduceAdd, Int.reduceSub, Int.reduceMul, Int.reduceLT, Int.reduceLE, Int.reduceEq, Int.reduceToNat, reduceCtorEq, and_self, and_true, true_and, false_and, and_false, or_false, false_or, or_true, true_or, true_implies, false_implies, implies_true, not_true_eq_false, not_false_eq_true, Int.toNat_natCast, Int.cast_ofNat_Int, eq_self, ne_eq, ite_true, ite_false, if_true, if_false, Int.add_sub_cancel, Int.sub_add_cancel, Int.add_zero, Int.zero_add, cast_s, iI_in, iI_lit, iI_le, iI_lt, iI_eq, iI_cl, iI_add, iI_sub, iI_mul, iI_neg, iI_nI, ok_s, ok_ck, ok_bn, ok_ob, ck_iI, bn_eq, ob_s, om_n, om_s, cb_bI, gI_g, gI_2, gJ_1, gJ_g, gJ_2, gR_1, gR_2, gR_g, within_v, in_v, bI_i0, bI_i1, iI_bI0, iI_bI1, bI_T, bI_F, f_X12_cutsOut_l7b, h46, e]
  · rw [gI_g, if_neg (by omega)]
    exact y2.1 q hq
  · rw [gI_g, if_neg (by omega)]
    exact y2.2.1
  · rw [gI_g, if_pos ⟨rfl, rfl⟩]
  · rw [gI_g, if_neg n2]
    exact y2.2.2 a k n1 n3
end PR
