/-! THE TURN: who waits; who knows what -/
/-- those that wait for THE TURN, in order -/
def QU (G16 G38 : Grp) (ln R : Nat) (tl : Nat → Nat) (L : Nat → Nat → Int) (qs : Nat → Nat) : Prop := R ≤ 6 ∧ (∀ i, i < R → qs i < ln ∧ L (qs i) 8 = 4 ∧ G16.2.2 64 i = some (tl (qs i)) ∧ G38.1 155 i = iI (qs i)) ∧ G38.1 91 85 = iI R
section PR
variable {F : Nat} {G1 G2 G3 G4 G5 G6 G7 G8 G9 G10 G11 G12 G13 G14 G15 G16 G17 G23 G24 G25 G26 G29 G30 G31 G32 G33 G34 G35 G36 G37 G38 G41 : Grp} {vn gn cn d n pn ln tn sn wn R : Nat} {tp tl Ln qs : Nat → Nat} {P L T : Nat → Nat → Int} {X W : Nat → Nat → Nat}
theorem line_both (hc : LC G10 G13 n ln tp tl L) (hm : LM G32 ln L) (hb : LB pn d ln L) (hd : d < 3600) (hF : 200000 ≤ F) : ∀ (m k : Nat), k + m = 6 → ∀ fu, m < fu → ∀ (G16 G38 : Grp) (af : Option Nat) (qs : Nat → Nat), (∀ a, af = some a → a < ln ∧ L a 8 = 4) → QU G16 G38 ln k tl L qs → ∃ (R : Nat) (qs' : Nat → Nat) (G16' G38' : Grp), f_X9_lineUp_l9 F fu G10 G13 G16 (iI k) (af.map tl) = some (iI R, G16') ∧ f_X12_turns_l12 F fu G23 G24 G25 G32 G37 G38 (iI (oI af)) = f_X12_turns_l60 F F G23 G24 G25 G32 G37 G38' 1 0 ∧ QU G16' G38' ln R tl L qs' ∧ G16'.1 = G16.1 ∧ G16'.2.1 = G16.2.1 := by
  have hl := hb.1
  intro m
  induction m with
  | zero =>
    intro k hk fu hfu G16 G38 af qs haf hq
    obtain ⟨fu, rfl⟩ : ∃ f, fu = f + 1 := ⟨fu - 1, by omega⟩
    obtain ⟨q1, q2, q3⟩ := id hq
    have hk6 : k = 6 := by omega
    subst hk6
    refine ⟨6, qs, G16, G38, ?_, ?_, hq, rfl, rfl⟩
    · show f_X9_lineUp_l9b F (f_X9_lineUp_l9 F fu) G10 G13 G16 _ _ = _
      unfold f_X9_lineUp_l9b
      cases af with
      | none => rfl
      | some a =>
        show om (some (tl a)) _ _ = _
        rw [om_s, if_p (by decide +kernel)]
    · show f_X12_turns_l12b F (f_X12_turns_l12 F fu) G23 G24 G25 G32 G37 G38 _ = _
      unfold f_X12_turns_l12b
      cases af with
      | none => rw [if_p (by decide +kernel)]
      | some a =>
        have := (haf a rfl).1
        rw [if_n (by
          show ¬ iI (a : Int) = -1
          rw [m1_iI, iI_eq (by omega) (by omega) (by omega) (by omega)]
          omega), q3, if_p (by decide +kernel)]
  | succ m ih =>
    intro k hk fu hfu G16 G38 af qs haf hq
    obtain ⟨fu, rfl⟩ : ∃ f, fu = f + 1 := ⟨fu - 1, by omega⟩
    obtain ⟨q1, q2, q3⟩ := id hq
    cases af with
    | none =>
      refine ⟨k, qs, G16, G38, rfl, ?_, hq, rfl, rfl⟩
      show f_X12_turns_l12b F (f_X12_turns_l12 F fu) G23 G24 G25 G32 G37 G38 _ = _
      unfold f_X12_turns_l12b
      rw [if_p (by decide +kernel)]
    | some a =>
      obtain ⟨ha, ha4⟩ := haf a rfl
      have fc := first_c (F := F) hc hb hd hF (s := 4) (by omega) (af := some a) (fun a' h => by cases h; exact ha)
      have nm := next_m (F := F) hm hb hd hF (s := 4) (by omega) (af := some a) (fun a' h => by cases h; exact ha)
      have fc : f_X6_firstIn F G10 G13 4 (some (tl a)) = some ((nxt L 4 (some a) ln).map tl) := fc
      have nm : f_X12_nextIn F G32 4 (iI (oI (some a))) = some (iI (oI (nxt L 4 (some a) ln))) := nm
      obtain ⟨R, qs', G16', G38', r1, r2, r3, r4, r5⟩ := ih (k + 1) (by omega) fu (by omega) (gR G16 64 k (some (tl a))) (gI (gI G38 155 k (iI a)) 91 85 (iI ((k : Int) + 1))) (nxt L 4 (some a) ln) (fun i => if i = k then a else qs i) (fun b hb => by
        have := nxt_lt ln b hb
        exact ⟨this.1, this.2.1⟩) ⟨by omega, fun i hi => by
        dsimp only
        rw [gR_g, gI_g, gI_g, if_neg (show ¬ (155 = 91 ∧ i = 85) by omega)]
        by_cases e : i = k
        · rw [if_pos e, if_pos ⟨rfl, e⟩, if_pos ⟨rfl, e⟩]
          exact ⟨ha, ha4, rfl, rfl⟩
        · rw [if_neg e, if_neg fun z => e z.2, if_neg fun z => e z.2]
          exact q2 i (by omega), by rw [gI_g, if_pos ⟨rfl, rfl⟩]; rfl⟩
      have r1 : f_X9_lineUp_l9 F fu G10 G13 (gR G16 64 k (some (tl a))) (iI ((k : Int) + 1)) ((nxt L 4 (some a) ln).map tl) = _ := r1
      refine ⟨R, qs', G16', G38', ?_, ?_, r3, r4, r5⟩
      · show f_X9_lineUp_l9b F (f_X9_lineUp_l9 F fu) G10 G13 G16 _ (some (tl a)) = _
        unfold f_X9_lineUp_l9b
        rw [om_s, if_n (by rw [show (6 : Int32) = iI 6 from rfl, iI_le (by omega) (by omega) (by omega) (by omega)]; omega), ck_iI (by omega) (by omega) (by omega), bn_eq, bn_eq, fc, ob_s, iI_cl (by omega) (by omega), iI_lit, iI_add, Int.toNat_natCast]
        rw [← r1]
        cases nxt L 4 (some a) ln <;> rfl
      · show f_X12_turns_l12b F (f_X12_turns_l12 F fu) G23 G24 G25 G32 G37 G38 _ = _
        unfold f_X12_turns_l12b
        have e1 : ¬ iI (oI (some a)) = -1 := by
          show ¬ iI (a : Int) = -1
          rw [m1_iI, iI_eq (by omega) (by omega) (by omega) (by omega)]
          omega
        rw [if_n e1, q3, if_n (by rw [show (6 : Int32) = iI 6 from rfl, iI_le (by omega) (by omega) (by omega) (by omega)]; omega), ck_iI (by omega) (by omega) (by omega), bn_eq, bn_eq, nm, ob_s, iI_cl (by omega) (by omega), Int.toNat_natCast, gI_g, if_neg (by omega), q3, iI_lit, iI_add]
        exact r2
abbrev knB (W : Nat → Nat → Nat) (t k : Nat) : Prop := (if k < 18 then (W t 0).testBit k else (W t 1).testBit (k - 18)) = true
theorem tong_both (hf : RFolk G6 G24 vn gn cn) (hp : RPair G7 G9 G25 gn cn d n pn tp P) (hc : LC G10 G13 n ln tp tl L) (hm : LM G32 ln L) (hb : LB pn d ln L) (hw : RTr G16 G37 wn W) {q : Nat} (hq : q < ln) : ∃ k : Nat, k < 36 ∧ f_X3_tonguesBit F G6 G9 G13 (tl q) = some (iI k) ∧ ∀ t, t < wn → f_X12_knows F G24 G25 G32 G37 (iI t) (iI q) = some (bI (knB W t k)) := by
  have hl := hb.1
  obtain ⟨p1, p2, p3, p4, p5, p6⟩ := hb.2 q hq
  obtain ⟨q0, q0', q1, q2, q6, q7, q8, q9, q10, q11⟩ := hc.at hq
  obtain ⟨m0, m1, m2, m6, m7, m8, m9, m10, m11⟩ := hm.at hq
  have hpi : (L q 0).toNat < pn := by omega
  have hL0 : L q 0 = ((L q 0).toNat : Nat) := by omega
  rw [hL0] at m0
  generalize (L q 0).toNat = p at hpi hL0 q0' m0
  have hpn := hp.1
  have pr := hp.2.2.2.1 p hpi
  have pb := hp.2.2.2.2.1 p hpi
  obtain ⟨-, -, -, -, -, -, -, -, g1, g2⟩ := id hp
  obtain ⟨v1, v2, v3, v4, v5, v6, v7, v8, v9, va, vb, vc⟩ := id hf
  obtain ⟨w1, z1, z2, z3, z4⟩ := vb (P p 1).toNat (by omega)
  obtain ⟨-, w2, -, -, -, ⟨y1, y2, y3, y4⟩, -⟩ := vc (P p 2).toNat (by omega)
  obtain ⟨y1, rfl⟩ : ∃ k : Nat, y1 = (k : Int) := ⟨y1.toNat, by omega⟩
  obtain ⟨z1, rfl⟩ : ∃ k : Nat, z1 = (k : Int) := ⟨z1.toNat, by omega⟩
  have r1 := pr.2.2.1 1 (by omega)
  have r2 := pr.2.2.1 2 (by omega)
  obtain ⟨t1, t2, -⟩ := tong_m (F := F) hf hp hpi
  rw [z4] at t1
  rw [y4] at t2
  rw [z4] at w1
  rw [y4] at w2
  obtain ⟨h1, h2, h3, h4, h5⟩ := id hw
  have kn : ∀ k t : Nat, k < 36 → t < wn → (if 18 ≤ iI (k : Int) then ck (iI t) 6 (f_X12_knows_b72 F G24 G25 G32 G37 (((G37.1 150 (iI t).toNatClampNeg) >>> ((iI k - 18) &&& 31)) &&& 1)) else ck (iI t) 6 (f_X12_knows_b72 F G24 G25 G32 G37 (((G37.1 149 (iI t).toNatClampNeg) >>> (iI k &&& 31)) &&& 1))) = some (bI (knB W t k)) := by
    intro k t hk ht
    obtain ⟨-, -, -, a4, a5, -⟩ := h4 t ht
    obtain ⟨b1, b2, -⟩ := h5 t ht
    have e1 : (iI (t : Int)).toNatClampNeg = t := by rw [iI_cl (by omega) (by omega)]; omega
    have fin : ∀ c : Bool, f_X12_knows_b72 F G24 G25 G32 G37 (bI (c = true)) = some (bI (c = true)) := by
      intro c
      unfold f_X12_knows_b72
      cases c
      · rfl
      · rfl
    by_cases c : k < 18
    · rw [if_n (by rw [show (18 : Int32) = iI 18 from rfl, iI_le (by omega) (by omega) (by omega) (by omega)]; omega), ck_iI (by omega) (by omega) (by omega), e1, a4]
      have b := iI_bit (a := W t 0) (c := k) (by omega) (by omega)
      have b : (iI ((W t 0 : Nat) : Int) >>> (iI (k : Int) &&& 31)) &&& 1 = _ := b
      rw [b, fin]
      unfold knB
      congr 1
      exact bI_congr (by rw [if_pos c])
    · have e2 : iI (k : Int) - 18 = iI ((k - 18 : Nat) : Int) := by
        rw [show (18 : Int32) = iI 18 from rfl, iI_sub]; congr 1; omega
      rw [if_p (by rw [show (18 : Int32) = iI 18 from rfl, iI_le (by omega) (by omega) (by omega) (by omega)]; omega), ck_iI (by omega) (by omega) (by omega), e1, a5, e2]
      have b := iI_bit (a := W t 1) (c := k - 18) (by omega) (by omega)
      have b : (iI ((W t 1 : Nat) : Int) >>> (iI ((k - 18 : Nat) : Int) &&& 31)) &&& 1 = _ := b
      rw [b, fin]
      unfold knB
      congr 1
      exact bI_congr (by rw [if_neg c])
  have hy : L q 1 = 0 ∨ L q 1 = 1 := by omega
  rcases hy with hy | hy
  · rw [hy] at q1 m1
    refine ⟨6 * z1 + y1, by omega, ?_, fun t ht => ?_⟩
    · skip
      simp (disch := omega) only [reduceIte, Nat.reduceEqDiff, Nat.reduceAdd, Nat.reduceSub, Nat.reduceMul, Nat.reduceLT, Int.reduceNeg, Int.reduceAdd, Int.reduceSub, Int.reduceMul, Int.reduceLT, Int.reduceLE, Int.reduceEq, Int.reduceToNat, reduceCtorEq, and_self, and_true, true_and, false_and, and_false, or_false, false_or, or_true, true_or, true_implies, false_implies, implies_true, not_true_eq_false, not_false_eq_true, Int.toNat_natCast, Int.cast_ofNat_Int, eq_self, ne_eq, ite_true, ite_false, if_true, if_false, Int.add_sub_cancel, Int.sub_add_cancel, Int.add_zero, Int.zero_add, cast_s, iI_in, iI_lit, iI_le, iI_lt, iI_eq, iI_cl, iI_add, iI_sub, iI_mul, iI_neg, iI_nI, ok_s, ok_ck, ok_bn, ok_ob, ck_iI, bn_eq, ob_s, om_n, om_s, cb_bI, gI_g, gI_2, gJ_1, gJ_g, gJ_2, gR_1, gR_2, gR_g, within_v, in_v, bI_i0, bI_i1, iI_bI0, iI_bI1, bI_T, bI_F, f_X3_tonguesBit, q0', r1, r2, w1, w2, q1]
      congr 1
    · rw [← kn (6 * z1 + y1) t (by omega) ht]
      have e3 : (1 : Int32) - iI 0 = iI 1 := by decide +kernel
      have e4 : (6 : Int32) * iI (z1 : Int) + iI (y1 : Int) = iI ((6 * z1 + y1 : Nat) : Int) := by
        rw [show (6 : Int32) = iI 6 from rfl, iI_mul, iI_add]; congr 1
      unfold f_X12_knows
      rw [ck_iI (by omega) (by omega) (by omega), bn_eq, ck_iI (by omega) (by omega) (by omega), bn_eq, iI_cl (by omega) (by omega), Int.toNat_natCast, m0, m1, e3, t1, ob_s, t2, ob_s, bn_eq, e4]
  · rw [hy] at q1 m1
    refine ⟨6 * y1 + z1, by omega, ?_, fun t ht => ?_⟩
    · skip
      simp (disch := omega) only [reduceIte, Nat.reduceEqDiff, Nat.reduceAdd, Nat.reduceSub, Nat.reduceMul, Nat.reduceLT, Int.reduceNeg, Int.reduceAdd, Int.reduceSub, Int.reduceMul, Int.reduceLT, Int.reduceLE, Int.reduceEq, Int.reduceToNat, reduceCtorEq, and_self, and_true, true_and, false_and, and_false, or_false, false_or, or_true, true_or, true_implies, false_implies, implies_true, not_true_eq_false, not_false_eq_true, Int.toNat_natCast, Int.cast_ofNat_Int, eq_self, ne_eq, ite_true, ite_false, if_true, if_false, Int.add_sub_cancel, Int.sub_add_cancel, Int.add_zero, Int.zero_add, cast_s, iI_in, iI_lit, iI_le, iI_lt, iI_eq, iI_cl, iI_add, iI_sub, iI_mul, iI_neg, iI_nI, ok_s, ok_ck, ok_bn, ok_ob, ck_iI, bn_eq, ob_s, om_n, om_s, cb_bI, gI_g, gI_2, gJ_1, gJ_g, gJ_2, gR_1, gR_2, gR_g, within_v, in_v, bI_i0, bI_i1, iI_bI0, iI_bI1, bI_T, bI_F, f_X3_tonguesBit, q0', r1, r2, w1, w2, q1]
      congr 1
    · rw [← kn (6 * y1 + z1) t (by omega) ht]
      have e3 : (1 : Int32) - iI 1 = iI 0 := by decide +kernel
      have e4 : (6 : Int32) * iI (y1 : Int) + iI (z1 : Int) = iI ((6 * y1 + z1 : Nat) : Int) := by
        rw [show (6 : Int32) = iI 6 from rfl, iI_mul, iI_add]; congr 1
      unfold f_X12_knows
      rw [ck_iI (by omega) (by omega) (by omega), bn_eq, ck_iI (by omega) (by omega) (by omega), bn_eq, iI_cl (by omega) (by omega), Int.toNat_natCast, m0, m1, e3, t2, ob_s, t1, ob_s, bn_eq, e4]
end PR
