/-! the reference's rows of ends, as sets -/
theorem j63 : ∀ s : Nat, s < 64 → ((jI (s : Int) &&& 63).toBitVec.smod 64).toNat = s := by decide
theorem jI_64 (n : Nat) : (OfNat.ofNat n : Int64) = jI (OfNat.ofNat n) := rfl
theorem tb1 (k : Nat) : Nat.testBit 1 (k + 1) = false := by
  rw [Nat.testBit_succ]
  exact Nat.zero_testBit k
theorem sar64 (a : Int64) {s : Nat} (hs : s < 64) : ((a >>> (jI (s : Int) &&& 63)) &&& 1) = if a.toBitVec.getLsbD s = true then 1 else 0 := by
  apply Int64.toBitVec_inj.mp
  apply BitVec.eq_of_getLsbD_eq
  intro i hi
  have e : (a >>> (jI (s : Int) &&& 63)).toBitVec = a.toBitVec.sshiftRight s := by
    show a.toBitVec.sshiftRight ((jI (s : Int) &&& 63).toBitVec.smod 64).toNat = _
    rw [j63 s hs]
  have one : ∀ i : Nat, (1 : Int64).toBitVec.getLsbD i = decide (i = 0) := fun i => by
    show (BitVec.ofNat 64 1).getLsbD i = _
    rw [BitVec.getLsbD_ofNat]
    cases i with
    | zero => rfl
    | succ i => simp [tb1]
  rw [Int64.toBitVec_and, BitVec.getLsbD_and, e, one]
  by_cases h0 : i = 0
  · subst h0
    rw [BitVec.getLsbD_sshiftRight]
    have h1 : s + 0 < 64 := by omega
    by_cases b : a.toBitVec.getLsbD s = true
    · rw [if_pos b, one]
      simp [b, hs]
    · have b' : a.toBitVec.getLsbD s = false := by simpa using b
      rw [if_neg b]
      have z : (0 : Int64).toBitVec.getLsbD 0 = false := by decide
      rw [z]
      simp [hs]
      rw [← BitVec.getLsbD_eq_getElem]
      exact b'
  · have z : (0 : Int64).toBitVec.getLsbD i = false := by
      show (BitVec.ofNat 64 0).getLsbD i = false
      simp
    have d : decide (i = 0) = false := decide_eq_false h0
    rw [d, Bool.and_false]
    by_cases b : a.toBitVec.getLsbD s = true
    · rw [if_pos b, one, d]
    · rw [if_neg b, z]
theorem shl64 {s : Nat} (hs : s < 64) (i : Nat) (hi : i < 64) : ((1 : Int64) <<< (jI (s : Int) &&& 63)).toBitVec.getLsbD i = decide (i = s) := by
  have e : ((1 : Int64) <<< (jI (s : Int) &&& 63)).toBitVec = (1 : Int64).toBitVec <<< s := by
    show (1 : Int64).toBitVec <<< ((jI (s : Int) &&& 63).toBitVec.smod 64).toNat = _
    rw [j63 s hs]
  rw [e, BitVec.getLsbD_shiftLeft]
  show (decide (i < 64) && !decide (i < s) && (BitVec.ofNat 64 1).getLsbD (i - s)) = _
  rw [BitVec.getLsbD_ofNat]
  by_cases h : i = s
  · subst h
    simp [hi]
  · by_cases h2 : i < s
    · simp [h2, h]
    · have h3 : ¬ i - s = 0 := by omega
      obtain ⟨k, hk⟩ : ∃ k, i - s = k + 1 := ⟨i - s - 1, by omega⟩
      rw [hk]
      simp [h, tb1]
def wd (G : Grp) (w : Nat) : BitVec 64 := (G.2.1 122 w).toBitVec
/-- j lies in row (k, i) -/
abbrev rw' (k i : Nat) : Nat := 3 * (161 * k + i)
def SE (G : Grp) (k i j : Nat) : Prop := j < 192 ∧ (wd G (rw' k i + j / 64)).getLsbD (j % 64) = true
theorem cmp1 : lg_cmp (1 : Int64) 1 = 0 := by decide
theorem cmp0 : ¬ lg_cmp (0 : Int64) 1 = 0 := by decide
section PR
variable {F : Nat} {G : Grp}
theorem place_v {k i : Nat} (hk : k < 420) (hi : i < 161) : f_X12_place F (iI k) (iI i) = some (iI ((rw' k i : Nat) : Int)) := by
  simp (disch := omega) only [reduceIte, Nat.reduceEqDiff, Nat.reduceAdd, Nat.reduceSub, Nat.reduceMul, Nat.reduceLT, Int.reduceNeg, Int.reduceAdd, Int.reduceSub, Int.reduceMul, Int.reduceLT, Int.reduceLE, Int.reduceEq, Int.reduceToNat, reduceCtorEq, and_self, and_true, true_and, false_and, and_false, or_false, false_or, or_true, true_or, true_implies, false_implies, implies_true, not_true_eq_false, not_false_eq_true, Int.toNat_natCast, Int.cast_ofNat_Int, eq_self, ne_eq, ite_true, ite_false, if_true, if_false, Int.add_sub_cancel, Int.sub_add_cancel, Int.add_zero, Int.zero_add, cast_s, iI_in, iI_lit, iI_le, iI_lt, iI_eq, iI_cl, iI_add, iI_sub, iI_mul, iI_neg, iI_nI, ok_s, ok_ck, ok_bn, ok_ob, ck_iI, bn_eq, ob_s, om_n, om_s, cb_bI, gI_g, gI_2, gJ_1, gJ_g, gJ_2, gR_1, gR_2, gR_g, within_v, in_v, bI_i0, bI_i1, iI_bI0, iI_bI1, bI_T, bI_F, f_X12_place]
  congr 2
theorem isEnd_v {x j : Nat} (hx : x + j / 64 < 202860) (hj : j < 192) : f_X12_isEnd F G (iI x) (iI j) = some (bI ((wd G (x + j / 64)).getLsbD (j % 64) = true)) := by
  have e1 : iI (j : Int) / iI 64 = iI ((j / 64 : Nat) : Int) := by
    rw [iI_div (by omega) (by omega) (by omega) (by omega)]; congr 1
  have e2 : iI (x : Int) + iI ((j / 64 : Nat) : Int) = iI ((x + j / 64 : Nat) : Int) := by rw [iI_add]; rfl
  have e3 : iI (j : Int) - iI ((j / 64 : Nat) : Int) * iI 64 = iI ((j % 64 : Nat) : Int) := by
    rw [iI_mul, iI_sub]; congr 1; omega
  have e4 : (iI ((j % 64 : Nat) : Int)).toInt64 = jI ((j % 64 : Nat) : Int) := iI_jI (by omega) (by omega)
  have e5 : (iI ((x + j / 64 : Nat) : Int)).toNatClampNeg = x + j / 64 := by rw [iI_cl (by omega) (by omega)]; omega
  unfold f_X12_isEnd
  simp only [iI_lit, e1, e2, e3, e4, e5]
  rw [ck_ok ((iI_in (by omega) (by omega)).mpr ⟨by omega, by omega⟩), sar64 _ (Nat.mod_lt _ (by omega))]
  show (if lg_cmp (if (wd G (x + j / 64)).getLsbD (j % 64) = true then 1 else 0) 1 = 0 then some (iI 1) else some (iI 0)) = _
  by_cases b : (wd G (x + j / 64)).getLsbD (j % 64) = true
  · rw [if_pos b, if_pos cmp1, bI_t b]; rfl
  · rw [if_neg b, if_neg cmp0, bI_f b]; rfl
theorem isEnd_s {k i j : Nat} (hk : k < 420) (hi : i < 161) (hj : j < 192) [Decidable (SE G k i j)] : f_X12_isEnd F G (iI ((rw' k i : Nat) : Int)) (iI j) = some (bI (SE G k i j)) := by
  rw [isEnd_v (by unfold rw'; omega) hj]
  exact congrArg some (bI_congr ⟨fun z => ⟨hj, z⟩, fun z => z.2⟩)
theorem puts_v {x j : Nat} (hx : x + j / 64 < 202860) (hj : j < 192) : ∃ G', f_X12_puts F G (iI x) (iI j) = some G' ∧ G'.1 = G.1 ∧ G'.2.2 = G.2.2 ∧ ∀ w b, b < 64 → (wd G' w).getLsbD b = ((wd G w).getLsbD b || (decide (w = x + j / 64) && decide (b = j % 64))) := by
  have e1 : iI (j : Int) / iI 64 = iI ((j / 64 : Nat) : Int) := by
    rw [iI_div (by omega) (by omega) (by omega) (by omega)]; congr 1
  have e2 : iI (x : Int) + iI ((j / 64 : Nat) : Int) = iI ((x + j / 64 : Nat) : Int) := by rw [iI_add]; rfl
  have e3 : iI (j : Int) - iI ((j / 64 : Nat) : Int) * iI 64 = iI ((j % 64 : Nat) : Int) := by
    rw [iI_mul, iI_sub]; congr 1; omega
  have e4 : (iI ((j % 64 : Nat) : Int)).toInt64 = jI ((j % 64 : Nat) : Int) := iI_jI (by omega) (by omega)
  have e5 : (iI ((x + j / 64 : Nat) : Int)).toNatClampNeg = x + j / 64 := by rw [iI_cl (by omega) (by omega)]; omega
  refine ⟨gJ G 122 (x + j / 64) (G.2.1 122 (x + j / 64) ||| ((1 : Int64) <<< (jI ((j % 64 : Nat) : Int) &&& 63))), ?_, rfl, rfl, fun w b hb => ?_⟩
  · unfold f_X12_puts
    simp only [iI_lit, e1, e2, e3, e4, e5, bn_eq]
    rw [ck_ok ((iI_in (by omega) (by omega)).mpr ⟨by omega, by omega⟩), ck_ok ((iI_in (by omega) (by omega)).mpr ⟨by omega, by omega⟩)]
  · show ((gJ G 122 (x + j / 64) (G.2.1 122 (x + j / 64) ||| ((1 : Int64) <<< (jI ((j % 64 : Nat) : Int) &&& 63)))).2.1 122 w).toBitVec.getLsbD b = _
    rw [gJ_g]
    by_cases e : w = x + j / 64
    · rw [if_pos ⟨rfl, e⟩, Int64.toBitVec_or, BitVec.getLsbD_or, shl64 (Nat.mod_lt _ (by omega)) b hb, e]
      simp [wd]
    · rw [if_neg (fun z => e z.2)]
      simp [e, wd]
theorem puts_s {k i j : Nat} (hk : k < 420) (hi : i < 161) (hj : j < 192) : ∃ G', f_X12_puts F G (iI ((rw' k i : Nat) : Int)) (iI j) = some G' ∧ G'.1 = G.1 ∧ G'.2.2 = G.2.2 ∧ ∀ k' i' j', i' < 161 → (SE G' k' i' j' ↔ SE G k' i' j' ∨ (k' = k ∧ i' = i ∧ j' = j)) := by
  obtain ⟨G', h1, h2, h3, h4⟩ := puts_v (F := F) (G := G) (x := rw' k i) (j := j) (by unfold rw'; omega) hj
  refine ⟨G', h1, h2, h3, fun k' i' j' hi' => ?_⟩
  unfold SE
  constructor
  · rintro ⟨a1, a2⟩
    rw [h4 _ _ (Nat.mod_lt _ (by omega)), Bool.or_eq_true, Bool.and_eq_true, decide_eq_true_iff, decide_eq_true_iff] at a2
    rcases a2 with a2 | ⟨a2, a3⟩
    · exact Or.inl ⟨a1, a2⟩
    · unfold rw' at a2
      exact Or.inr ⟨by omega, by omega, by omega⟩
  · rintro (⟨a1, a2⟩ | ⟨rfl, rfl, rfl⟩)
    · refine ⟨a1, ?_⟩
      rw [h4 _ _ (Nat.mod_lt _ (by omega)), a2, Bool.true_or]
    · refine ⟨hj, ?_⟩
      rw [h4 _ _ (Nat.mod_lt _ (by omega))]
      simp
theorem adds_v {x y : Nat} (hx : x + 2 < 202860) (hy : y + 2 < 202860) (hxy : x + 2 < y ∨ y + 2 < x) (hF : 200000 ≤ F) : ∃ G', f_X12_adds F G (iI x) (iI y) = some G' ∧ G'.1 = G.1 ∧ G'.2.2 = G.2.2 ∧ ∀ w b, b < 64 → (wd G' w).getLsbD b = if x ≤ w ∧ w < x + 3 then ((wd G w).getLsbD b || (wd G (y + (w - x))).getLsbD b) else (wd G w).getLsbD b := by
  have key : ∀ m t, t + m = 3 → ∀ fu, m < fu → ∀ G1 : Grp, G1.1 = G.1 → G1.2.2 = G.2.2 → (∀ w b, b < 64 → (wd G1 w).getLsbD b = if x ≤ w ∧ w < x + t then ((wd G w).getLsbD b || (wd G (y + (w - x))).getLsbD b) else (wd G w).getLsbD b) → ∃ G', f_X12_adds_l2 F fu G1 (iI x) (iI y) (iI (t : Int)) = some G' ∧ G'.1 = G.1 ∧ G'.2.2 = G.2.2 ∧ ∀ w b, b < 64 → (wd G' w).getLsbD b = if x ≤ w ∧ w < x + 3 then ((wd G w).getLsbD b || (wd G (y + (w - x))).getLsbD b) else (wd G w).getLsbD b := by
    intro m
    induction m with
    | zero =>
      intro t ht fu hfu G1 g1 g2 g3
      obtain ⟨fu, rfl⟩ : ∃ f, fu = f + 1 := ⟨fu - 1, by omega⟩
      have et : t = 3 := by omega
      subst et
      refine ⟨G1, ?_, g1, g2, g3⟩
      show f_X12_adds_l2b F (f_X12_adds_l2 F fu) G1 _ _ _ = _
      have e : (3 : Int) ≤ ((3 : Nat) : Int) := by omega
      simp (disch := omega) only [reduceIte, Nat.reduceEqDiff, Nat.reduceAdd, Nat.reduceSub, Nat.reduceMul, Nat.reduceLT, Int.reduceNeg, Int.reduceAdd, Int.reduceSub, Int.reduceMul, Int.reduceLT, Int.reduceLE, Int.reduceEq, Int.reduceToNat, reduceCtorEq, and_self, and_true, true_and, false_and, and_false, or_false, false_or, or_true, true_or, true_implies, false_implies, implies_true, not_true_eq_false, not_false_eq_true, Int.toNat_natCast, Int.cast_ofNat_Int, eq_self, ne_eq, ite_true, ite_false, if_true, if_false, Int.add_sub_cancel, Int.sub_add_cancel, Int.add_zero, Int.zero_add, cast_s, iI_in, iI_lit, iI_le, iI_lt, iI_eq, iI_cl, iI_add, iI_sub, iI_mul, iI_neg, iI_nI, ok_s, ok_ck, ok_bn, ok_ob, ck_iI, bn_eq, ob_s, om_n, om_s, cb_bI, gI_g, gI_2, gJ_1, gJ_g, gJ_2, gR_1, gR_2, gR_g, within_v, in_v, bI_i0, bI_i1, iI_bI0, iI_bI1, bI_T, bI_F, f_X12_adds_l2b, e]
    | succ m ih =>
      intro t ht fu hfu G1 g1 g2 g3
      obtain ⟨fu, rfl⟩ : ∃ f, fu = f + 1 := ⟨fu - 1, by omega⟩
      obtain ⟨G', r1, r2⟩ := ih (t + 1) (by omega) fu (by omega) (gJ G1 122 (x + t) (G1.2.1 122 (x + t) ||| G1.2.1 122 (y + t))) g1 g2 (fun w b hb => by
        show ((gJ G1 122 (x + t) (G1.2.1 122 (x + t) ||| G1.2.1 122 (y + t))).2.1 122 w).toBitVec.getLsbD b = _
        rw [gJ_g]
        by_cases e : w = x + t
        · rw [if_pos ⟨rfl, e⟩, Int64.toBitVec_or, BitVec.getLsbD_or, if_pos (by omega)]
          have q1 : (G1.2.1 122 (x + t)).toBitVec.getLsbD b = (wd G w).getLsbD b := by
            have := g3 (x + t) b hb
            rw [if_neg (by omega)] at this
            rw [e]; exact this
          have q2 : (G1.2.1 122 (y + t)).toBitVec.getLsbD b = (wd G (y + (w - x))).getLsbD b := by
            have := g3 (y + t) b hb
            rw [if_neg (by omega)] at this
            rw [show w - x = t by omega]; exact this
          rw [q1, q2]
        · rw [if_neg (fun z => e z.2)]
          have := g3 w b hb
          by_cases c : x ≤ w ∧ w < x + t
          · rw [if_pos c] at this
            rw [if_pos (by omega)]; exact this
          · rw [if_neg c] at this
            rw [if_neg (by omega)]; exact this)
      refine ⟨G', ?_, r2⟩
      show f_X12_adds_l2b F (f_X12_adds_l2 F fu) G1 _ _ _ = _
      have e : ¬ (3 : Int) ≤ (t : Int) := by omega
      have t1 : ((x : Int) + (t : Int)).toNat = x + t := by omega
      have t2 : ((y : Int) + (t : Int)).toNat = y + t := by omega
      simp (disch := omega) only [reduceIte, Nat.reduceEqDiff, Nat.reduceAdd, Nat.reduceSub, Nat.reduceMul, Nat.reduceLT, Int.reduceNeg, Int.reduceAdd, Int.reduceSub, Int.reduceMul, Int.reduceLT, Int.reduceLE, Int.reduceEq, Int.reduceToNat, reduceCtorEq, and_self, and_true, true_and, false_and, and_false, or_false, false_or, or_true, true_or, true_implies, false_implies, implies_true, not_true_eq_false, not_false_eq_true, Int.toNat_natCast, Int.cast_ofNat_Int, eq_self, ne_eq, ite_true, ite_false, if_true, if_false, Int.add_sub_cancel, Int.sub_add_cancel, Int.add_zero, Int.zero_add, cast_s] at r1
      simp (disch := omega) only [reduceIte, Nat.reduceEqDiff, Nat.reduceAdd, Nat.reduceSub, Nat.reduceMul, Nat.reduceLT, Int.reduceNeg, Int.reduceAdd, Int.reduceSub, Int.reduceMul, Int.reduceLT, Int.reduceLE, Int.reduceEq, Int.reduceToNat, reduceCtorEq, and_self, and_true, true_and, false_and, and_false, or_false, false_or, or_true, true_or, true_implies, false_implies, implies_true, not_true_eq_false, not_false_eq_true, Int.toNat_natCast, Int.cast_ofNat_Int, eq_self, ne_eq, ite_true, ite_false, if_true, if_false, Int.add_sub_cancel, Int.sub_add_cancel, Int.add_zero, Int.zero_add, cast_s, iI_in, iI_lit, iI_le, iI_lt, iI_eq, iI_cl, iI_add, iI_sub, iI_mul, iI_neg, iI_nI, ok_s, ok_ck, ok_bn, ok_ob, ck_iI, bn_eq, ob_s, om_n, om_s, cb_bI, gI_g, gI_2, gJ_1, gJ_g, gJ_2, gR_1, gR_2, gR_g, within_v, in_v, bI_i0, bI_i1, iI_bI0, iI_bI1, bI_T, bI_F, f_X12_adds_l2b, e, t1, t2]
      exact r1
  exact key 3 0 rfl F (by omega) G rfl rfl (fun w b _ => by rw [if_neg (by omega)])
theorem adds_s {k i k2 i2 : Nat} (hk : k < 420) (hi : i < 161) (hk2 : k2 < 420) (hi2 : i2 < 161) (hne : k ≠ k2 ∨ i ≠ i2) (hF : 200000 ≤ F) : ∃ G', f_X12_adds F G (iI ((rw' k i : Nat) : Int)) (iI ((rw' k2 i2 : Nat) : Int)) = some G' ∧ G'.1 = G.1 ∧ G'.2.2 = G.2.2 ∧ ∀ k' i' j', i' < 161 → (SE G' k' i' j' ↔ SE G k' i' j' ∨ (k' = k ∧ i' = i ∧ SE G k2 i2 j')) := by
  obtain ⟨G', h1, h2, h3, h4⟩ := adds_v (F := F) (G := G) (x := rw' k i) (y := rw' k2 i2) (by unfold rw'; omega) (by unfold rw'; omega) (by unfold rw'; omega) hF
  refine ⟨G', h1, h2, h3, fun k' i' j' hi' => ?_⟩
  have hb : j' % 64 < 64 := Nat.mod_lt _ (by omega)
  unfold SE
  constructor
  · rintro ⟨a1, a2⟩
    rw [h4 _ _ hb] at a2
    by_cases c : rw' k i ≤ rw' k' i' + j' / 64 ∧ rw' k' i' + j' / 64 < rw' k i + 3
    · rw [if_pos c, Bool.or_eq_true] at a2
      have e1 : k' = k ∧ i' = i := by unfold rw' at c; omega
      obtain ⟨rfl, rfl⟩ := e1
      rcases a2 with a2 | a2
      · exact Or.inl ⟨a1, a2⟩
      · rw [show rw' k' i' + j' / 64 - rw' k' i' = j' / 64 by omega] at a2
        exact Or.inr ⟨rfl, rfl, a1, a2⟩
    · rw [if_neg c] at a2
      exact Or.inl ⟨a1, a2⟩
  · rintro (⟨a1, a2⟩ | ⟨rfl, rfl, a1, a2⟩)
    · refine ⟨a1, ?_⟩
      rw [h4 _ _ hb]
      split
      · rw [a2, Bool.true_or]
      · exact a2
    · refine ⟨a1, ?_⟩
      rw [h4 _ _ hb, if_pos (by omega), show rw' k' i' + j' / 64 - rw' k' i' = j' / 64 by omega, a2, Bool.or_true]
end PR
