/-! how many bits -/
theorem iI_ushr {a c : Nat} (ha : a < 4294967296) (h : c < 32) : ((iI (a : Int)).toUInt32 >>> ((iI (c : Int)).toUInt32 &&& (iI 31).toUInt32)).toInt32 = iI ((a >>> c : Nat) : Int) := by
  apply Int32.toBitVec_inj.mp
  have e : ∀ c : Nat, c < 32 → ((BitVec.ofNat 32 c &&& (iI 31).toBitVec) % 32#32).toNat = c := by decide
  show BitVec.ofNat 32 a >>> ((BitVec.ofNat 32 c &&& (iI 31).toBitVec) % 32#32).toNat = BitVec.ofNat 32 (a >>> c)
  rw [e c h]
  apply BitVec.eq_of_toNat_eq
  rw [BitVec.toNat_ushiftRight]
  simp only [BitVec.toNat_ofNat]
  rw [Nat.mod_eq_of_lt ha, Nat.mod_eq_of_lt]
  exact Nat.lt_of_le_of_lt (Nat.shiftRight_le a c) ha
def pc1 (x : Nat) : Nat := Nat.sub x (Nat.land (Nat.shiftRight x 1) 1431655765)
def pc2 (x : Nat) : Nat := Nat.add (Nat.land x 858993459) (Nat.land (Nat.shiftRight x 2) 858993459)
def pc3 (x : Nat) : Nat := Nat.land (Nat.add x (Nat.shiftRight x 4)) 252645135
def pc4 (x : Nat) : Nat := Nat.add x (Nat.shiftRight x 8)
def pc5 (x : Nat) : Nat := Nat.land (Nat.add x (Nat.shiftRight x 16)) 63
def pcN (x : Nat) : Nat := pc5 (pc4 (pc3 (pc2 (pc1 x))))
theorem pc1_v {x : Nat} (h : x < 65536) : iI (x : Int) - (((iI (x : Int)).toUInt32 >>> ((iI 1).toUInt32 &&& (iI 31).toUInt32)).toInt32 &&& iI 1431655765) = iI ((pc1 x : Nat) : Int) ∧ pc1 x < 65536 := by
  have u := iI_ushr (a := x) (c := 1) (by omega) (by omega)
  have e1 : iI ((1 : Nat) : Int) = iI 1 := rfl
  have e2 : iI 1431655765 = iI ((1431655765 : Nat) : Int) := rfl
  rw [e1] at u
  rw [u, e2, iI_and, iI_sub]
  have h1 : (x >>> 1) &&& 1431655765 ≤ x >>> 1 := Nat.and_le_left
  have h2 : x >>> 1 ≤ x := Nat.shiftRight_le x 1
  have h3 : pc1 x = x - ((x >>> 1) &&& 1431655765) := rfl
  rw [h3]
  exact ⟨by congr 1; omega, by omega⟩
theorem pc2_v {x : Nat} (h : x < 65536) : (iI (x : Int) &&& iI 858993459) + (((iI (x : Int)).toUInt32 >>> ((iI 2).toUInt32 &&& (iI 31).toUInt32)).toInt32 &&& iI 858993459) = iI ((pc2 x : Nat) : Int) ∧ pc2 x < 131072 := by
  have u := iI_ushr (a := x) (c := 2) (by omega) (by omega)
  have e1 : iI ((2 : Nat) : Int) = iI 2 := rfl
  have e2 : iI 858993459 = iI ((858993459 : Nat) : Int) := rfl
  rw [e1] at u
  rw [u, e2, iI_and, iI_and, iI_add]
  have h1 : (x >>> 2) &&& 858993459 ≤ x >>> 2 := Nat.and_le_left
  have h2 : x >>> 2 ≤ x := Nat.shiftRight_le x 2
  have h4 : x &&& 858993459 ≤ x := Nat.and_le_left
  have h3 : pc2 x = (x &&& 858993459) + ((x >>> 2) &&& 858993459) := rfl
  rw [h3]
  exact ⟨by congr 1, by omega⟩
theorem pc3_v {x : Nat} (h : x < 131072) : (iI (x : Int) + ((iI (x : Int)).toUInt32 >>> ((iI 4).toUInt32 &&& (iI 31).toUInt32)).toInt32) &&& iI 252645135 = iI ((pc3 x : Nat) : Int) ∧ pc3 x < 262144 := by
  have u := iI_ushr (a := x) (c := 4) (by omega) (by omega)
  have e1 : iI ((4 : Nat) : Int) = iI 4 := rfl
  have e2 : iI 252645135 = iI ((252645135 : Nat) : Int) := rfl
  rw [e1] at u
  have h2 : x >>> 4 ≤ x := Nat.shiftRight_le x 4
  have h5 : (x + (x >>> 4)) &&& 252645135 ≤ x + (x >>> 4) := Nat.and_le_left
  have e3 : iI (x : Int) + iI ((x >>> 4 : Nat) : Int) = iI ((x + (x >>> 4) : Nat) : Int) := by rw [iI_add]; rfl
  rw [u, e3, e2, iI_and]
  have h3 : pc3 x = (x + (x >>> 4)) &&& 252645135 := rfl
  rw [h3]
  exact ⟨rfl, by omega⟩
theorem pc4_v {x : Nat} (h : x < 262144) : iI (x : Int) + ((iI (x : Int)).toUInt32 >>> ((iI 8).toUInt32 &&& (iI 31).toUInt32)).toInt32 = iI ((pc4 x : Nat) : Int) ∧ pc4 x < 524288 := by
  have u := iI_ushr (a := x) (c := 8) (by omega) (by omega)
  have e1 : iI ((8 : Nat) : Int) = iI 8 := rfl
  rw [e1] at u
  have h2 : x >>> 8 ≤ x := Nat.shiftRight_le x 8
  have e3 : iI (x : Int) + iI ((x >>> 8 : Nat) : Int) = iI ((x + (x >>> 8) : Nat) : Int) := by rw [iI_add]; rfl
  rw [u, e3]
  have h3 : pc4 x = x + (x >>> 8) := rfl
  rw [h3]
  exact ⟨rfl, by omega⟩
theorem pc5_v {x : Nat} (h : x < 524288) : (iI (x : Int) + ((iI (x : Int)).toUInt32 >>> ((iI 16).toUInt32 &&& (iI 31).toUInt32)).toInt32) &&& iI 63 = iI ((pc5 x : Nat) : Int) := by
  have u := iI_ushr (a := x) (c := 16) (by omega) (by omega)
  have e1 : iI ((16 : Nat) : Int) = iI 16 := rfl
  have e2 : iI 63 = iI ((63 : Nat) : Int) := rfl
  rw [e1] at u
  have e3 : iI (x : Int) + iI ((x >>> 16 : Nat) : Int) = iI ((x + (x >>> 16) : Nat) : Int) := by rw [iI_add]; rfl
  rw [u, e3, e2, iI_and]
  rfl
theorem bitCount_N (F : Nat) {x : Nat} (h : x < 65536) : f_J6_bitCount_0f7a4 F (iI (x : Int)) = some (iI ((pcN x : Nat) : Int)) := by
  obtain ⟨a1, b1⟩ := pc1_v h
  obtain ⟨a2, b2⟩ := pc2_v b1
  obtain ⟨a3, b3⟩ := pc3_v b2
  obtain ⟨a4, b4⟩ := pc4_v b3
  have a5 := pc5_v b4
  unfold f_J6_bitCount_0f7a4
  simp only [bn_eq, iI_lit]
  rw [a1, a2, a3, a4, a5]
  rfl
def pcC (n : Nat) : Bool := and (Nat.beq (pcN (Nat.mul 2 n)) (pcN n)) (Nat.beq (pcN (Nat.succ (Nat.mul 2 n))) (Nat.succ (pcN n)))
def pcT (n : Nat) : Bool := Nat.rec (motive := fun _ => Bool) true (fun k ih => and (pcC k) ih) n
theorem pcT_32768 : pcT 32768 = true := by decide +kernel
theorem pcT_of : ∀ n, pcT n = true → ∀ k, k < n → pcN (2 * k) = pcN k ∧ pcN (2 * k + 1) = pcN k + 1 := by
  intro n
  induction n with
  | zero => intro _ k hk; exact absurd hk (Nat.not_lt_zero k)
  | succ n ih =>
    intro h k hk
    have h : and (pcC n) (pcT n) = true := h
    rw [Bool.and_eq_true] at h
    by_cases e : k = n
    · rw [e]
      have h1 : and (Nat.beq (pcN (Nat.mul 2 n)) (pcN n)) (Nat.beq (pcN (Nat.succ (Nat.mul 2 n))) (Nat.succ (pcN n))) = true := h.1
      rw [Bool.and_eq_true] at h1
      exact ⟨Nat.eq_of_beq_eq_true h1.1, Nat.eq_of_beq_eq_true h1.2⟩
    · exact ih h.2 k (by omega)
abbrev pop (x n : Nat) : Nat := cnt (fun i => x.testBit i = true) n
theorem cnt_shift (p : Nat → Prop) [DecidablePred p] (n : Nat) : cnt p (n + 1) = (if p 0 then 1 else 0) + cnt (fun i => p (i + 1)) n := by
  induction n with
  | zero => rw [cnt_s]; exact Nat.add_comm _ _
  | succ n ih =>
    rw [cnt_s, ih, cnt_s]
    omega
theorem pop_s (x n : Nat) : pop x (n + 1) = x % 2 + pop (x / 2) n := by
  unfold pop
  rw [cnt_shift]
  have e1 : cnt (fun i => x.testBit (i + 1) = true) n = cnt (fun i => (x / 2).testBit i = true) n := cnt_congr fun i _ => by rw [Nat.testBit_succ]
  rw [e1]
  congr 1
  by_cases c : x % 2 = 1
  · rw [if_pos (by rw [Nat.testBit_zero]; exact decide_eq_true c), c]
  · rw [if_neg (by rw [Nat.testBit_zero]; simpa using c)]; omega
theorem pcN_pop : ∀ n x, n ≤ 16 → x < 2 ^ n → pcN x = pop x n := by
  intro n
  induction n with
  | zero => intro x _ h; rw [show x = 0 by omega]; decide
  | succ n ih =>
    intro x h1 h2
    rw [Nat.pow_succ] at h2
    rw [pop_s, ← ih (x / 2) (by omega) (by omega)]
    have hp : 2 ^ n ≤ 2 ^ 15 := pw_le (by omega)
    have hk := pcT_of 32768 pcT_32768 (x / 2) (by omega)
    rcases Nat.mod_two_eq_zero_or_one x with e | e
    · have := hk.1
      rw [show 2 * (x / 2) = x by omega] at this
      omega
    · have := hk.2
      rw [show 2 * (x / 2) + 1 = x by omega] at this
      omega
theorem pop_more {x n m : Nat} (h : x < 2 ^ n) (hm : n ≤ m) : pop x m = pop x n := by
  obtain ⟨k, rfl⟩ : ∃ k, m = n + k := ⟨m - n, by omega⟩
  clear hm
  induction k with
  | zero => rfl
  | succ k ih =>
    have : ¬ x.testBit (n + k) = true := by
      rw [Nat.testBit_lt_two_pow (Nat.lt_of_lt_of_le h (pw_le (by omega)))]
      decide
    rw [← Nat.add_assoc]
    unfold pop
    rw [cnt_f this]
    exact ih
theorem bitCount_v (F : Nat) {x : Nat} (h : x < 65536) : f_J6_bitCount_0f7a4 F (iI (x : Int)) = some (iI ((pop x 16 : Nat) : Int)) := by
  rw [bitCount_N F h, pcN_pop 16 x (by omega) h]
theorem bits_m {F : Nat} (hF : 200000 ≤ F) {x : Nat} (h : x < 65536) : f_X12_bits F (iI (x : Int)) = some (iI ((pop x 16 : Nat) : Int)) := by
  rw [← pop_more (m := 20) h (by omega)]
  have key := up_ind (n := 20) (Q := fun fu i => f_X12_bits_l4 F fu (iI (x : Int)) (iI ((pop x i : Nat) : Int)) (iI i) = some (iI ((pop x 20 : Nat) : Int))) ?_ ?_
  · exact key 0 F (by omega) (by omega)
  · intro fu
    show f_X12_bits_l4b F (f_X12_bits_l4 F fu) _ _ _ = _
    simp (disch := omega) only [reduceIte, Nat.reduceEqDiff, Nat.reduceAdd, Nat.reduceSub, Nat.reduceMul, Nat.reduceLT, Int.reduceNeg, Int.reduceAdd, Int.reduceSub, Int.reduceMul, Int.reduceLT, Int.reduceLE, Int.reduceEq, Int.reduceToNat, reduceCtorEq, and_self, and_true, true_and, false_and, and_false, or_false, false_or, or_true, true_or, true_implies, false_implies, implies_true, not_true_eq_false, not_false_eq_true, Int.toNat_natCast, Int.cast_ofNat_Int, eq_self, ne_eq, ite_true, ite_false, if_true, if_false, Int.add_sub_cancel, Int.sub_add_cancel, Int.add_zero, Int.zero_add, cast_s, iI_in, iI_lit, iI_le, iI_lt, iI_eq, iI_cl, iI_add, iI_sub, iI_mul, iI_neg, iI_nI, ok_s, ok_ck, ok_bn, ok_ob, ck_iI, bn_eq, ob_s, om_n, om_s, cb_bI, gI_g, gI_2, gJ_1, gJ_g, gJ_2, gR_1, gR_2, gR_g, within_v, in_v, bI_i0, bI_i1, iI_bI0, iI_bI1, bI_T, bI_F, f_X12_bits_l4b]
  · intro i fu hi ih
    show f_X12_bits_l4b F (f_X12_bits_l4 F fu) _ _ _ = _
    have e4 : ¬ (20 : Int) ≤ i := by omega
    by_cases b : x.testBit i = true
    · have e := cnt_t (p := fun i => x.testBit i = true) (n := i) b
      rw [show pop x (i + 1) = pop x i + 1 from e] at ih
      simp (disch := omega) only [reduceIte, Nat.reduceEqDiff, Nat.reduceAdd, Nat.reduceSub, Nat.reduceMul, Nat.reduceLT, Int.reduceNeg, Int.reduceAdd, Int.reduceSub, Int.reduceMul, Int.reduceLT, Int.reduceLE, Int.reduceEq, Int.reduceToNat, reduceCtorEq, and_self, and_true, true_and, false_and, and_false, or_false, false_or, or_true, true_or, true_implies, false_implies, implies_true, not_true_eq_false, not_false_eq_true, Int.toNat_natCast, Int.cast_ofNat_Int, eq_self, ne_eq, ite_true, ite_false, if_true, if_false, Int.add_sub_cancel, Int.sub_add_cancel, Int.add_zero, Int.zero_add, cast_s] at ih
      simp (disch := omega) only [reduceIte, Nat.reduceEqDiff, Nat.reduceAdd, Nat.reduceSub, Nat.reduceMul, Nat.reduceLT, Int.reduceNeg, Int.reduceAdd, Int.reduceSub, Int.reduceMul, Int.reduceLT, Int.reduceLE, Int.reduceEq, Int.reduceToNat, reduceCtorEq, and_self, and_true, true_and, false_and, and_false, or_false, false_or, or_true, true_or, true_implies, false_implies, implies_true, not_true_eq_false, not_false_eq_true, Int.toNat_natCast, Int.cast_ofNat_Int, eq_self, ne_eq, ite_true, ite_false, if_true, if_false, Int.add_sub_cancel, Int.sub_add_cancel, Int.add_zero, Int.zero_add, cast_s, iI_in, iI_lit, iI_le, iI_lt, iI_eq, iI_cl, iI_add, iI_sub, iI_mul, iI_neg, iI_nI, ok_s, ok_ck, ok_bn, ok_ob, ck_iI, bn_eq, ob_s, om_n, om_s, cb_bI, gI_g, gI_2, gJ_1, gJ_g, gJ_2, gR_1, gR_2, gR_g, within_v, in_v, bI_i0, bI_i1, iI_bI0, iI_bI1, bI_T, bI_F, f_X12_bits_l4b, e4, iI_bit, bI_t b]
      exact ih
    · have e := cnt_f (p := fun i => x.testBit i = true) (n := i) b
      rw [show pop x (i + 1) = pop x i from e] at ih
      simp (disch := omega) only [reduceIte, Nat.reduceEqDiff, Nat.reduceAdd, Nat.reduceSub, Nat.reduceMul, Nat.reduceLT, Int.reduceNeg, Int.reduceAdd, Int.reduceSub, Int.reduceMul, Int.reduceLT, Int.reduceLE, Int.reduceEq, Int.reduceToNat, reduceCtorEq, and_self, and_true, true_and, false_and, and_false, or_false, false_or, or_true, true_or, true_implies, false_implies, implies_true, not_true_eq_false, not_false_eq_true, Int.toNat_natCast, Int.cast_ofNat_Int, eq_self, ne_eq, ite_true, ite_false, if_true, if_false, Int.add_sub_cancel, Int.sub_add_cancel, Int.add_zero, Int.zero_add, cast_s] at ih
      simp (disch := omega) only [reduceIte, Nat.reduceEqDiff, Nat.reduceAdd, Nat.reduceSub, Nat.reduceMul, Nat.reduceLT, Int.reduceNeg, Int.reduceAdd, Int.reduceSub, Int.reduceMul, Int.reduceLT, Int.reduceLE, Int.reduceEq, Int.reduceToNat, reduceCtorEq, and_self, and_true, true_and, false_and, and_false, or_false, false_or, or_true, true_or, true_implies, false_implies, implies_true, not_true_eq_false, not_false_eq_true, Int.toNat_natCast, Int.cast_ofNat_Int, eq_self, ne_eq, ite_true, ite_false, if_true, if_false, Int.add_sub_cancel, Int.sub_add_cancel, Int.add_zero, Int.zero_add, cast_s, iI_in, iI_lit, iI_le, iI_lt, iI_eq, iI_cl, iI_add, iI_sub, iI_mul, iI_neg, iI_nI, ok_s, ok_ck, ok_bn, ok_ob, ck_iI, bn_eq, ob_s, om_n, om_s, cb_bI, gI_g, gI_2, gJ_1, gJ_g, gJ_2, gR_1, gR_2, gR_g, within_v, in_v, bI_i0, bI_i1, iI_bI0, iI_bI1, bI_T, bI_F, f_X12_bits_l4b, e4, iI_bit, bI_f b]
      exact ih
