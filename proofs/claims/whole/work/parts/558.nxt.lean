/-! the first in a state, behind another -/
def bhd (L : Nat → Nat → Int) (a b : Nat) : Prop := L b 9 < L a 9 ∨ (L a 9 = L b 9 ∧ b < a)
def nxP (L : Nat → Nat → Int) (s : Int) (af r : Option Nat) (i : Nat) : Prop := L i 8 = s ∧ (∀ a, af = some a → bhd L i a) ∧ ∀ b, r = some b → L i 9 < L b 9
noncomputable def nxt (L : Nat → Nat → Int) (s : Int) (af : Option Nat) : Nat → Option Nat
  | 0 => none
  | n + 1 => @ite _ (nxP L s af (nxt L s af n) n) (clD _) (some n) (nxt L s af n)
theorem nxt_t {L : Nat → Nat → Int} {s : Int} {af : Option Nat} {n : Nat} (h : nxP L s af (nxt L s af n) n) : nxt L s af (n + 1) = some n := @if_pos _ (clD _) h _ _ _
theorem nxt_f {L : Nat → Nat → Int} {s : Int} {af : Option Nat} {n : Nat} (h : ¬ nxP L s af (nxt L s af n) n) : nxt L s af (n + 1) = nxt L s af n := @if_neg _ (clD _) h _ _ _
theorem nxt_lt {L : Nat → Nat → Int} {s : Int} {af : Option Nat} : ∀ n b, nxt L s af n = some b → b < n ∧ L b 8 = s ∧ ∀ a, af = some a → bhd L b a := by
  intro n
  induction n with
  | zero => intro b h; cases h
  | succ n ih =>
    intro b h
    by_cases c : nxP L s af (nxt L s af n) n
    · rw [nxt_t c] at h
      cases h
      exact ⟨by omega, c.1, c.2.1⟩
    · rw [nxt_f c] at h
      have := ih b h
      exact ⟨by omega, this.2⟩
section PR
variable {F : Nat} {G1 G2 G3 G4 G5 G6 G7 G8 G9 G10 G11 G12 G13 G14 G15 G23 G24 G25 G26 G32 G33 G34 G35 G36 G41 : Grp} {vn gn cn d n pn ln tn sn : Nat} {tp tl Ln : Nat → Nat} {P L T : Nat → Nat → Int} {X : Nat → Nat → Nat} {f : Nat → Int}
/-- what comes at a letter that counts -/
theorem b76_c (hc : LC G10 G13 n ln tp tl L) (hb : LB pn d ln L) (hd : d < 3600) {s : Int} {af r : Option Nat} {i : Nat} (hi : i < ln) (hr : ∀ b, r = some b → b < ln) (k : Grp → Grp → Int32 → Option Nat → Option Nat → Int32 → Int32 → Option (Option Nat)) (v4 : Int32) : f_X6_firstIn_b76 F k G10 G13 (iI s) (af.map tl) (r.map tl) v4 (iI i) (tl i) = f_X6_firstIn_b107 F k G10 G13 (iI s) (af.map tl) ((@ite _ (∀ b, r = some b → L i 9 < L b 9) (clD _) (some i) r).map tl) v4 (iI i) (tl i) := by
  obtain ⟨q0, q0', q1, q2, q6, q7, q8, q9, q10, q11⟩ := hc.at hi
  obtain ⟨p1, p2, p3, p4, p5, p6⟩ := hb.2 i hi
  unfold f_X6_firstIn_b76 f_X6_firstIn_b81
  rw [if_n (by decide)]
  cases r with
  | none =>
    rw [@if_pos _ (clD _) (fun b h => by cases h)]
    rfl
  | some b =>
    have hbl := hr b rfl
    obtain ⟨t0, t0', t1, t2, t6, t7, t8, t9, t10, t11⟩ := hc.at hbl
    obtain ⟨o1, o2, o3, o4, o5, o6⟩ := hb.2 b hbl
    show om (some (tl b)) _ _ = _
    rw [om_s, t9, q9]
    by_cases c : L i 9 < L b 9
    · rw [if_n, @if_pos _ (clD _) (fun b' h => by cases h; exact c)]
      · rfl
      · rw [iI_le (by omega) (by omega) (by omega) (by omega)]; omega
    · rw [if_p, @if_neg _ (clD _) (fun z => c (z b rfl))]
      · rfl
      · rw [iI_le (by omega) (by omega) (by omega) (by omega)]; omega
theorem b107_c (hc : LC G10 G13 n ln tp tl L) {s : Int} {af r : Option Nat} {i : Nat} (hi : i < ln) (hl : ln ≤ 200) (ha : ∀ a, af = some a → a < ln) (k : Grp → Grp → Int32 → Option Nat → Option Nat → Int32 → Int32 → Option (Option Nat)) : f_X6_firstIn_b107 F k G10 G13 (iI s) (af.map tl) (r.map tl) (@bI (∀ a, af = some a → a < i) (clD _)) (iI i) (tl i) = k G10 G13 (iI s) (af.map tl) (r.map tl) (@bI (∀ a, af = some a → a < i + 1) (clD _)) (iI ((i : Int) + 1)) := by
  unfold f_X6_firstIn_b107
  cases af with
  | none =>
    rw [@bI_t _ (clD _) (fun b h => by cases h), @bI_t _ (clD _) (fun b h => by cases h), if_n (by decide)]
    simp only [bn_eq, iI_lit, iI_add]
  | some a =>
    have hal := ha a rfl
    by_cases c : a < i
    · rw [@bI_t _ (clD _) (fun b h => by cases h; exact c), @bI_t _ (clD _) (fun b h => by cases h; omega), if_n (by decide)]
      simp only [bn_eq, iI_lit, iI_add]
    · rw [@bI_f _ (clD _) (fun z => c (z a rfl)), if_p rfl]
      show om (some (tl a)) _ _ = _
      rw [om_s]
      by_cases e : i = a
      · subst e
        rw [if_p rfl, @bI_t _ (clD _) (fun b h => by cases h; omega)]
        simp only [bn_eq, iI_lit, iI_add]
        rfl
      · rw [if_n (fun z => e (tl_inj hc hi hal z)), @bI_f _ (clD _) (fun z => by have := z a rfl; omega)]
        simp only [bn_eq, iI_lit, iI_add]
        rfl
theorem first_c (hc : LC G10 G13 n ln tp tl L) (hb : LB pn d ln L) (hd : d < 3600) (hF : 200000 ≤ F) {s : Int} (hs : 0 ≤ s ∧ s ≤ 8) {af : Option Nat} (ha : ∀ a, af = some a → a < ln) : f_X6_firstIn F G10 G13 (iI s) (af.map tl) = some ((nxt L s af ln).map tl) := by
  have hl := hb.1
  have h0 := hc.1
  have key := up_ind (n := ln) (Q := fun fu i => f_X6_firstIn_l16 F fu G10 G13 (iI s) (af.map tl) ((nxt L s af i).map tl) (@bI (∀ a, af = some a → a < i) (clD _)) (iI i) = some ((nxt L s af ln).map tl)) ?_ ?_
  · have k0 := key 0 F (by omega) (by omega)
    unfold f_X6_firstIn
    cases af with
    | none =>
      rw [@bI_t _ (clD _) (fun b h => by cases h)] at k0
      exact k0
    | some a =>
      rw [@bI_f _ (clD _) (fun z => absurd (z a rfl) (Nat.not_lt_zero a))] at k0
      exact k0
  · intro fu
    have e : (ln : Int) ≤ ln := Int.le_refl _
    show f_X6_firstIn_l16b F (f_X6_firstIn_l16 F fu) G10 G13 _ _ _ _ _ = _
    unfold f_X6_firstIn_l16b
    rw [h0, if_p (by rw [iI_le (by omega) (by omega) (by omega) (by omega)]; exact e)]
    cases nxt L s af ln <;> rfl
  · intro i fu hi ih
    have e : ¬ (ln : Int) ≤ i := by omega
    obtain ⟨q0, q0', q1, q2, q6, q7, q8, q9, q10, q11⟩ := hc.at hi
    obtain ⟨p1, p2, p3, p4, p5, p6⟩ := hb.2 i hi
    have nl : ∀ b, nxt L s af i = some b → b < ln := fun b hb => by have := (nxt_lt i b hb).1; omega
    have ih : f_X6_firstIn_l16 F fu G10 G13 (iI s) (af.map tl) ((nxt L s af (i + 1)).map tl) (@bI (∀ a, af = some a → a < i + 1) (clD _)) (iI ((i : Int) + 1)) = some ((nxt L s af ln).map tl) := ih
    have ic : (iI (i : Int)).toNatClampNeg = i := by rw [iI_cl (by omega) (by omega)]; rfl
    -- counts, or not
    have yes : L i 8 = s → (∀ a, af = some a → bhd L i a) → f_X6_firstIn_b76 F (f_X6_firstIn_l16 F fu) G10 G13 (iI s) (af.map tl) ((nxt L s af i).map tl) (@bI (∀ a, af = some a → a < i) (clD _)) (iI i) (tl i) = some ((nxt L s af ln).map tl) := by
      intro y1 y2
      rw [b76_c hc hb hd hi nl, b107_c hc hi hl ha]
      by_cases c : ∀ b, nxt L s af i = some b → L i 9 < L b 9
      · rw [nxt_t ⟨y1, y2, c⟩] at ih
        rw [@if_pos _ (clD _) c]
        exact ih
      · rw [nxt_f fun z => c z.2.2] at ih
        rw [@if_neg _ (clD _) c]
        exact ih
    have no : ¬ (L i 8 = s ∧ ∀ a, af = some a → bhd L i a) → f_X6_firstIn_b80 F (f_X6_firstIn_l16 F fu) G10 G13 (iI s) (af.map tl) ((nxt L s af i).map tl) (@bI (∀ a, af = some a → a < i) (clD _)) (iI i) (tl i) = some ((nxt L s af ln).map tl) := by
      intro y
      rw [nxt_f fun z => y ⟨z.1, z.2.1⟩] at ih
      unfold f_X6_firstIn_b80 f_X6_firstIn_b81
      rw [if_p rfl, b107_c hc hi hl ha]
      exact ih
    show f_X6_firstIn_l16b F (f_X6_firstIn_l16 F fu) G10 G13 _ _ _ _ _ = _
    unfold f_X6_firstIn_l16b
    rw [h0, if_n (by rw [iI_le (by omega) (by omega) (by omega) (by omega)]; exact e), ck_iI (by omega) (by omega) (by omega), ic, q0, om_s, q8]
    by_cases c8 : L i 8 = s
    · rw [if_p (by rw [c8])]
      cases af with
      | none => exact yes c8 (fun a h => by cases h)
      | some a =>
        have hal := ha a rfl
        obtain ⟨t0, t0', t1, t2, t6, t7, t8, t9, t10, t11⟩ := hc.at hal
        obtain ⟨o1, o2, o3, o4, o5, o6⟩ := hb.2 a hal
        show om (some (tl a)) _ _ = _
        rw [om_s, t9, q9]
        by_cases c9 : L a 9 < L i 9
        · rw [if_p (by rw [iI_lt (by omega) (by omega) (by omega) (by omega)]; exact c9)]
          exact yes c8 (fun a' h => by cases h; exact Or.inl c9)
        · rw [if_n (by rw [iI_lt (by omega) (by omega) (by omega) (by omega)]; exact c9)]
          by_cases c10 : a < i
          · by_cases c11 : L i 9 = L a 9
            · have y := yes c8 (fun a' h => by cases h; exact Or.inr ⟨c11, c10⟩)
              rw [@bI_t _ (clD _) (fun b h => by cases h; exact c10)] at y ⊢
              rw [if_n (by decide), if_p (by rw [c11])]
              exact y
            · have y := no (fun z => by
                rcases z.2 a rfl with w | w
                · exact c9 w
                · exact c11 w.1)
              rw [@bI_t _ (clD _) (fun b h => by cases h; exact c10)] at y ⊢
              rw [if_n (by decide), if_n (by rw [iI_eq (by omega) (by omega) (by omega) (by omega)]; exact c11)]
              exact y
          · have y := no (fun z => by
              rcases z.2 a rfl with w | w
              · exact c9 w
              · exact c10 w.2)
            rw [@bI_f _ (clD _) (fun z => c10 (z a rfl))] at y ⊢
            rw [if_p rfl]
            exact y
    · rw [if_n (by rw [iI_eq (by omega) (by omega) (by omega) (by omega)]; exact c8)]
      exact no fun z => c8 z.1
def oI : Option Nat → Int
  | none => -1
  | some a => a
theorem bhd_m (hm : LM G32 ln L) (hb : LB pn d ln L) (hd : d < 3600) {a b : Nat} (ha : a < ln) (hb' : b < ln) : f_X12_isBehind F G32 (iI a) (iI b) = some (@bI (bhd L a b) (clD _)) := by
  have hl := hb.1
  obtain ⟨m0, m1, m2, m6, m7, m8, m9, m10, m11⟩ := hm.at ha
  obtain ⟨n0, n1, n2, n6, n7, n8, n9, n10, n11⟩ := hm.at hb'
  obtain ⟨p1, p2, p3, p4, p5, p6⟩ := hb.2 a ha
  obtain ⟨o1, o2, o3, o4, o5, o6⟩ := hb.2 b hb'
  by_cases c : L b 9 < L a 9
  · rw [@bI_t (bhd L a b) (clD _) (Or.inl c)]
    simp (disch := omega) only [reduceIte, Nat.reduceEqDiff, Nat.reduceAdd, Nat.reduceSub, Nat.reduceMul, Nat.reduceLT, Int.reduceNeg, Int.reduceAdd, Int.reduceSub, Int.reduceMul, Int.reduceLT, Int.reduceLE, Int.reduceEq, Int.reduceToNat, reduceCtorEq, and_self, and_true, true_and, false_and, and_false, or_false, false_or, or_true, true_or, true_implies, false_implies, implies_true, not_true_eq_false, not_false_eq_true, Int.toNat_natCast, Int.cast_ofNat_Int, eq_self, ne_eq, ite_true, ite_false, if_true, if_false, Int.add_sub_cancel, Int.sub_add_cancel, Int.add_zero, Int.zero_add, cast_s, iI_in, iI_lit, iI_le, iI_lt, iI_eq, iI_cl, iI_add, iI_sub, iI_mul, iI_neg, iI_nI, ok_s, ok_ck, ok_bn, ok_ob, ck_iI, bn_eq, ob_s, om_n, om_s, cb_bI, gI_g, gI_2, gJ_1, gJ_g, gJ_2, gR_1, gR_2, gR_g, within_v, in_v, bI_i0, bI_i1, iI_bI0, iI_bI1, bI_T, bI_F, f_X12_isBehind, m9, n9, c]
  · by_cases c2 : L a 9 = L b 9
    · by_cases c3 : b < a
      · have c4 : ¬ (a : Int) ≤ b := by omega
        rw [@bI_t (bhd L a b) (clD _) (Or.inr ⟨c2, c3⟩)]
        simp (disch := omega) only [reduceIte, Nat.reduceEqDiff, Nat.reduceAdd, Nat.reduceSub, Nat.reduceMul, Nat.reduceLT, Int.reduceNeg, Int.reduceAdd, Int.reduceSub, Int.reduceMul, Int.reduceLT, Int.reduceLE, Int.reduceEq, Int.reduceToNat, reduceCtorEq, and_self, and_true, true_and, false_and, and_false, or_false, false_or, or_true, true_or, true_implies, false_implies, implies_true, not_true_eq_false, not_false_eq_true, Int.toNat_natCast, Int.cast_ofNat_Int, eq_self, ne_eq, ite_true, ite_false, if_true, if_false, Int.add_sub_cancel, Int.sub_add_cancel, Int.add_zero, Int.zero_add, cast_s, iI_in, iI_lit, iI_le, iI_lt, iI_eq, iI_cl, iI_add, iI_sub, iI_mul, iI_neg, iI_nI, ok_s, ok_ck, ok_bn, ok_ob, ck_iI, bn_eq, ob_s, om_n, om_s, cb_bI, gI_g, gI_2, gJ_1, gJ_g, gJ_2, gR_1, gR_2, gR_g, within_v, in_v, bI_i0, bI_i1, iI_bI0, iI_bI1, bI_T, bI_F, f_X12_isBehind, m9, n9, c, eq_true c2, c4]
      · have c4 : (a : Int) ≤ b := by omega
        rw [@bI_f (bhd L a b) (clD _) (fun z => by
          rcases z with w | w
          · exact c w
          · exact c3 w.2)]
        simp (disch := omega) only [reduceIte, Nat.reduceEqDiff, Nat.reduceAdd, Nat.reduceSub, Nat.reduceMul, Nat.reduceLT, Int.reduceNeg, Int.reduceAdd, Int.reduceSub, Int.reduceMul, Int.reduceLT, Int.reduceLE, Int.reduceEq, Int.reduceToNat, reduceCtorEq, and_self, and_true, true_and, false_and, and_false, or_false, false_or, or_true, true_or, true_implies, false_implies, implies_true, not_true_eq_false, not_false_eq_true, Int.toNat_natCast, Int.cast_ofNat_Int, eq_self, ne_eq, ite_true, ite_false, if_true, if_false, Int.add_sub_cancel, Int.sub_add_cancel, Int.add_zero, Int.zero_add, cast_s, iI_in, iI_lit, iI_le, iI_lt, iI_eq, iI_cl, iI_add, iI_sub, iI_mul, iI_neg, iI_nI, ok_s, ok_ck, ok_bn, ok_ob, ck_iI, bn_eq, ob_s, om_n, om_s, cb_bI, gI_g, gI_2, gJ_1, gJ_g, gJ_2, gR_1, gR_2, gR_g, within_v, in_v, bI_i0, bI_i1, iI_bI0, iI_bI1, bI_T, bI_F, f_X12_isBehind, m9, n9, c, eq_true c2, c4]
    · rw [@bI_f (bhd L a b) (clD _) (fun z => by
        rcases z with w | w
        · exact c w
        · exact c2 w.1)]
      simp (disch := omega) only [reduceIte, Nat.reduceEqDiff, Nat.reduceAdd, Nat.reduceSub, Nat.reduceMul, Nat.reduceLT, Int.reduceNeg, Int.reduceAdd, Int.reduceSub, Int.reduceMul, Int.reduceLT, Int.reduceLE, Int.reduceEq, Int.reduceToNat, reduceCtorEq, and_self, and_true, true_and, false_and, and_false, or_false, false_or, or_true, true_or, true_implies, false_implies, implies_true, not_true_eq_false, not_false_eq_true, Int.toNat_natCast, Int.cast_ofNat_Int, eq_self, ne_eq, ite_true, ite_false, if_true, if_false, Int.add_sub_cancel, Int.sub_add_cancel, Int.add_zero, Int.zero_add, cast_s, iI_in, iI_lit, iI_le, iI_lt, iI_eq, iI_cl, iI_add, iI_sub, iI_mul, iI_neg, iI_nI, ok_s, ok_ck, ok_bn, ok_ob, ck_iI, bn_eq, ob_s, om_n, om_s, cb_bI, gI_g, gI_2, gJ_1, gJ_g, gJ_2, gR_1, gR_2, gR_g, within_v, in_v, bI_i0, bI_i1, iI_bI0, iI_bI1, bI_T, bI_F, f_X12_isBehind, m9, n9, c, c2]
theorem oI_b {r : Option Nat} (h : ∀ b, r = some b → b < 200) : -1 ≤ oI r ∧ oI r < 200 := by
  cases r with
  | none => exact ⟨Int.le_refl _, by show (-1 : Int) < 200; omega⟩
  | some b => have := h b rfl; exact ⟨by show (-1 : Int) ≤ (b : Int); omega, by show (b : Int) < 200; omega⟩
theorem b43_m (hm : LM G32 ln L) (hb : LB pn d ln L) (hd : d < 3600) {s : Int} {af r : Option Nat} {i : Nat} (hi : i < ln) (hr : ∀ b, r = some b → b < i) (k : Grp → Int32 → Int32 → Int32 → Int32 → Option Int32) : f_X12_nextIn_b43 F k G32 (iI s) (iI (oI af)) (iI (oI r)) (iI i) = k G32 (iI s) (iI (oI af)) (iI (oI (@ite _ (∀ b, r = some b → L i 9 < L b 9) (clD _) (some i) r))) (iI ((i : Int) + 1)) := by
  have hl := hb.1
  unfold f_X12_nextIn_b43
  cases r with
  | none =>
    rw [@if_pos _ (clD _) (fun b h => by cases h), if_p (by decide +kernel)]
    simp only [bn_eq, iI_lit, iI_add]
    rfl
  | some b =>
    have hbl := hr b rfl
    have bh := bhd_m (F := F) hm hb hd (a := b) (b := i) (by omega) hi
    have e1 : ¬ iI (oI (some b)) = -1 := by
      show ¬ iI (b : Int) = iI (-1)
      rw [iI_eq (by omega) (by omega) (by omega) (by omega)]
      omega
    have bh : f_X12_isBehind F G32 (iI (oI (some b))) (iI i) = _ := bh
    rw [if_n e1, bh, ob_s]
    by_cases c : L i 9 < L b 9
    · rw [@bI_t (bhd L b i) (clD _) (Or.inl c), if_n (by decide), @if_pos _ (clD _) (fun b' h => by cases h; exact c)]
      simp only [bn_eq, iI_lit, iI_add]
      rfl
    · rw [@bI_f (bhd L b i) (clD _) (fun z => by
        rcases z with w | w
        · exact c w
        · omega), if_p rfl, @if_neg _ (clD _) (fun z => c (z b rfl))]
      simp only [bn_eq, iI_lit, iI_add]
theorem next_m (hm : LM G32 ln L) (hb : LB pn d ln L) (hd : d < 3600) (hF : 200000 ≤ F) {s : Int} (hs : 0 ≤ s ∧ s ≤ 8) {af : Option Nat} (ha : ∀ a, af = some a → a < ln) : f_X12_nextIn F G32 (iI s) (iI (oI af)) = some (iI (oI (nxt L s af ln))) := by
  have hl := hb.1
  have m0 := hm.1
  have key := up_ind (n := ln) (Q := fun fu i => f_X12_nextIn_l5 F fu G32 (iI s) (iI (oI af)) (iI (oI (nxt L s af i))) (iI i) = some (iI (oI (nxt L s af ln)))) ?_ ?_
  · exact key 0 F (by omega) (by omega)
  · intro fu
    have e : (ln : Int) ≤ ln := Int.le_refl _
    show f_X12_nextIn_l5b F (f_X12_nextIn_l5 F fu) G32 _ _ _ _ = _
    unfold f_X12_nextIn_l5b
    rw [m0, if_p (by rw [iI_le (by omega) (by omega) (by omega) (by omega)]; exact e)]
  · intro i fu hi ih
    have e : ¬ (ln : Int) ≤ i := by omega
    obtain ⟨m0', m1, m2, m6, m7, m8, m9, m10, m11⟩ := hm.at hi
    obtain ⟨p1, p2, p3, p4, p5, p6⟩ := hb.2 i hi
    have nl : ∀ b, nxt L s af i = some b → b < i := fun b hb => (nxt_lt i b hb).1
    have ih : f_X12_nextIn_l5 F fu G32 (iI s) (iI (oI af)) (iI (oI (nxt L s af (i + 1)))) (iI ((i : Int) + 1)) = some (iI (oI (nxt L s af ln))) := ih
    have ic : (iI (i : Int)).toNatClampNeg = i := by rw [iI_cl (by omega) (by omega)]; rfl
    have yes : L i 8 = s → (∀ a, af = some a → bhd L i a) → f_X12_nextIn_b43 F (f_X12_nextIn_l5 F fu) G32 (iI s) (iI (oI af)) (iI (oI (nxt L s af i))) (iI i) = some (iI (oI (nxt L s af ln))) := by
      intro y1 y2
      rw [b43_m hm hb hd hi nl]
      by_cases c : ∀ b, nxt L s af i = some b → L i 9 < L b 9
      · rw [nxt_t ⟨y1, y2, c⟩] at ih
        rw [@if_pos _ (clD _) c]
        exact ih
      · rw [nxt_f fun z => c z.2.2] at ih
        rw [@if_neg _ (clD _) c]
        exact ih
    have no : ¬ (L i 8 = s ∧ ∀ a, af = some a → bhd L i a) → f_X12_nextIn_l5 F fu G32 (iI s) (iI (oI af)) (iI (oI (nxt L s af i))) (iI ((i : Int) + 1)) = some (iI (oI (nxt L s af ln))) := by
      intro y
      rw [nxt_f fun z => y ⟨z.1, z.2.1⟩] at ih
      exact ih
    show f_X12_nextIn_l5b F (f_X12_nextIn_l5 F fu) G32 _ _ _ _ = _
    unfold f_X12_nextIn_l5b
    rw [m0, if_n (by rw [iI_le (by omega) (by omega) (by omega) (by omega)]; exact e), ck_iI (by omega) (by omega) (by omega), ic, m8]
    have e1 : (iI (i : Int)) + 1 = iI ((i : Int) + 1) := by rw [show (1 : Int32) = iI 1 from rfl, iI_add]
    by_cases c8 : L i 8 = s
    · rw [if_p (by rw [c8])]
      cases af with
      | none =>
        rw [if_p (by decide +kernel)]
        exact yes c8 (fun a h => by cases h)
      | some a =>
        have hal := ha a rfl
        have e2 : ¬ iI (oI (some a)) = -1 := by
          show ¬ iI (a : Int) = iI (-1)
          rw [iI_eq (by omega) (by omega) (by omega) (by omega)]
          omega
        have bh := bhd_m (F := F) hm hb hd (a := i) (b := a) hi hal
        have bh : f_X12_isBehind F G32 (iI i) (iI (oI (some a))) = _ := bh
        rw [if_n e2, bh, ob_s]
        by_cases c : bhd L i a
        · rw [@bI_t _ (clD _) c, if_n (by decide)]
          exact yes c8 (fun a' h => by cases h; exact c)
        · rw [@bI_f _ (clD _) c, if_p rfl, bn_eq, e1]
          exact no fun z => c (z.2 a rfl)
    · rw [if_n (by rw [iI_eq (by omega) (by omega) (by omega) (by omega)]; exact c8), bn_eq, e1]
      exact no fun z => c8 z.1
end PR
