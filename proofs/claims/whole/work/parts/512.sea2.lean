/-! the class's search: rounds -/
theorem cnt_mono {p q : Nat → Prop} [DecidablePred p] [DecidablePred q] {n : Nat} (h : ∀ x, x < n → p x → q x) : cnt p n ≤ cnt q n := by
  induction n with
  | zero => exact Nat.le_refl _
  | succ n ih =>
    have := ih fun x hx => h x (by omega)
    by_cases c : p n
    · rw [cnt_t c, cnt_t (h n (by omega) c)]; omega
    · rw [cnt_f c, cnt_s]; omega
theorem cnt_slt {p q : Nat → Prop} [DecidablePred p] [DecidablePred q] {n : Nat} (h : ∀ x, x < n → p x → q x) {x : Nat} (hx : x < n) (h1 : q x) (h2 : ¬ p x) : cnt p n < cnt q n := by
  induction n with
  | zero => exact absurd hx (Nat.not_lt_zero x)
  | succ n ih =>
    by_cases e : x = n
    · subst e
      have := cnt_mono (p := p) (q := q) (n := x) fun y hy => h y (by omega)
      rw [cnt_f h2, cnt_t h1]; omega
    · have := ih (fun y hy => h y (by omega)) (by omega)
      by_cases c : p n
      · rw [cnt_t c, cnt_t (h n (by omega) c)]; omega
      · rw [cnt_f c, cnt_s]; omega
theorem pth_short {R : Nat → Nat → Prop} {S k x y : Nat} (hR : ∀ x y, x < S → R x y → y < S) (hx : x < S) (h : pth R k x y) : ∃ k', k' ≤ S ∧ pth R k' x y := by
  have dA : ∀ m, DecidablePred fun x => ∃ k, k ≤ m ∧ pth R k x y := fun m x => clD _
  have grow : ∀ m, (∃ m', m' < m ∧ ∀ x, x < S → (∃ k, k ≤ m' + 1 ∧ pth R k x y) → ∃ k, k ≤ m' ∧ pth R k x y) ∨ m ≤ @cnt _ (dA m) S := by
    intro m
    induction m with
    | zero => exact Or.inr (Nat.zero_le _)
    | succ m ih =>
      rcases ih with ⟨m', h1, h2⟩ | ih
      · exact Or.inl ⟨m', by omega, h2⟩
      · by_cases c : ∀ x, x < S → (∃ k, k ≤ m + 1 ∧ pth R k x y) → ∃ k, k ≤ m ∧ pth R k x y
        · exact Or.inl ⟨m, by omega, c⟩
        · refine Or.inr ?_
          obtain ⟨x, hx⟩ := Classical.not_forall.mp c
          obtain ⟨hx, h2⟩ := Classical.not_imp.mp hx
          obtain ⟨h2, h3⟩ := Classical.not_imp.mp h2
          have := @cnt_slt _ _ (dA m) (dA (m + 1)) S (fun x _ ⟨k, k1, k2⟩ => ⟨k, by omega, k2⟩) x hx h2 h3
          omega
  rcases grow (S + 1) with ⟨m', h1, h2⟩ | h1
  · have all : ∀ k x, x < S → pth R k x y → ∃ k, k ≤ m' ∧ pth R k x y := by
      intro k
      induction k with
      | zero => intro x _ h; exact ⟨0, Nat.zero_le _, h⟩
      | succ k ih =>
        intro x hx h
        obtain ⟨c, c1, c2⟩ := h
        obtain ⟨k', k1, k2⟩ := ih c (hR x c hx c1) c2
        exact h2 x hx ⟨k' + 1, by omega, c, c1, k2⟩
    obtain ⟨k', k1, k2⟩ := all k x hx h
    exact ⟨k', by omega, k2⟩
  · have := @cnt_le _ (dA (S + 1)) S
    omega
/-- from x a state of base value A x is reached by nothing -/
def SND (g : Gr) (bd : Prop) (S : Nat) (B A : Nat → Int) : Prop := ∀ x, x < S → A x = -1 ∨ ∃ y, y < S ∧ rch (SL g bd) x y ∧ B y = A x
theorem SL_in {g : Gr} {bd : Prop} {S x y : Nat} (hw : NW g S) (hx : x < S) (h : SL g bd x y) : y < S := by
  have w := hw x hx
  rcases h with ⟨h, _⟩ | h
  · have := w.2.2.2.1; omega
  · have := w.2.2.2.2.2; omega
theorem nv_ge {g : Gr} {bd : Prop} {A : Nat → Int} {x : Nat} : A x ≤ nv2 g A x (nv1 g bd A x) ∧ ∀ y, SL g bd x y → A y ≤ nv2 g A x (nv1 g bd A x) := by
  have r1 : A x ≤ nv1 g bd A x := by
    unfold nv1
    by_cases e : (g.1 x = 0 ∨ (g.1 x = 94 ∧ bd)) ∧ 0 ≤ g.2.1 x
    · rw [@if_pos _ (clD _) e]; exact mx2_l _ _
    · rw [@if_neg _ (clD _) e]; exact Int.le_refl _
  have r2 : nv1 g bd A x ≤ nv2 g A x (nv1 g bd A x) := by
    unfold nv2
    by_cases e : 0 ≤ g.2.2 x
    · rw [if_pos e]; exact mx2_l _ _
    · rw [if_neg e]; exact Int.le_refl _
  refine ⟨Int.le_trans r1 r2, fun y h => ?_⟩
  rcases h with ⟨h1, h2⟩ | h1
  · refine Int.le_trans ?_ r2
    unfold nv1
    rw [@if_pos _ (clD _) ⟨h2, by omega⟩, h1]
    exact mx2_r _ _
  · unfold nv2
    rw [if_pos (by omega), h1]
    exact mx2_r _ _
theorem nv_snd {g : Gr} {bd : Prop} {S : Nat} {B A : Nat → Int} {x : Nat} (hw : NW g S) (h : SND g bd S B A) (hx : x < S) : nv2 g A x (nv1 g bd A x) = -1 ∨ ∃ y, y < S ∧ rch (SL g bd) x y ∧ B y = nv2 g A x (nv1 g bd A x) := by
  have go : ∀ y, SL g bd x y → (A y = -1 ∨ ∃ z, z < S ∧ rch (SL g bd) x z ∧ B z = A y) := fun y hy => by
    rcases h y (SL_in hw hx hy) with q | ⟨z, z1, z2, z3⟩
    · exact Or.inl q
    · exact Or.inr ⟨z, z1, rch_hd hy z2, z3⟩
  have r1 : nv1 g bd A x = A x ∨ ∃ y, SL g bd x y ∧ nv1 g bd A x = A y := by
    unfold nv1
    by_cases e : (g.1 x = 0 ∨ (g.1 x = 94 ∧ bd)) ∧ 0 ≤ g.2.1 x
    · rw [@if_pos _ (clD _) e]
      rcases mx2_c (A x) (A (g.2.1 x).toNat) with q | q
      · exact Or.inl q
      · exact Or.inr ⟨_, Or.inl ⟨by omega, e.1⟩, q⟩
    · rw [@if_neg _ (clD _) e]; exact Or.inl rfl
  have r1' : nv1 g bd A x = -1 ∨ ∃ z, z < S ∧ rch (SL g bd) x z ∧ B z = nv1 g bd A x := by
    rcases r1 with q | ⟨y, y1, y2⟩
    · rw [q]; exact h x hx
    · rw [y2]; exact go y y1
  unfold nv2
  by_cases e : 0 ≤ g.2.2 x
  · rw [if_pos e]
    rcases mx2_c (nv1 g bd A x) (A (g.2.2 x).toNat) with q | q
    · rw [q]; exact r1'
    · rw [q]; exact go _ (Or.inr (by omega))
  · rw [if_neg e]; exact r1'
section PR
variable {F S : Nat} {G4 G5 : Grp} {f v c : Nat}
def FRA (c : Nat) (G G' : Grp) : Prop := G'.2 = G.2 ∧ ∀ a k, a ≠ c → G'.1 a k = G.1 a k
def RI (g : Gr) (bd : Prop) (S c t : Nat) (B : Nat → Int) (G0 G : Grp) (gr : Int) : Prop := FRA c G0 G ∧ (∀ x, x < S → ar G0 c x ≤ ar G c x ∧ -1 ≤ ar G c x ∧ ar G c x ≤ 160) ∧ (∀ x, t ≤ x → x < S → ∀ y, SL g bd x y → ar G0 c y ≤ ar G c x) ∧ SND g bd S B (ar G c) ∧ (gr = 0 ∨ gr = 1) ∧ (gr = 0 → ∀ x, x < S → ar G c x = ar G0 c x)
theorem round_v {bd : Prop} {v2 : Int32} (hbd : v2 = @bI bd (clD _)) (hw : NW (gph G4 v) S) (hS : S ≤ 400) (h7 : G5.2.2 f 7 = some c) {B : Nat → Int} (j : Int32) (k5 : Grp → Grp → Nat → Nat → Int32 → Int32 → Int32 → Option Grp) : ∀ t, t ≤ S → ∀ fu, t < fu → ∀ G1 gr, RI (gph G4 v) bd S c t B G5 G1 gr → ∃ G2 gr', f_X2_reachByNothing_l28 F k5 fu G4 G1 f v v2 (iI gr) j (iI ((t : Int) - 1)) = k5 G4 G2 f v v2 (iI gr') (j + 1) ∧ RI (gph G4 v) bd S c 0 B G5 G2 gr' := by
  intro t
  induction t with
  | zero =>
    intro _ fu hfu G1 gr h
    obtain ⟨fu, rfl⟩ : ∃ f, fu = f + 1 := ⟨fu - 1, by omega⟩
    refine ⟨G1, gr, ?_, h⟩
    show f_X2_reachByNothing_l28b F k5 (f_X2_reachByNothing_l28 F k5 fu) G4 G1 f v v2 (iI gr) j (iI (-1)) = _
    unfold f_X2_reachByNothing_l28b
    rw [if_p (by decide), bn_eq]
  | succ t ih =>
    intro ht fu hfu G1 gr h
    obtain ⟨fu, rfl⟩ : ∃ f, fu = f + 1 := ⟨fu - 1, by omega⟩
    obtain ⟨i1, i2, i3, i4, i5, i6⟩ := id h
    have h7' : G1.2.2 f 7 = some c := by rw [i1.1]; exact h7
    have st := l28_s (F := F) (k5 := k5) (G5 := G1) (f := f) (x := t) hbd hw hS h7' (by omega) (fun y hy => (i2 y hy).2) i5 j fu
    rw [show ((t + 1 : Nat) : Int) - 1 = (t : Int) by omega, st]
    have nb := nv_b (bd := bd) hw (x := t) (by omega) (fun y hy => (i2 y hy).2)
    have ng := nv_ge (g := gph G4 v) (bd := bd) (A := ar G1 c) (x := t)
    have ns := nv_snd hw i4 (x := t) (by omega)
    generalize nv2 (gph G4 v) (ar G1 c) t (nv1 (gph G4 v) bd (ar G1 c) t) = w at *
    have aw : ar (gI G1 c t (iI w)) c = up (ar G1 c) t w := ar_set _ _ _ (by omega) (by omega)
    have i2t := i2 t (by omega)
    refine ih (by omega) fu (by omega) _ _ ⟨⟨i1.1, fun a k ha => ?_⟩, fun x hx => ?_, fun x hx1 hx2 y hy => ?_, fun x hx => ?_, ?_, fun hz x hx => ?_⟩
    · rw [gI_g, if_neg (fun z => ha z.1)]; exact i1.2 a k ha
    · rw [aw]
      have := i2 x hx
      unfold up
      by_cases e : x = t
      · rw [if_pos e, e]; omega
      · rw [if_neg e]; exact this
    · rw [aw]
      unfold up
      by_cases e : x = t
      · rw [if_pos e]
        rw [e] at hy
        exact Int.le_trans (i2 y (SL_in hw (by omega) hy)).1 (ng.2 y hy)
      · rw [if_neg e]; exact i3 x (by omega) hx2 y hy
    · rw [aw]
      unfold up
      by_cases e : x = t
      · rw [if_pos e, e]; exact ns
      · rw [if_neg e]; exact i4 x hx
    · by_cases e : gr = 0 ∧ w ≤ ar G1 c t
      · rw [if_pos e]; exact Or.inl rfl
      · rw [if_neg e]; exact Or.inr rfl
    · rw [aw]
      by_cases e : gr = 0 ∧ w ≤ ar G1 c t
      · unfold up
        by_cases e2 : x = t
        · rw [if_pos e2, e2, ← i6 e.1 t (by omega)]
          have := ng.1; omega
        · rw [if_neg e2]; exact i6 e.1 x hx
      · rw [if_neg e] at hz; omega
theorem rounds_v {bd : Prop} {v2 : Int32} (hbd : v2 = @bI bd (clD _)) (hw : NW (gph G4 v) S) (hS : S ≤ 400) (h3 : G4.1 v 3 = iI S) (h7 : G5.2.2 f 7 = some c) (hB : ∀ x, x < S → -1 ≤ ar G5 c x ∧ ar G5 c x ≤ 160) (hF : 200000 ≤ F) : ∃ G', f_X2_reachByNothing F G4 G5 f v v2 = some G' ∧ FRA c G5 G' ∧ SND (gph G4 v) bd S (ar G5 c) (ar G' c) ∧ (∀ x, x < S → -1 ≤ ar G' c x ∧ ar G' c x ≤ 160) ∧ ∀ x y, x < S → rch (SL (gph G4 v) bd) x y → ar G5 c y ≤ ar G' c x := by
  have key : ∀ d j, j + d = S + 1 → ∀ fu, d + 1 < fu → ∀ G1 gr, FRA c G5 G1 → (∀ x, x < S → -1 ≤ ar G1 c x ∧ ar G1 c x ≤ 160) → SND (gph G4 v) bd S (ar G5 c) (ar G1 c) → (∀ k, k ≤ j → ∀ x y, x < S → pth (SL (gph G4 v) bd) k x y → ar G5 c y ≤ ar G1 c x) → (gr = 0 ∨ gr = 1) → (gr = 0 → ∀ x y, x < S → SL (gph G4 v) bd x y → ar G1 c y ≤ ar G1 c x) → ∃ G', f_X2_reachByNothing_l5 F fu G4 G1 f v v2 (iI gr) (iI (j : Int)) = some G' ∧ FRA c G5 G' ∧ SND (gph G4 v) bd S (ar G5 c) (ar G' c) ∧ (∀ x, x < S → -1 ≤ ar G' c x ∧ ar G' c x ≤ 160) ∧ ∀ x y, x < S → rch (SL (gph G4 v) bd) x y → ar G5 c y ≤ ar G' c x := by
    intro d
    induction d with
    | zero =>
      intro j hj fu hfu G1 gr f1 f2 f3 f4 f5 f6
      obtain ⟨fu, rfl⟩ : ∃ f, fu = f + 2 := ⟨fu - 2, by omega⟩
      have fin : ∀ x y, x < S → rch (SL (gph G4 v) bd) x y → ar G5 c y ≤ ar G1 c x := fun x y hx ⟨k, hk⟩ => by
        obtain ⟨k', k1, k2⟩ := pth_short (fun x y hx hy => SL_in hw hx hy) hx hk
        exact f4 k' (by omega) x y hx k2
      refine ⟨G1, ?_, f1, f3, f2, fin⟩
      show f_X2_reachByNothing_l5b F (f_X2_reachByNothing_l5 F (fu + 1)) G4 G1 f v v2 (iI gr) (iI (j : Int)) = _
      rcases f5 with rfl | rfl
      · skip
        simp (disch := omega) only [reduceIte, Nat.reduceEqDiff, Nat.reduceAdd, Nat.reduceSub, Nat.reduceMul, Nat.reduceLT, Int.reduceNeg, Int.reduceAdd, Int.reduceSub, Int.reduceMul, Int.reduceLT, Int.reduceLE, Int.reduceEq, Int.reduceToNat, reduceCtorEq, and_self, and_true, true_and, false_and, and_false, or_false, false_or, or_true, true_or, true_implies, false_implies, implies_true, not_true_eq_false, not_false_eq_true, Int.toNat_natCast, Int.cast_ofNat_Int, eq_self, ne_eq, ite_true, ite_false, if_true, if_false, Int.add_sub_cancel, Int.sub_add_cancel, Int.add_zero, Int.zero_add, cast_s, iI_in, iI_lit, iI_le, iI_lt, iI_eq, iI_cl, iI_add, iI_sub, iI_mul, iI_neg, iI_nI, ok_s, ok_ck, ok_bn, ok_ob, ck_iI, bn_eq, ob_s, om_n, om_s, cb_bI, gI_g, gI_2, gJ_1, gJ_g, gJ_2, gR_1, gR_2, gR_g, within_v, in_v, bI_i0, bI_i1, iI_bI0, iI_bI1, bI_T, bI_F, f_X2_reachByNothing_l5b]
      · have e : (S : Int) < j := by omega
        simp (disch := omega) only [reduceIte, Nat.reduceEqDiff, Nat.reduceAdd, Nat.reduceSub, Nat.reduceMul, Nat.reduceLT, Int.reduceNeg, Int.reduceAdd, Int.reduceSub, Int.reduceMul, Int.reduceLT, Int.reduceLE, Int.reduceEq, Int.reduceToNat, reduceCtorEq, and_self, and_true, true_and, false_and, and_false, or_false, false_or, or_true, true_or, true_implies, false_implies, implies_true, not_true_eq_false, not_false_eq_true, Int.toNat_natCast, Int.cast_ofNat_Int, eq_self, ne_eq, ite_true, ite_false, if_true, if_false, Int.add_sub_cancel, Int.sub_add_cancel, Int.add_zero, Int.zero_add, cast_s, iI_in, iI_lit, iI_le, iI_lt, iI_eq, iI_cl, iI_add, iI_sub, iI_mul, iI_neg, iI_nI, ok_s, ok_ck, ok_bn, ok_ob, ck_iI, bn_eq, ob_s, om_n, om_s, cb_bI, gI_g, gI_2, gJ_1, gJ_g, gJ_2, gR_1, gR_2, gR_g, within_v, in_v, bI_i0, bI_i1, iI_bI0, iI_bI1, bI_T, bI_F, f_X2_reachByNothing_l5b, h3, e]
    | succ d ih =>
      intro j hj fu hfu G1 gr f1 f2 f3 f4 f5 f6
      obtain ⟨fu, rfl⟩ : ∃ f, fu = f + 2 := ⟨fu - 2, by omega⟩
      rcases f5 with rfl | rfl
      · refine ⟨G1, ?_, f1, f3, f2, fun x y hx hr => ?_⟩
        · show f_X2_reachByNothing_l5b F (f_X2_reachByNothing_l5 F (fu + 1)) G4 G1 f v v2 _ (iI (j : Int)) = _
          simp (disch := omega) only [reduceIte, Nat.reduceEqDiff, Nat.reduceAdd, Nat.reduceSub, Nat.reduceMul, Nat.reduceLT, Int.reduceNeg, Int.reduceAdd, Int.reduceSub, Int.reduceMul, Int.reduceLT, Int.reduceLE, Int.reduceEq, Int.reduceToNat, reduceCtorEq, and_self, and_true, true_and, false_and, and_false, or_false, false_or, or_true, true_or, true_implies, false_implies, implies_true, not_true_eq_false, not_false_eq_true, Int.toNat_natCast, Int.cast_ofNat_Int, eq_self, ne_eq, ite_true, ite_false, if_true, if_false, Int.add_sub_cancel, Int.sub_add_cancel, Int.add_zero, Int.zero_add, cast_s, iI_in, iI_lit, iI_le, iI_lt, iI_eq, iI_cl, iI_add, iI_sub, iI_mul, iI_neg, iI_nI, ok_s, ok_ck, ok_bn, ok_ob, ck_iI, bn_eq, ob_s, om_n, om_s, cb_bI, gI_g, gI_2, gJ_1, gJ_g, gJ_2, gR_1, gR_2, gR_g, within_v, in_v, bI_i0, bI_i1, iI_bI0, iI_bI1, bI_T, bI_F, f_X2_reachByNothing_l5b]
        · have f4' : ∀ y, y < S → ar G5 c y ≤ ar G1 c y := fun y hy => f4 0 (Nat.zero_le _) y y hy rfl
          have := rch_ind (R := SL (gph G4 v) bd) (b := y) (P := fun z => z < S → ar G5 c y ≤ ar G1 c z) (fun hz => f4' y hz) (fun a b hab _ ihh ha => Int.le_trans (ihh (SL_in hw ha hab)) (f6 rfl a b ha hab)) hr
          exact this hx
      · obtain ⟨G2, gr', r1, r2, r3, r4, r5, r6, r7⟩ := round_v (F := F) hbd hw hS (G5 := G1) (by rw [f1.1]; exact h7) (B := ar G5 c) (iI (j : Int)) (f_X2_reachByNothing_l5 F (fu + 1)) S (Nat.le_refl _) F (by omega) G1 0 ⟨⟨rfl, fun _ _ _ => rfl⟩, fun x hx => ⟨Int.le_refl _, f2 x hx⟩, fun x hx1 hx2 => by omega, f3, Or.inl rfl, fun _ _ _ => rfl⟩
        obtain ⟨G', q1, q2⟩ := ih (j + 1) (by omega) (fu + 1) (by omega) G2 gr' ⟨r2.1.trans f1.1, fun a k ha => (r2.2 a k ha).trans (f1.2 a k ha)⟩ (fun x hx => (r3 x hx).2) r5 (fun k hk x y hx hp => by
          cases k with
          | zero =>
            have := f4 0 (Nat.zero_le _) x y hx hp
            exact Int.le_trans this (r3 x hx).1
          | succ k =>
            obtain ⟨z, z1, z2⟩ := hp
            exact Int.le_trans (f4 k (by omega) z y (SL_in hw hx z1) z2) (r4 x (Nat.zero_le _) hx z z1)) r6 (fun hz x y hx hy => by
          rw [r7 hz y (SL_in hw hx hy)]
          exact r4 x (Nat.zero_le _) hx y hy)
        refine ⟨G', ?_, q2⟩
        show f_X2_reachByNothing_l5b F (f_X2_reachByNothing_l5 F (fu + 1)) G4 G1 f v v2 _ (iI (j : Int)) = _
        have e : ¬ (S : Int) < j := by omega
        have e2 : iI (j : Int) + 1 = iI (((j + 1 : Nat)) : Int) := iI_add _ 1
        rw [e2] at r1
        simp (disch := omega) only [reduceIte, Nat.reduceEqDiff, Nat.reduceAdd, Nat.reduceSub, Nat.reduceMul, Nat.reduceLT, Int.reduceNeg, Int.reduceAdd, Int.reduceSub, Int.reduceMul, Int.reduceLT, Int.reduceLE, Int.reduceEq, Int.reduceToNat, reduceCtorEq, and_self, and_true, true_and, false_and, and_false, or_false, false_or, or_true, true_or, true_implies, false_implies, implies_true, not_true_eq_false, not_false_eq_true, Int.toNat_natCast, Int.cast_ofNat_Int, eq_self, ne_eq, ite_true, ite_false, if_true, if_false, Int.add_sub_cancel, Int.sub_add_cancel, Int.add_zero, Int.zero_add, cast_s, iI_in, iI_lit, iI_le, iI_lt, iI_eq, iI_cl, iI_add, iI_sub, iI_mul, iI_neg, iI_nI, ok_s, ok_ck, ok_bn, ok_ob, ck_iI, bn_eq, ob_s, om_n, om_s, cb_bI, gI_g, gI_2, gJ_1, gJ_g, gJ_2, gR_1, gR_2, gR_g, within_v, in_v, bI_i0, bI_i1, iI_bI0, iI_bI1, bI_T, bI_F, f_X2_reachByNothing_l5b, h3, e]
        exact r1.trans q1
  obtain ⟨G', r1, r2⟩ := key (S + 1) 0 (by omega) F (by omega) G5 1 ⟨rfl, fun _ _ _ => rfl⟩ hB (fun x hx => Or.inr ⟨x, hx, rch_rf x, rfl⟩) (fun k hk x y hx hp => by
    have ek : k = 0 := by omega
    subst ek
    rw [show x = y from hp]
    exact Int.le_refl _) (Or.inr rfl) (fun z => by omega)
  exact ⟨G', r1, r2⟩
end PR
