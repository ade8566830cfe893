/-! the class's search: signs, borders, a place -/
/-- the class's text -/
def TXC (G3 : Grp) (tc n : Nat) (tx : Nat → Nat) : Prop := n ≤ 160 ∧ (∃ L, G3.2.2 tc 0 = some L ∧ n ≤ L ∧ L ≤ 240) ∧ ∀ i, i < n → G3.1 tc i = iI (tx i) ∧ isSg (tx i)
def CND (g : Gr) (n S : Nat) (tx : Nat → Nat) (x i j : Nat) : Prop := ∃ t, t < S ∧ g.1 t = 1 ∧ rch (stp g n (tkA n tx) (bdA n tx) 0 S) (x, i) (t, j)
noncomputable def CW (g : Gr) (n S : Nat) (tx : Nat → Nat) (x i : Nat) : Int := gst (fun j => CND g n S tx x i j) (n + 1)
/-- what a sign gives -/
noncomputable def bsv (g : Gr) (n S : Nat) (tx : Nat → Nat) (i x : Nat) : Int := if g.1 x = 1 then (i : Int) else @ite _ (0 ≤ g.2.1 x ∧ tkA n tx (g.1 x) i) (clD _) (CW g n S tx (g.2.1 x).toNat (i + 1)) (-1)
section PR
variable {F S n : Nat} {G3 G4 G5 : Grp} {f v c p tc : Nat} {tx : Nat → Nat}
theorem takes_cm {w c : Int32} (h0 : ¬ w = 0) (h1 : ¬ w = 94) : f_X2_takes F w c = f_X12_takes F w c := by
  unfold f_X2_takes f_X12_takes
  rw [if_n h0]
  by_cases a : w = 35
  · rw [if_p a, if_p a]; rfl
  · rw [if_n a, if_n a]
    by_cases b : w = 46
    · rw [if_p b, if_p b]
    · rw [if_n b, if_n b]
      by_cases d : w = 64
      · rw [if_p d, if_p d]; rfl
      · rw [if_n d, if_n d, if_n h1]
theorem takes_c {w : Int} (h1 : 0 ≤ w) (h2 : w < 256) {c : Nat} (hc : isSg c) : f_X2_takes F (iI w) (iI (c : Int)) = some (@bI (tks w c) (clD _)) := by
  by_cases a : w = 0
  · rw [@bI_f _ (clD _) (fun z => z.1 a), a]
    unfold f_X2_takes
    rw [if_p (c := iI 0 = 0) rfl]
  · by_cases b : w = 94
    · rw [@bI_f _ (clD _) (fun z => z.2.1 b), b]
      unfold f_X2_takes
      rw [if_n (by decide), if_n (by decide), if_n (by decide), if_n (by decide), if_p (c := iI 94 = 94) rfl]
    · rw [takes_cm (fun z => a ((iI_eq (a := w) (b := 0) (by omega) (by omega) (by decide) (by decide)).mp z)) (fun z => b ((iI_eq (a := w) (b := 94) (by omega) (by omega) (by decide) (by decide)).mp z))]
      exact takes_m (by omega) (by omega) hc
theorem border_c (ht : TXC G3 tc n tx) {i : Nat} (hi : i ≤ n) : f_X2_isBorder F G3 tc (iI n) (iI i) = some (@bI (bdA n tx i) (clD _)) := by
  obtain ⟨t1, ⟨L, t2, t4, t5⟩, t3⟩ := ht
  have b40 : ∀ (P Q : Prop), f_X2_isBorder_b40 F G3 (@bI P (clD _)) (@bI Q (clD _)) = some (@bI (¬ (P ↔ Q)) (clD _)) := by
    intro P Q
    unfold f_X2_isBorder_b40
    by_cases a : P
    · by_cases b : Q
      · rw [@bI_t _ (clD _) a, @bI_t _ (clD _) b, if_p rfl, @bI_f _ (clD _) (fun z => z ⟨fun _ => b, fun _ => a⟩)]
      · rw [@bI_t _ (clD _) a, @bI_f _ (clD _) b, if_n (by decide), @bI_t _ (clD _) (fun z => b (z.mp a))]
    · by_cases b : Q
      · rw [@bI_f _ (clD _) a, @bI_t _ (clD _) b, if_n (by decide), @bI_t _ (clD _) (fun z => a (z.mpr b))]
      · rw [@bI_f _ (clD _) a, @bI_f _ (clD _) b, if_p rfl, @bI_f _ (clD _) (fun z => z ⟨fun y => absurd y a, fun y => absurd y b⟩)]
  have b20 : ∀ (P : Prop), f_X2_isBorder_b20 F G3 tc (iI n) (iI i) (@bI P (clD _)) = some (@bI (¬ (P ↔ wdA n tx i)) (clD _)) := by
    intro P
    unfold f_X2_isBorder_b20 f_X2_isBorder_b39
    by_cases e : (n : Int) ≤ i
    · have nw : ¬ wdA n tx i := fun z => by have := z.1; omega
      rw [if_p ((iI_le (by omega) (by omega) (by omega) (by omega)).mpr e), ← b40, @bI_f (wdA n tx i) (clD _) nw]
    · have u := t3 i (by omega)
      have hb : 0 ≤ (tx i : Int) ∧ (tx i : Int) ≤ 200 := by have := u.2; unfold isSg isWd at this; omega
      rw [if_n (fun z => e ((iI_le (by omega) (by omega) (by omega) (by omega)).mp z)), t2, Option.getD_some, ck_iI (by omega) (by omega) (by omega), iI_cl (by omega) (by omega), Int.toNat_natCast, u.1, word_c (by omega) (by omega), ob_s]
      by_cases q : isWd (tx i : Int)
      · rw [bI_t q, if_n (by decide), ← b40, @bI_t (wdA n tx i) (clD _) ⟨by omega, q⟩]
      · rw [bI_f q, if_p rfl, ← b40, @bI_f (wdA n tx i) (clD _) (fun z => q z.2)]
  unfold f_X2_isBorder f_X2_isBorder_b19
  by_cases e : (i : Int) ≤ 0
  · have e' : ¬ (0 < i ∧ wdA n tx (i - 1)) := fun z => by omega
    have e2 : iI (i : Int) ≤ 0 := (iI_le (a := (i : Int)) (b := 0) (by omega) (by omega) (by decide) (by decide)).mpr e
    rw [if_p e2]
    have := b20 (0 < i ∧ wdA n tx (i - 1))
    rw [@bI_f _ (clD _) e'] at this
    exact this
  · have u := t3 (i - 1) (by omega)
    have hb : 0 ≤ (tx (i - 1) : Int) ∧ (tx (i - 1) : Int) ≤ 200 := by have := u.2; unfold isSg isWd at this; omega
    have es : iI (i : Int) - 1 = iI ((i - 1 : Nat) : Int) := by
      have : iI (i : Int) - 1 = iI ((i : Int) - 1) := iI_sub _ 1
      rw [this]; congr 1; omega
    have e2 : ¬ iI (i : Int) ≤ 0 := fun z => e ((iI_le (a := (i : Int)) (b := 0) (by omega) (by omega) (by decide) (by decide)).mp z)
    rw [if_n e2, es, t2, Option.getD_some, ck_iI (by omega) (by omega) (by omega), iI_cl (by omega) (by omega), Int.toNat_natCast, u.1, word_c (by omega) (by omega), ob_s]
    have := b20 (0 < i ∧ wdA n tx (i - 1))
    by_cases q : isWd (tx (i - 1) : Int)
    · rw [@bI_t (0 < i ∧ wdA n tx (i - 1)) (clD _) ⟨by omega, by omega, q⟩] at this
      rw [bI_t q, if_n (by decide)]
      exact this
    · rw [@bI_f (0 < i ∧ wdA n tx (i - 1)) (clD _) (fun z => q z.2.2)] at this
      rw [bI_f q, if_p rfl]
      exact this
/-- what is reached by a sign: the base of a place -/
theorem signs_v (hw : NW (gph G4 v) S) (hS : S ≤ 400) (h3 : G4.1 v 3 = iI S) (ht : TXC G3 tc n tx) (h7 : G5.2.2 f 7 = some c) (h8 : G5.2.2 f 8 = some p) (hne : p ≠ c) {i : Nat} (hi : i ≤ n) (hp : i < n → ∀ x, x < S → G5.1 p x = iI (CW (gph G4 v) n S tx x (i + 1))) (hF : 200000 ≤ F) : ∃ G', f_X2_reachBySigns F G3 G4 G5 f v tc (iI n) (iI i) = some G' ∧ FRA c G5 G' ∧ ∀ x, x < S → G'.1 c x = iI (bsv (gph G4 v) n S tx i x) := by
  obtain ⟨t1, ⟨L, t2, t4, t5⟩, t3⟩ := ht
  have key : ∀ d x, x + d = S → ∀ fu, d < fu → ∀ G1, FRA c G5 G1 → (∀ y, y < x → G1.1 c y = iI (bsv (gph G4 v) n S tx i y)) → ∃ G', f_X2_reachBySigns_l3 F fu G3 G4 G1 f v tc (iI n) (iI i) (iI (x : Int)) = some G' ∧ FRA c G5 G' ∧ ∀ x, x < S → G'.1 c x = iI (bsv (gph G4 v) n S tx i x) := by
    intro d
    induction d with
    | zero =>
      intro x hx fu hfu G1 f1 f2
      obtain ⟨fu, rfl⟩ : ∃ f, fu = f + 1 := ⟨fu - 1, by omega⟩
      refine ⟨G1, ?_, f1, fun y hy => f2 y (by omega)⟩
      show f_X2_reachBySigns_l3b F (f_X2_reachBySigns_l3 F fu) G3 G4 G1 f v tc _ _ _ = _
      have e : (S : Int) ≤ x := by omega
      simp (disch := omega) only [reduceIte, Nat.reduceEqDiff, Nat.reduceAdd, Nat.reduceSub, Nat.reduceMul, Nat.reduceLT, Int.reduceNeg, Int.reduceAdd, Int.reduceSub, Int.reduceMul, Int.reduceLT, Int.reduceLE, Int.reduceEq, Int.reduceToNat, reduceCtorEq, and_self, and_true, true_and, false_and, and_false, or_false, false_or, or_true, true_or, true_implies, false_implies, implies_true, not_true_eq_false, not_false_eq_true, Int.toNat_natCast, Int.cast_ofNat_Int, eq_self, ne_eq, ite_true, ite_false, if_true, if_false, Int.add_sub_cancel, Int.sub_add_cancel, Int.add_zero, Int.zero_add, cast_s, iI_in, iI_lit, iI_le, iI_lt, iI_eq, iI_cl, iI_add, iI_sub, iI_mul, iI_neg, iI_nI, ok_s, ok_ck, ok_bn, ok_ob, ck_iI, bn_eq, ob_s, om_n, om_s, cb_bI, gI_g, gI_2, gJ_1, gJ_g, gJ_2, gR_1, gR_2, gR_g, within_v, in_v, bI_i0, bI_i1, iI_bI0, iI_bI1, bI_T, bI_F, f_X2_reachBySigns_l3b, h3, e]
    | succ d ih =>
      intro x hx fu hfu G1 f1 f2
      obtain ⟨fu, rfl⟩ : ∃ f, fu = f + 1 := ⟨fu - 1, by omega⟩
      obtain ⟨w1, w2, w3, w4, w5, w6⟩ := hw x (by omega)
      have h7' : G1.2.2 f 7 = some c := by rw [f1.1]; exact h7
      have h8' : G1.2.2 f 8 = some p := by rw [f1.1]; exact h8
      have hk : G4.1 (v + 1) x = iI ((gph G4 v).1 x) := iI_of rfl
      have ho : G4.1 (v + 2) x = iI ((gph G4 v).2.1 x) := iI_of rfl
      have b79 : ∀ u : Int32, u = iI (bsv (gph G4 v) n S tx i x) → ∃ G', f_X2_reachBySigns_b79 F (f_X2_reachBySigns_l3 F fu) G3 G4 G1 f v tc (iI n) (iI i) (iI (x : Int)) u = some G' ∧ FRA c G5 G' ∧ ∀ x, x < S → G'.1 c x = iI (bsv (gph G4 v) n S tx i x) := by
        intro u hu
        obtain ⟨G', r1, r2⟩ := ih (x + 1) (by omega) fu (by omega) (gI G1 c x u) ⟨f1.1, fun a k ha => by rw [gI_g, if_neg (fun z => ha z.1)]; exact f1.2 a k ha⟩ (fun y hy => by
          rw [gI_g]
          by_cases e : y = x
          · rw [if_pos ⟨rfl, e⟩, e]; exact hu
          · rw [if_neg (fun z => e z.2)]; exact f2 y (by omega))
        refine ⟨G', ?_, r2⟩
        have e2 : iI (x : Int) + 1 = iI (((x + 1 : Nat)) : Int) := iI_add _ 1
        unfold f_X2_reachBySigns_b79
        rw [h7', om_s, ck_iI (by omega) (by omega) (by omega), bn_eq, bn_eq, iI_cl (by omega) (by omega), Int.toNat_natCast, e2]
        exact r1
      show ∃ G', f_X2_reachBySigns_l3b F (f_X2_reachBySigns_l3 F fu) G3 G4 G1 f v tc _ _ _ = some G' ∧ _
      have l0 : ¬ iI (S : Int) ≤ iI (x : Int) := fun z => by
        have := (iI_le (by omega) (by omega) (by omega) (by omega)).mp z
        omega
      unfold f_X2_reachBySigns_l3b
      rw [h3, if_n l0, ck_iI (by omega) (by omega) (by omega), bn_eq, iI_cl (by omega) (by omega), Int.toNat_natCast, hk, ho, h8', om_s]
      have q1 : (iI ((gph G4 v).1 x) = 1) ↔ (gph G4 v).1 x = 1 := iI_eq (a := (gph G4 v).1 x) (b := 1) (by omega) (by omega) (by decide) (by decide)
      by_cases k1 : (gph G4 v).1 x = 1
      · rw [if_p (q1.mpr k1)]
        exact b79 _ (by unfold bsv; rw [if_pos k1])
      · rw [if_n (fun z => k1 (q1.mp z))]
        have bs : bsv (gph G4 v) n S tx i x = @ite _ (0 ≤ (gph G4 v).2.1 x ∧ tkA n tx ((gph G4 v).1 x) i) (clD _) (CW (gph G4 v) n S tx ((gph G4 v).2.1 x).toNat (i + 1)) (-1) := by
          unfold bsv; rw [if_neg k1]
        by_cases en : (n : Int) ≤ i
        · rw [if_p ((iI_le (by omega) (by omega) (by omega) (by omega)).mpr en)]
          exact b79 _ (by rw [bs, @if_neg _ (clD _) (fun z => by have := z.2.1; omega)]; rfl)
        · rw [if_n (fun z => en ((iI_le (by omega) (by omega) (by omega) (by omega)).mp z)), ck_iI (by omega) (by omega) (by omega)]
          have hl : (iI ((gph G4 v).2.1 x) < 0) ↔ (gph G4 v).2.1 x < 0 := iI_lt (a := (gph G4 v).2.1 x) (b := 0) (by omega) (by omega) (by decide) (by decide)
          by_cases eo : (gph G4 v).2.1 x < 0
          · rw [if_p (hl.mpr eo)]
            exact b79 _ (by rw [bs, @if_neg _ (clD _) (fun z => by omega)]; rfl)
          · have u := t3 i (by omega)
            rw [if_n (fun z => eo (hl.mp z)), t2, Option.getD_some, ck_iI (by omega) (by omega) (by omega), iI_cl (a := (i : Int)) (by omega) (by omega), Int.toNat_natCast, u.1, takes_c w1 w2 u.2, ob_s]
            by_cases tk : tks ((gph G4 v).1 x) (tx i)
            · rw [@bI_t _ (clD _) tk, if_n (by decide), ck_iI (by omega) (by omega) (by omega), ck_iI (by omega) (by omega) (by omega), bn_eq, iI_cl (a := (gph G4 v).2.1 x) (by omega) (by omega)]
              refine b79 _ ?_
              rw [bs, @if_pos _ (clD _) ⟨by omega, by omega, tk⟩, f1.2 p _ hne, hp (by omega) _ (by omega)]
            · rw [@bI_f _ (clD _) tk, if_p rfl]
              exact b79 _ (by rw [bs, @if_neg _ (clD _) (fun z => tk z.2.2)]; rfl)
  exact key S 0 (by omega) F (by omega) G5 ⟨rfl, fun _ _ _ => rfl⟩ (fun y hy => absurd hy (Nat.not_lt_zero y))
/-- a road from a place: silent steps, then its end or a sign -/
theorem road_dec {g : Gr} {x i t j : Nat} (h : rch (stp g n (tkA n tx) (bdA n tx) 0 S) (x, i) (t, j)) : ∃ y, rch (SL g (bdA n tx i)) x y ∧ ((y = t ∧ j = i) ∨ ∃ z : Nat, g.2.1 y = z ∧ z < S ∧ y < S ∧ tkA n tx (g.1 y) i ∧ rch (stp g n (tkA n tx) (bdA n tx) 0 S) (z, i + 1) (t, j)) := by
  refine rch_ind (R := stp g n (tkA n tx) (bdA n tx) 0 S) (b := (t, j)) (P := fun a => ∃ y, rch (SL g (bdA n tx a.2)) a.1 y ∧ ((y = t ∧ j = a.2) ∨ ∃ z : Nat, g.2.1 y = z ∧ z < S ∧ y < S ∧ tkA n tx (g.1 y) a.2 ∧ rch (stp g n (tkA n tx) (bdA n tx) 0 S) (z, a.2 + 1) (t, j))) ⟨t, rch_rf t, Or.inl ⟨rfl, rfl⟩⟩ (fun a c hs hr ih => ?_) h
  obtain ⟨s1, s2, s3, s4⟩ := hs
  rcases s4 with ⟨q1, ⟨q2, q3⟩ | ⟨q2, q3⟩⟩ | ⟨q1, q2⟩
  · obtain ⟨y, y1, y2⟩ := ih
    rw [q2] at y1 y2
    exact ⟨y, rch_hd (Or.inl ⟨q1, q3⟩) y1, y2⟩
  · exact ⟨a.1, rch_rf _, Or.inr ⟨c.1, q1, s3.2, s2.2, q3, by rw [show (c.1, a.2 + 1) = c from Prod.ext rfl q2.symm]; exact hr⟩⟩
  · obtain ⟨y, y1, y2⟩ := ih
    rw [q1] at y1 y2
    exact ⟨y, rch_hd (Or.inr q2) y1, y2⟩
end PR
