/-! the class's search: the loop over the places -/
def SRI (g : Gr) (f n S r : Nat) (tx sr : Nat → Nat) (G0 G : Grp) (c p i : Nat) : Prop :=
  G.2.2 f 7 = some c ∧ G.2.2 f 8 = some p ∧ ((c = f + 7 ∧ p = f + 8) ∨ (c = f + 8 ∧ p = f + 7)) ∧
  (∀ a k, a ≠ f + 5 → a ≠ f + 6 → a ≠ f + 7 → a ≠ f + 8 → G.1 a k = G0.1 a k) ∧ G.2.1 = G0.2.1 ∧ (∀ a k, ¬ (a = f ∧ (k = 7 ∨ k = 8)) → G.2.2 a k = G0.2.2 a k) ∧
  (i ≤ n → ∀ x, x < S → G.1 c x = iI (CW g n S tx x i)) ∧
  ∀ i', i ≤ i' → i' < n → G.1 (f + 5) i' = iI (frz (fru (fun k => CW g n S tx (sr k) i') r i')) ∧ ∀ k, fru (fun k => CW g n S tx (sr k) i') r i' = some k → G.1 (f + 6) i' = iI (CW g n S tx (sr k) i')
section PR
variable {F S n r : Nat} {G3 G4 G5 : Grp} {f v tc : Nat} {tx sr : Nat → Nat}
theorem ar_of {G : Grp} {c x : Nat} {z : Int} (h : G.1 c x = iI z) (h1 : -2147483648 ≤ z) (h2 : z < 2147483648) : ar G c x = z := by
  show (G.1 c x).toInt = z
  rw [h, iI_toInt h1 h2]
/-- one place's values -/
theorem place_s (hw : NW (gph G4 v) S) (hS : S ≤ 400) (h3 : G4.1 v 3 = iI S) (ht : TXC G3 tc n tx) {c p i : Nat} {G0 G : Grp} (h : SRI (gph G4 v) f n S r tx sr G0 G c p (i + 1)) (hi : i ≤ n) (hF : 200000 ≤ F) : ∃ G2 G3', f_X2_reachBySigns F G3 G4 (gR (gR G f 8 (some c)) f 7 (some p)) f v tc (iI n) (iI i) = some G2 ∧ f_X2_reachByNothing F G4 G2 f v (@bI (bdA n tx i) (clD _)) = some G3' ∧ FRA p (gR (gR G f 8 (some c)) f 7 (some p)) G3' ∧ ∀ x, x < S → G3'.1 p x = iI (CW (gph G4 v) n S tx x i) := by
  obtain ⟨i1, i2, i3, i4, i5, i6, i7, i8⟩ := id h
  have hn := ht.1
  have hcp : c ≠ p := by omega
  have r7 : (gR (gR G f 8 (some c)) f 7 (some p)).2.2 f 7 = some p := by rw [gR_g, if_pos ⟨rfl, rfl⟩]
  have r8 : (gR (gR G f 8 (some c)) f 7 (some p)).2.2 f 8 = some c := by rw [gR_g, if_neg (by omega), gR_g, if_pos ⟨rfl, rfl⟩]
  obtain ⟨G2, a1, a2, a3⟩ := signs_v (F := F) hw hS h3 ht r7 r8 hcp hi (fun hin x hx => i7 (by omega) x hx) hF
  have ab : ∀ x, x < S → ar G2 p x = bsv (gph G4 v) n S tx i x := fun x hx => by
    have := bsv_b (S := S) (tx := tx) (gph G4 v) (x := x) hi
    exact ar_of (a3 x hx) (by omega) (by omega)
  obtain ⟨G3', b1, b2, b3, b4, b5⟩ := rounds_v (F := F) (G5 := G2) (f := f) (c := p) (bd := bdA n tx i) rfl hw hS h3 (by rw [a2.1]; exact r7) (fun x hx => by
    have := bsv_b (S := S) (tx := tx) (gph G4 v) (x := x) hi
    rw [ab x hx]; omega) hF
  refine ⟨G2, G3', a1, b1, ⟨b2.1.trans a2.1, fun a k ha => (b2.2 a k ha).trans (a2.2 a k ha)⟩, fun x hx => iI_of ?_⟩
  show ar G3' p x = _
  refine cw_of hw (fun i hi => (ht.2.2 i hi).2) hi hx ?_ ?_
  · rcases b3 x hx with q | ⟨y, y1, y2, y3⟩
    · exact Or.inl q
    · exact Or.inr ⟨y, y1, y2, by rw [← ab y y1]; exact y3⟩
  · intro y hy hr
    rw [← ab y hy]
    exact b5 x y hx hr
theorem search_l (hw : NW (gph G4 v) S) (hS : S ≤ 400) (h3 : G4.1 v 3 = iI S) (h7 : G4.1 v 7 = iI r) (hr : r ≤ 12) (hs : ∀ k, k < r → G4.1 (v + 4) k = iI (sr k) ∧ sr k < S) (ht : TXC G3 tc n tx) {G0 : Grp} (hF : 200000 ≤ F) : ∀ t, t ≤ n + 1 → ∀ fu, t < fu → ∀ G c p, SRI (gph G4 v) f n S r tx sr G0 G c p t → ∃ G' c' p', f_X2_search_l18 F fu G3 G4 G f v tc (iI n) (iI ((t : Int) - 1)) = ob (f_X2_gather F G3 G' f tc (iI n)) (fun q => some q) ∧ SRI (gph G4 v) f n S r tx sr G0 G' c' p' 0 := by
  intro t
  have hn := ht.1
  induction t with
  | zero =>
    intro _ fu hfu G c p h
    obtain ⟨fu, rfl⟩ : ∃ f, fu = f + 1 := ⟨fu - 1, by omega⟩
    refine ⟨G, c, p, ?_, h⟩
    show f_X2_search_l18b F (f_X2_search_l18 F fu) G3 G4 G f v tc (iI n) (iI (-1)) = _
    unfold f_X2_search_l18b
    rw [if_p (by decide)]
  | succ t ih =>
    intro ht1 fu hfu G c p h
    obtain ⟨fu, rfl⟩ : ∃ f, fu = f + 1 := ⟨fu - 1, by omega⟩
    obtain ⟨i1, i2, i3, i4, i5, i6, i7, i8⟩ := id h
    obtain ⟨G2, G3', a1, a2, a3, a4⟩ := place_s (F := F) hw hS h3 ht h (by omega) hF
    have bc := border_c (F := F) ht (i := t) (by omega)
    have r7 : G3'.2.2 f 7 = some p := by rw [a3.1, gR_g, if_pos ⟨rfl, rfl⟩]
    have r8 : G3'.2.2 f 8 = some c := by rw [a3.1, gR_g, if_neg (by omega), gR_g, if_pos ⟨rfl, rfl⟩]
    have rO : ∀ a k, ¬ (a = f ∧ (k = 7 ∨ k = 8)) → G3'.2.2 a k = G0.2.2 a k := fun a k hk => by
      rw [a3.1, gR_g, if_neg (by omega), gR_g, if_neg (by omega)]
      exact i6 a k hk
    have rJ : G3'.2.1 = G0.2.1 := by rw [a3.1]; exact i5
    have aO : ∀ a k, a ≠ p → G3'.1 a k = G.1 a k := fun a k ha => by
      rw [a3.2 a k ha, gR_1, gR_1]
    have e1 : ¬ (t : Int) < 0 := by omega
    have e2 : (t : Int) + 1 - 1 = t := by omega
    have e3 : (t : Int) + -1 = (t : Int) - 1 := by omega
    by_cases en : (n : Int) ≤ t
    · obtain ⟨G', c', p', q1, q2⟩ := ih (by omega) fu (by omega) G3' p c ⟨r7, r8, by omega, fun a k h1 h2 h4 h5 => by rw [aO a k (by omega)]; exact i4 a k h1 h2 h4 h5, rJ, rO, fun _ x hx => a4 x hx, fun i' hi1 hi2 => by omega⟩
      refine ⟨G', c', p', ?_, q2⟩
      show f_X2_search_l18b F (f_X2_search_l18 F fu) G3 G4 G f v tc (iI n) (iI ((t : Int) + 1 - 1)) = _
      simp (disch := omega) only [reduceIte, Nat.reduceEqDiff, Nat.reduceAdd, Nat.reduceSub, Nat.reduceMul, Nat.reduceLT, Int.reduceNeg, Int.reduceAdd, Int.reduceSub, Int.reduceMul, Int.reduceLT, Int.reduceLE, Int.reduceEq, Int.reduceToNat, reduceCtorEq, and_self, and_true, true_and, false_and, and_false, or_false, false_or, or_true, true_or, true_implies, false_implies, implies_true, not_true_eq_false, not_false_eq_true, Int.toNat_natCast, Int.cast_ofNat_Int, eq_self, ne_eq, ite_true, ite_false, if_true, if_false, Int.add_sub_cancel, Int.sub_add_cancel, Int.add_zero, Int.zero_add, cast_s, iI_in, iI_lit, iI_le, iI_lt, iI_eq, iI_cl, iI_add, iI_sub, iI_mul, iI_neg, iI_nI, ok_s, ok_ck, ok_bn, ok_ob, ck_iI, bn_eq, ob_s, om_n, om_s, cb_bI, gI_g, gI_2, gJ_1, gJ_g, gJ_2, gR_1, gR_2, gR_g, within_v, in_v, bI_i0, bI_i1, iI_bI0, iI_bI1, bI_T, bI_F, f_X2_search_l18b, e1, e2, i1, i2, a1, a2, bc, en, e3]
      exact q1
    · obtain ⟨G4', b1, b2, b3, b4, b5⟩ := note_v (F := F) (G5 := G3') (f := f) (v := v) (i := t) (W := fun k => CW (gph G4 v) n S tx (sr k) t) h7 hr r7 (by omega) (fun k hk => ⟨(hs k hk).1, by have := (hs k hk).2; omega⟩) (by omega) (fun k hk => by
        have := cw_b (S := S) (n := n) (tx := tx) (gph G4 v) (sr k) t
        exact ⟨a4 _ (hs k hk).2, by omega, by omega⟩) hF
      obtain ⟨G', c', p', q1, q2⟩ := ih (by omega) fu (by omega) G4' p c ⟨by rw [b2]; exact r7, by rw [b2]; exact r8, by omega, fun a k h1 h2 h4 h5 => by rw [b3 a k (by omega) (by omega), aO a k (by omega)]; exact i4 a k h1 h2 h4 h5, by rw [b2]; exact rJ, by rw [b2]; exact rO, fun _ x hx => by rw [b3 p x (by omega) (by omega)]; exact a4 x hx, fun i' hi1 hi2 => by
        by_cases c2 : i' = t
        · rw [c2]; exact ⟨b4, b5⟩
        · have := i8 i' (by omega) hi2
          rw [b3 (f + 5) i' (by omega) (by omega), b3 (f + 6) i' (by omega) (by omega), aO (f + 5) i' (by omega), aO (f + 6) i' (by omega)]
          exact this⟩
      refine ⟨G', c', p', ?_, q2⟩
      show f_X2_search_l18b F (f_X2_search_l18 F fu) G3 G4 G f v tc (iI n) (iI ((t : Int) + 1 - 1)) = _
      simp (disch := omega) only [reduceIte, Nat.reduceEqDiff, Nat.reduceAdd, Nat.reduceSub, Nat.reduceMul, Nat.reduceLT, Int.reduceNeg, Int.reduceAdd, Int.reduceSub, Int.reduceMul, Int.reduceLT, Int.reduceLE, Int.reduceEq, Int.reduceToNat, reduceCtorEq, and_self, and_true, true_and, false_and, and_false, or_false, false_or, or_true, true_or, true_implies, false_implies, implies_true, not_true_eq_false, not_false_eq_true, Int.toNat_natCast, Int.cast_ofNat_Int, eq_self, ne_eq, ite_true, ite_false, if_true, if_false, Int.add_sub_cancel, Int.sub_add_cancel, Int.add_zero, Int.zero_add, cast_s, iI_in, iI_lit, iI_le, iI_lt, iI_eq, iI_cl, iI_add, iI_sub, iI_mul, iI_neg, iI_nI, ok_s, ok_ck, ok_bn, ok_ob, ck_iI, bn_eq, ob_s, om_n, om_s, cb_bI, gI_g, gI_2, gJ_1, gJ_g, gJ_2, gR_1, gR_2, gR_g, within_v, in_v, bI_i0, bI_i1, iI_bI0, iI_bI1, bI_T, bI_F, f_X2_search_l18b, e1, e2, i1, i2, a1, a2, bc, en, b1, e3]
      exact q1
theorem search_v (hw : NW (gph G4 v) S) (hS : S ≤ 400) (h3 : G4.1 v 3 = iI S) (h7 : G4.1 v 7 = iI r) (hr : r ≤ 12) (hs : ∀ k, k < r → G4.1 (v + 4) k = iI (sr k) ∧ sr k < S) (ht : TXC G3 tc n tx) (hf : ∃ c p, G5.2.2 f 7 = some c ∧ G5.2.2 f 8 = some p ∧ ((c = f + 7 ∧ p = f + 8) ∨ (c = f + 8 ∧ p = f + 7))) (hF : 200000 ≤ F) : ∃ G' c' p', f_X2_search F G3 G4 G5 f v tc (iI n) = f_X2_gather F G3 G' f tc (iI n) ∧ SRI (gph G4 v) f n S r tx sr G5 G' c' p' 0 := by
  obtain ⟨t1, ⟨L, t2, t4, t5⟩, t3⟩ := id ht
  obtain ⟨c, p, f1, f2, f3⟩ := hf
  obtain ⟨G', c', p', q1, q2⟩ := search_l (F := F) (f := f) (G0 := G5) hw hS h3 h7 hr hs ht hF (n + 1) (Nat.le_refl _) F (by omega) G5 c p ⟨f1, f2, f3, fun _ _ _ _ _ _ => rfl, rfl, fun _ _ _ => rfl, fun z => by omega, fun i' h1 h2 => by omega⟩
  refine ⟨G', c', p', ?_, q2⟩
  have e : ob (f_X2_gather F G3 G' f tc (iI n)) (fun q => some q) = f_X2_gather F G3 G' f tc (iI n) := by
    cases f_X2_gather F G3 G' f tc (iI n) <;> rfl
  rw [e, show ((n + 1 : Nat) : Int) - 1 = (n : Int) by omega] at q1
  rw [← q1]
  unfold f_X2_search
  rw [bn_eq, t2, Option.getD_some]
  have e2 : nI L = iI L := rfl
  have l1 : ∀ x : Int, -1000 ≤ x → x ≤ 1000 → ((160 : Int32) < iI x ↔ 160 < x) := fun x h1 h2 => iI_lt (a := 160) (b := x) (by decide) (by decide) (by omega) (by omega)
  have l2 : (if (160 : Int32) < nI L then (160 : Int32) else nI L) = iI (if 160 < (L : Int) then 160 else (L : Int)) := by
    rw [e2]
    by_cases q : 160 < (L : Int)
    · rw [if_pos q, if_pos ((l1 L (by omega) (by omega)).mpr q)]; rfl
    · rw [if_neg q, if_neg (fun z => q ((l1 L (by omega) (by omega)).mp z))]
  rw [l2]
  have l3 : ¬ iI (if 160 < (L : Int) then 160 else (L : Int)) < iI (n : Int) := by
    by_cases q : 160 < (L : Int)
    · rw [if_pos q]
      intro z
      have := (iI_lt (by decide) (by decide) (by omega) (by omega)).mp z
      omega
    · rw [if_neg q]
      intro z
      have := (iI_lt (by omega) (by omega) (by omega) (by omega)).mp z
      omega
  rw [if_n l3]
end PR
