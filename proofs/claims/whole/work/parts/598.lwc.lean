/-! the calls of the law, one by one -/
/-- what holds between the calls: the class's groups and the reference's -/
def RS (n : Nat) (σ : St) : Prop := ∃ (vn gn cn d sn : Nat), d < 3600 ∧ (σ 1).1 0 0 = iI (d : Nat) ∧ (σ 23).1 91 0 = iI (d : Nat) ∧ RFolk (σ 6) (σ 24) vn gn cn ∧ (∃ (pn ln : Nat) (tp tl Ln : Nat → Nat) (P L : Nat → Nat → Int) (X : Nat → Nat → Nat), RLet (σ 3) (σ 7) (σ 9) (σ 10) (σ 13) (σ 14) (σ 15) (σ 25) (σ 32) (σ 33) (σ 34) gn cn d n pn ln sn tp tl Ln P L X) ∧ (∃ (tn : Nat) (T : Nat → Nat → Int), RTell (σ 8) (σ 41) cn d tn T) ∧ (∃ f : Nat → Int, RNum (σ 2) (σ 26) f) ∧ (∃ (z : Nat) (b : Nat → Nat), RTape (σ 1) (σ 3) (σ 27) z b) ∧ (∃ (v sp S cnt r : Nat) (gl rt : Nat → Nat) (dc : Nat → Int), RRul (σ 1) (σ 4) (σ 29) v sp S cnt r gl rt dc) ∧ RLook (σ 5) (σ 31) ∧ RHand (σ 12) (σ 36) ∧ RSack (σ 11) (σ 35) sn ∧ (∃ (wn : Nat) (W : Nat → Nat → Nat), RTr (σ 16) (σ 37) wn W) ∧ RCoin (σ 18) (σ 39) vn cn ∧ (∃ (jn bl : Nat) (C : Nat → Nat → Int), RProj (σ 19) (σ 40) vn jn bl C) ∧ (∃ A : Nat → Nat → Int, RWish (σ 20) (σ 42) gn A) ∧ ∃ (al dr : Nat) (O : Nat → Int), RTrial (σ 22) (σ 44) cn al dr O
section PR
variable {F n L : Nat} {σ : St} {xs : Nat → Int32} {v3 : Int32} {k18 : Nat → St → Int32 → Option Int32}
theorem RLet.g3 {G3 G3' G7 G9 G10 G13 G14 G15 G25 G32 G33 G34 : Grp} {gn cn d n pn ln sn : Nat} {tp tl Ln : Nat → Nat} {P L : Nat → Nat → Int} {X : Nat → Nat → Nat} (h : RLet G3 G7 G9 G10 G13 G14 G15 G25 G32 G33 G34 gn cn d n pn ln sn tp tl Ln P L X) (e : G3'.2 = G3.2) (e2 : ∀ a k, a ≠ 1 → G3'.1 a k = G3.1 a k) : RLet G3' G7 G9 G10 G13 G14 G15 G25 G32 G33 G34 gn cn d n pn ln sn tp tl Ln P L X := by
  obtain ⟨hp, hc, hm, hb, hk, hg, hx, hs, hwt, hn⟩ := h
  refine ⟨hp, hc, hm, hb, hk, hg, fun i hi => ?_, hs, hwt, hn⟩
  obtain ⟨a1, a2, a3, a4⟩ := hx i hi
  rw [e]
  refine ⟨a1, a2, a3, fun j hj => ?_⟩
  rw [e2 _ _ (by omega)]
  exact a4 j hj
theorem lw_0 (h : RS n σ) (hF : 200000 ≤ F) (c1 : ∀ x : Option Int32, ck (v3 + 1) L x = x) (c2 : ∀ x : Option Int32, ck (v3 + 2) L x = x) (c3 : ∀ x : Option Int32, ck (v3 + 3) L x = x) (c4 : ∀ x : Option Int32, ck (v3 + 4) L x = x) (c5 : ∀ x : Option Int32, ck (v3 + 5) L x = x) (c6 : ∀ x : Option Int32, ck (v3 + 6) L x = x) (c7 : ∀ x : Option Int32, ck (v3 + 7) L x = x) (hk : ∀ n σ, RS n σ → k18 n σ (v3 + 8) = some 1) : f_law_0 F xs L k18 n σ v3 = some 1 := by
  obtain ⟨vn, gn, cn, d, sn, hd, h1, h23, hf, ⟨pn, ln, tp, tl, Ln, P, L0, X, hL⟩, ⟨tn, T, hT⟩, ⟨f, hN⟩, ⟨z, b, hA⟩, ⟨v, sp, S, cnt0, r, gl, rt, dc, hR⟩, hlk, hh, hsk, ⟨wn, W, hW⟩, hco, ⟨jn, bl, C, hP⟩, ⟨A, hwi⟩, ⟨al, dr, O, hti⟩⟩ := h
  obtain ⟨q, q1, q2⟩ := ok_iff.mp (call_village (F := F) hf (xs (v3 + 1).toNatClampNeg) (xs (v3 + 2).toNatClampNeg))
  obtain ⟨w, w1, w2, vn', w3, w4⟩ := ok_iff.mp q2
  have w1 : f_X12_village F ((sgs σ [(6, q.2)]) 24) (xs (v3 + 1).toNatClampNeg) (xs (v3 + 2).toNatClampNeg) = some w := w1
  unfold f_law_0
  simp only [c1, c2]
  rw [q1, ob_s, bn_eq, w1, ob_s, bn_eq, if_p w2, bn_eq]
  exact hk _ _ ⟨vn', gn, cn, d, sn, hd, h1, h23, w4, ⟨pn, ln, tp, tl, Ln, P, L0, X, hL⟩, ⟨tn, T, hT⟩, ⟨f, hN⟩, ⟨z, b, hA⟩, ⟨v, sp, S, cnt0, r, gl, rt, dc, hR⟩, hlk, hh, hsk, ⟨wn, W, hW⟩, hco.gc w3 (Nat.le_refl _), ⟨jn, bl, C, hP.gc w3 w4.1⟩, ⟨A, hwi⟩, ⟨al, dr, O, hti⟩⟩
theorem lw_1 (h : RS n σ) (hF : 200000 ≤ F) (c1 : ∀ x : Option Int32, ck (v3 + 1) L x = x) (c2 : ∀ x : Option Int32, ck (v3 + 2) L x = x) (c3 : ∀ x : Option Int32, ck (v3 + 3) L x = x) (c4 : ∀ x : Option Int32, ck (v3 + 4) L x = x) (c5 : ∀ x : Option Int32, ck (v3 + 5) L x = x) (c6 : ∀ x : Option Int32, ck (v3 + 6) L x = x) (c7 : ∀ x : Option Int32, ck (v3 + 7) L x = x) (hk : ∀ n σ, RS n σ → k18 n σ (v3 + 8) = some 1) : f_law_1 F xs L k18 n σ v3 = some 1 := by
  obtain ⟨vn, gn, cn, d, sn, hd, h1, h23, hf, ⟨pn, ln, tp, tl, Ln, P, L0, X, hL⟩, ⟨tn, T, hT⟩, ⟨f, hN⟩, ⟨z, b, hA⟩, ⟨v, sp, S, cnt0, r, gl, rt, dc, hR⟩, hlk, hh, hsk, ⟨wn, W, hW⟩, hco, ⟨jn, bl, C, hP⟩, ⟨A, hwi⟩, ⟨al, dr, O, hti⟩⟩ := h
  obtain ⟨q, q1, q2⟩ := ok_iff.mp (call_giver (F := F) hf (xs (v3 + 1).toNatClampNeg))
  obtain ⟨w, w1, w2, gn', w3, w4⟩ := ok_iff.mp q2
  have w1 : f_X12_giver F ((sgs σ [(6, q.2)]) 24) (xs (v3 + 1).toNatClampNeg) = some w := w1
  unfold f_law_1
  simp only [c1]
  rw [q1, ob_s, bn_eq, w1, ob_s, bn_eq, if_p w2, bn_eq]
  exact hk _ _ ⟨vn, gn', cn, d, sn, hd, h1, h23, w4, ⟨pn, ln, tp, tl, Ln, P, L0, X, hL.gc w3 (Nat.le_refl _) w4.2.1 w4.2.2.1⟩, ⟨tn, T, hT⟩, ⟨f, hN⟩, ⟨z, b, hA⟩, ⟨v, sp, S, cnt0, r, gl, rt, dc, hR⟩, hlk, hh, hsk, ⟨wn, W, hW⟩, hco, ⟨jn, bl, C, hP⟩, ⟨A, wish_more hwi w3 w4.2.1⟩, ⟨al, dr, O, hti⟩⟩
theorem lw_2 (h : RS n σ) (hF : 200000 ≤ F) (c1 : ∀ x : Option Int32, ck (v3 + 1) L x = x) (c2 : ∀ x : Option Int32, ck (v3 + 2) L x = x) (c3 : ∀ x : Option Int32, ck (v3 + 3) L x = x) (c4 : ∀ x : Option Int32, ck (v3 + 4) L x = x) (c5 : ∀ x : Option Int32, ck (v3 + 5) L x = x) (c6 : ∀ x : Option Int32, ck (v3 + 6) L x = x) (c7 : ∀ x : Option Int32, ck (v3 + 7) L x = x) (hk : ∀ n σ, RS n σ → k18 n σ (v3 + 8) = some 1) : f_law_2 F xs L k18 n σ v3 = some 1 := by
  obtain ⟨vn, gn, cn, d, sn, hd, h1, h23, hf, ⟨pn, ln, tp, tl, Ln, P, L0, X, hL⟩, ⟨tn, T, hT⟩, ⟨f, hN⟩, ⟨z, b, hA⟩, ⟨v, sp, S, cnt0, r, gl, rt, dc, hR⟩, hlk, hh, hsk, ⟨wn, W, hW⟩, hco, ⟨jn, bl, C, hP⟩, ⟨A, hwi⟩, ⟨al, dr, O, hti⟩⟩ := h
  obtain ⟨q, q1, q2⟩ := ok_iff.mp (call_child (F := F) hf (xs (v3 + 1).toNatClampNeg) (xs (v3 + 2).toNatClampNeg) (xs (v3 + 3).toNatClampNeg) (xs (v3 + 4).toNatClampNeg))
  obtain ⟨w, w1, w2, cn', w3, w4⟩ := ok_iff.mp q2
  have w1 : f_X12_child F ((sgs σ [(6, q.2)]) 24) (xs (v3 + 1).toNatClampNeg) (xs (v3 + 2).toNatClampNeg) (xs (v3 + 3).toNatClampNeg) (xs (v3 + 4).toNatClampNeg) = some w := w1
  unfold f_law_2
  simp only [c1, c2, c3, c4]
  rw [q1, ob_s, bn_eq, w1, ob_s, bn_eq, if_p w2, bn_eq]
  exact hk _ _ ⟨vn, gn, cn', d, sn, hd, h1, h23, w4, ⟨pn, ln, tp, tl, Ln, P, L0, X, hL.gc (Nat.le_refl _) w3 w4.2.1 w4.2.2.1⟩, ⟨tn, T, hT.gc w3 w4.2.2.1 (Nat.le_refl _)⟩, ⟨f, hN⟩, ⟨z, b, hA⟩, ⟨v, sp, S, cnt0, r, gl, rt, dc, hR⟩, hlk, hh, hsk, ⟨wn, W, hW⟩, hco.gc (Nat.le_refl _) w3, ⟨jn, bl, C, hP⟩, ⟨A, hwi⟩, ⟨al, dr, O, trial_more hti w3 w4.2.2.1⟩⟩
theorem lw_3 (h : RS n σ) (hF : 200000 ≤ F) (c1 : ∀ x : Option Int32, ck (v3 + 1) L x = x) (c2 : ∀ x : Option Int32, ck (v3 + 2) L x = x) (c3 : ∀ x : Option Int32, ck (v3 + 3) L x = x) (c4 : ∀ x : Option Int32, ck (v3 + 4) L x = x) (c5 : ∀ x : Option Int32, ck (v3 + 5) L x = x) (c6 : ∀ x : Option Int32, ck (v3 + 6) L x = x) (c7 : ∀ x : Option Int32, ck (v3 + 7) L x = x) (hk : ∀ n σ, RS n σ → k18 n σ (v3 + 8) = some 1) : f_law_3 F xs L k18 n σ v3 = some 1 := by
  obtain ⟨vn, gn, cn, d, sn, hd, h1, h23, hf, ⟨pn, ln, tp, tl, Ln, P, L0, X, hL⟩, ⟨tn, T, hT⟩, ⟨f, hN⟩, ⟨z, b, hA⟩, ⟨v, sp, S, cnt0, r, gl, rt, dc, hR⟩, hlk, hh, hsk, ⟨wn, W, hW⟩, hco, ⟨jn, bl, C, hP⟩, ⟨A, hwi⟩, ⟨al, dr, O, hti⟩⟩ := h
  obtain ⟨q, q1, q2⟩ := ok_iff.mp (call_pair (F := F) hf hL.1 hT hd (show 200 ≤ F by omega) h1 h23 (xs (v3 + 1).toNatClampNeg) (xs (v3 + 2).toNatClampNeg))
  obtain ⟨w, w1, w2, w3, pn', tp', P', w4, w5⟩ := ok_iff.mp q2
  have w1 : f_X12_pair F ((sgs σ [(7, q.2.2.1), (9, q.2.2.2)]) 23) ((sgs σ [(7, q.2.2.1), (9, q.2.2.2)]) 24) ((sgs σ [(7, q.2.2.1), (9, q.2.2.2)]) 25) ((sgs σ [(7, q.2.2.1), (9, q.2.2.2)]) 41) (xs (v3 + 1).toNatClampNeg) (xs (v3 + 2).toNatClampNeg) = some w := w1
  unfold f_law_3
  simp only [c1, c2]
  rw [q1, ob_s, bn_eq, w1, ob_s, bn_eq, if_p w2, bn_eq]
  exact hk _ _ ⟨vn, gn, cn, d, sn, hd, h1, h23, hf, ⟨pn', ln, tp', tl, Ln, P', L0, X, hL.ext w4 w3 w5⟩, ⟨tn, T, hT⟩, ⟨f, hN⟩, ⟨z, b, hA⟩, ⟨v, sp, S, cnt0, r, gl, rt, dc, hR⟩, hlk, hh, hsk, ⟨wn, W, hW⟩, hco, ⟨jn, bl, C, hP⟩, ⟨A, hwi⟩, ⟨al, dr, O, hti⟩⟩
theorem lw_4 (h : RS n σ) (hF : 200000 ≤ F) (c1 : ∀ x : Option Int32, ck (v3 + 1) L x = x) (c2 : ∀ x : Option Int32, ck (v3 + 2) L x = x) (c3 : ∀ x : Option Int32, ck (v3 + 3) L x = x) (c4 : ∀ x : Option Int32, ck (v3 + 4) L x = x) (c5 : ∀ x : Option Int32, ck (v3 + 5) L x = x) (c6 : ∀ x : Option Int32, ck (v3 + 6) L x = x) (c7 : ∀ x : Option Int32, ck (v3 + 7) L x = x) (hk : ∀ n σ, RS n σ → k18 n σ (v3 + 8) = some 1) : f_law_4 F xs L k18 n σ v3 = some 1 := by
  obtain ⟨vn, gn, cn, d, sn, hd, h1, h23, hf, ⟨pn, ln, tp, tl, Ln, P, L0, X, hL⟩, ⟨tn, T, hT⟩, ⟨f, hN⟩, ⟨z, b, hA⟩, ⟨v, sp, S, cnt0, r, gl, rt, dc, hR⟩, hlk, hh, hsk, ⟨wn, W, hW⟩, hco, ⟨jn, bl, C, hP⟩, ⟨A, hwi⟩, ⟨al, dr, O, hti⟩⟩ := h
  obtain ⟨q, q1, q2⟩ := ok_iff.mp (call_end (F := F) hL.1 hd h1 h23 (xs (v3 + 1).toNatClampNeg))
  obtain ⟨w, w1, w2, P', w4, w5⟩ := ok_iff.mp q2
  have w1 : f_X12_end F ((sgs σ [(9, q.2)]) 23) ((sgs σ [(9, q.2)]) 25) (xs (v3 + 1).toNatClampNeg) = some w := w1
  unfold f_law_4
  simp only [c1]
  rw [q1, ob_s, bn_eq, w1, ob_s, bn_eq, if_p w2, bn_eq]
  exact hk _ _ ⟨vn, gn, cn, d, sn, hd, h1, h23, hf, ⟨pn, ln, tp, tl, Ln, P', L0, X, hL.ext w4 (Nat.le_refl _) w5⟩, ⟨tn, T, hT⟩, ⟨f, hN⟩, ⟨z, b, hA⟩, ⟨v, sp, S, cnt0, r, gl, rt, dc, hR⟩, hlk, hh, hsk, ⟨wn, W, hW⟩, hco, ⟨jn, bl, C, hP⟩, ⟨A, hwi⟩, ⟨al, dr, O, hti⟩⟩
theorem lw_5 (h : RS n σ) (hF : 200000 ≤ F) (c1 : ∀ x : Option Int32, ck (v3 + 1) L x = x) (c2 : ∀ x : Option Int32, ck (v3 + 2) L x = x) (c3 : ∀ x : Option Int32, ck (v3 + 3) L x = x) (c4 : ∀ x : Option Int32, ck (v3 + 4) L x = x) (c5 : ∀ x : Option Int32, ck (v3 + 5) L x = x) (c6 : ∀ x : Option Int32, ck (v3 + 6) L x = x) (c7 : ∀ x : Option Int32, ck (v3 + 7) L x = x) (hk : ∀ n σ, RS n σ → k18 n σ (v3 + 8) = some 1) : f_law_5 F xs L k18 n σ v3 = some 1 := by
  obtain ⟨vn, gn, cn, d, sn, hd, h1, h23, hf, ⟨pn, ln, tp, tl, Ln, P, L0, X, hL⟩, ⟨tn, T, hT⟩, ⟨f, hN⟩, ⟨z, b, hA⟩, ⟨v, sp, S, cnt0, r, gl, rt, dc, hR⟩, hlk, hh, hsk, ⟨wn, W, hW⟩, hco, ⟨jn, bl, C, hP⟩, ⟨A, hwi⟩, ⟨al, dr, O, hti⟩⟩ := h
  obtain ⟨q, q1, q2⟩ := ok_iff.mp (call_number (F := F) hN (xs (v3 + 1).toNatClampNeg) (xs (v3 + 2).toNatClampNeg))
  obtain ⟨w, w1, w2, f', w3⟩ := ok_iff.mp q2
  have w1 : f_X12_number F ((sgs σ [(2, q.2)]) 26) (xs (v3 + 1).toNatClampNeg) (xs (v3 + 2).toNatClampNeg) = some w := w1
  unfold f_law_5
  simp only [c1, c2]
  rw [q1, ob_s, bn_eq, w1, ob_s, bn_eq, if_p w2, bn_eq]
  exact hk _ _ ⟨vn, gn, cn, d, sn, hd, h1, h23, hf, ⟨pn, ln, tp, tl, Ln, P, L0, X, hL⟩, ⟨tn, T, hT⟩, ⟨f', w3⟩, ⟨z, b, hA⟩, ⟨v, sp, S, cnt0, r, gl, rt, dc, hR⟩, hlk, hh, hsk, ⟨wn, W, hW⟩, hco, ⟨jn, bl, C, hP⟩, ⟨A, hwi⟩, ⟨al, dr, O, hti⟩⟩
theorem lw_6 (h : RS n σ) (hF : 200000 ≤ F) (c1 : ∀ x : Option Int32, ck (v3 + 1) L x = x) (c2 : ∀ x : Option Int32, ck (v3 + 2) L x = x) (c3 : ∀ x : Option Int32, ck (v3 + 3) L x = x) (c4 : ∀ x : Option Int32, ck (v3 + 4) L x = x) (c5 : ∀ x : Option Int32, ck (v3 + 5) L x = x) (c6 : ∀ x : Option Int32, ck (v3 + 6) L x = x) (c7 : ∀ x : Option Int32, ck (v3 + 7) L x = x) (hk : ∀ n σ, RS n σ → k18 n σ (v3 + 8) = some 1) : f_law_6 F xs L k18 n σ v3 = some 1 := by
  obtain ⟨vn, gn, cn, d, sn, hd, h1, h23, hf, ⟨pn, ln, tp, tl, Ln, P, L0, X, hL⟩, ⟨tn, T, hT⟩, ⟨f, hN⟩, ⟨z, b, hA⟩, ⟨v, sp, S, cnt0, r, gl, rt, dc, hR⟩, hlk, hh, hsk, ⟨wn, W, hW⟩, hco, ⟨jn, bl, C, hP⟩, ⟨A, hwi⟩, ⟨al, dr, O, hti⟩⟩ := h
  obtain ⟨q, q1, q2⟩ := ok_iff.mp (call_feed (F := F) hA hF (xs (v3 + 1).toNatClampNeg) (xs (v3 + 2).toNatClampNeg) (xs (v3 + 3).toNatClampNeg) (xs (v3 + 4).toNatClampNeg) (xs (v3 + 5).toNatClampNeg))
  obtain ⟨w, w1, w2, ⟨z', b', w3⟩, w4, w5, w6, w7⟩ := ok_iff.mp q2
  have w1 : f_X12_feed F ((sgs σ [(1, q.2.1), (3, q.2.2)]) 27) (xs (v3 + 1).toNatClampNeg) (xs (v3 + 2).toNatClampNeg) (xs (v3 + 3).toNatClampNeg) (xs (v3 + 4).toNatClampNeg) (xs (v3 + 5).toNatClampNeg) = some w := w1
  unfold f_law_6
  simp only [c1, c2, c3, c4, c5]
  rw [q1, ob_s, bn_eq, w1, ob_s, bn_eq, if_p w2, bn_eq]
  exact hk _ _ ⟨vn, gn, cn, d, sn, hd, (w5 0 0 (by omega)).trans h1, h23, hf, ⟨pn, ln, tp, tl, Ln, P, L0, X, hL.g3 w6 w7⟩, ⟨tn, T, hT⟩, ⟨f, hN⟩, ⟨z', b', w3⟩, ⟨v, sp, S, cnt0, r, gl, rt, dc, hR.g1 w4⟩, hlk, hh, hsk, ⟨wn, W, hW⟩, hco, ⟨jn, bl, C, hP⟩, ⟨A, hwi⟩, ⟨al, dr, O, hti⟩⟩
theorem lw_7 (h : RS n σ) (hF : 200000 ≤ F) (c1 : ∀ x : Option Int32, ck (v3 + 1) L x = x) (c2 : ∀ x : Option Int32, ck (v3 + 2) L x = x) (c3 : ∀ x : Option Int32, ck (v3 + 3) L x = x) (c4 : ∀ x : Option Int32, ck (v3 + 4) L x = x) (c5 : ∀ x : Option Int32, ck (v3 + 5) L x = x) (c6 : ∀ x : Option Int32, ck (v3 + 6) L x = x) (c7 : ∀ x : Option Int32, ck (v3 + 7) L x = x) (hk : ∀ n σ, RS n σ → k18 n σ (v3 + 8) = some 1) : f_law_7 F xs L k18 n σ v3 = some 1 := by
  obtain ⟨vn, gn, cn, d, sn, hd, h1, h23, hf, ⟨pn, ln, tp, tl, Ln, P, L0, X, hL⟩, ⟨tn, T, hT⟩, ⟨f, hN⟩, ⟨z, b, hA⟩, ⟨v, sp, S, cnt0, r, gl, rt, dc, hR⟩, hlk, hh, hsk, ⟨wn, W, hW⟩, hco, ⟨jn, bl, C, hP⟩, ⟨A, hwi⟩, ⟨al, dr, O, hti⟩⟩ := h
  obtain ⟨q, q1, q2⟩ := ok_iff.mp (call_rules (F := F) (G28 := σ 28) hR hA hF (xs (v3 + 1).toNatClampNeg))
  obtain ⟨w, w1, w2, w3, ⟨z', b', w4⟩, w5⟩ := ok_iff.mp q2
  have w1 : f_X12_rules F ((sgs σ [(1, q.2.1), (4, q.2.2)]) 27) ((sgs σ [(1, q.2.1), (4, q.2.2)]) 28) ((sgs σ [(1, q.2.1), (4, q.2.2)]) 29) (xs (v3 + 1).toNatClampNeg) = some w := w1
  unfold f_law_7
  simp only [c1]
  rw [q1, ob_s, bn_eq, w1, ob_s, bn_eq, if_p w2, bn_eq]
  exact hk _ _ ⟨vn, gn, cn, d, sn, hd, (w5 0 0 (by omega)).trans h1, h23, hf, ⟨pn, ln, tp, tl, Ln, P, L0, X, hL⟩, ⟨tn, T, hT⟩, ⟨f, hN⟩, ⟨z', b', w4⟩, w3, hlk, hh, hsk, ⟨wn, W, hW⟩, hco, ⟨jn, bl, C, hP⟩, ⟨A, hwi⟩, ⟨al, dr, O, hti⟩⟩
theorem lw_8 (h : RS n σ) (hF : 200000 ≤ F) (c1 : ∀ x : Option Int32, ck (v3 + 1) L x = x) (c2 : ∀ x : Option Int32, ck (v3 + 2) L x = x) (c3 : ∀ x : Option Int32, ck (v3 + 3) L x = x) (c4 : ∀ x : Option Int32, ck (v3 + 4) L x = x) (c5 : ∀ x : Option Int32, ck (v3 + 5) L x = x) (c6 : ∀ x : Option Int32, ck (v3 + 6) L x = x) (c7 : ∀ x : Option Int32, ck (v3 + 7) L x = x) (hk : ∀ n σ, RS n σ → k18 n σ (v3 + 8) = some 1) : f_law_8 F xs L k18 n σ v3 = some 1 := by
  obtain ⟨vn, gn, cn, d, sn, hd, h1, h23, hf, ⟨pn, ln, tp, tl, Ln, P, L0, X, hL⟩, ⟨tn, T, hT⟩, ⟨f, hN⟩, ⟨z, b, hA⟩, ⟨v, sp, S, cnt0, r, gl, rt, dc, hR⟩, hlk, hh, hsk, ⟨wn, W, hW⟩, hco, ⟨jn, bl, C, hP⟩, ⟨A, hwi⟩, ⟨al, dr, O, hti⟩⟩ := h
  obtain ⟨q, q1, q2⟩ := ok_iff.mp (call_look (F := F) (G30 := σ 30) hR hA hlk hF (xs (v3 + 1).toNatClampNeg))
  obtain ⟨w, w1, w2, w3⟩ := ok_iff.mp q2
  have w1 : f_X12_look F ((sgs σ [(5, q.2)]) 27) ((sgs σ [(5, q.2)]) 29) ((sgs σ [(5, q.2)]) 30) ((sgs σ [(5, q.2)]) 31) (xs (v3 + 1).toNatClampNeg) = some w := w1
  unfold f_law_8
  simp only [c1]
  rw [q1, ob_s, bn_eq, w1, ob_s, bn_eq, if_p w2, bn_eq]
  exact hk _ _ ⟨vn, gn, cn, d, sn, hd, h1, h23, hf, ⟨pn, ln, tp, tl, Ln, P, L0, X, hL⟩, ⟨tn, T, hT⟩, ⟨f, hN⟩, ⟨z, b, hA⟩, ⟨v, sp, S, cnt0, r, gl, rt, dc, hR⟩, w3, hh, hsk, ⟨wn, W, hW⟩, hco, ⟨jn, bl, C, hP⟩, ⟨A, hwi⟩, ⟨al, dr, O, hti⟩⟩
theorem lw_9 (h : RS n σ) (hF : 200000 ≤ F) (c1 : ∀ x : Option Int32, ck (v3 + 1) L x = x) (c2 : ∀ x : Option Int32, ck (v3 + 2) L x = x) (c3 : ∀ x : Option Int32, ck (v3 + 3) L x = x) (c4 : ∀ x : Option Int32, ck (v3 + 4) L x = x) (c5 : ∀ x : Option Int32, ck (v3 + 5) L x = x) (c6 : ∀ x : Option Int32, ck (v3 + 6) L x = x) (c7 : ∀ x : Option Int32, ck (v3 + 7) L x = x) (hk : ∀ n σ, RS n σ → k18 n σ (v3 + 8) = some 1) : f_law_9 F xs L k18 n σ v3 = some 1 := by
  have h0 := h
  obtain ⟨vn, gn, cn, d, sn, hd, h1, h23, hf, ⟨pn, ln, tp, tl, Ln, P, L0, X, hL⟩, ⟨tn, T, hT⟩, ⟨f, hN⟩, ⟨z, b, hA⟩, ⟨v, sp, S, cnt0, r, gl, rt, dc, hR⟩, hlk, hh, hsk, ⟨wn, W, hW⟩, hco, ⟨jn, bl, C, hP⟩, ⟨A, hwi⟩, ⟨al, dr, O, hti⟩⟩ := h
  obtain ⟨q, q1, q2⟩ := ok_iff.mp (call_found (F := F) hlk (xs (v3 + 1).toNatClampNeg) (xs (v3 + 2).toNatClampNeg))
  obtain ⟨w, w1, w2⟩ := ok_iff.mp q2
  have w1 : f_X12_found F (σ 31) (xs (v3 + 1).toNatClampNeg) (xs (v3 + 2).toNatClampNeg) = some w := w1
  unfold f_law_9
  simp only [c1, c2]
  rw [q1, ob_s, w1, ob_s, if_p w2, bn_eq]
  exact hk _ _ h0
theorem lw_10 (h : RS n σ) (hF : 200000 ≤ F) (c1 : ∀ x : Option Int32, ck (v3 + 1) L x = x) (c2 : ∀ x : Option Int32, ck (v3 + 2) L x = x) (c3 : ∀ x : Option Int32, ck (v3 + 3) L x = x) (c4 : ∀ x : Option Int32, ck (v3 + 4) L x = x) (c5 : ∀ x : Option Int32, ck (v3 + 5) L x = x) (c6 : ∀ x : Option Int32, ck (v3 + 6) L x = x) (c7 : ∀ x : Option Int32, ck (v3 + 7) L x = x) (hk : ∀ n σ, RS n σ → k18 n σ (v3 + 8) = some 1) : f_law_10 F xs L k18 n σ v3 = some 1 := by
  obtain ⟨vn, gn, cn, d, sn, hd, h1, h23, hf, ⟨pn, ln, tp, tl, Ln, P, L0, X, hL⟩, ⟨tn, T, hT⟩, ⟨f, hN⟩, ⟨z, b, hA⟩, ⟨v, sp, S, cnt0, r, gl, rt, dc, hR⟩, hlk, hh, hsk, ⟨wn, W, hW⟩, hco, ⟨jn, bl, C, hP⟩, ⟨A, hwi⟩, ⟨al, dr, O, hti⟩⟩ := h
  obtain ⟨q, q1, q2⟩ := ok_iff.mp (call_letter (F := F) (G0 := σ 0) hL hA hd h1 h23 hF (xs (v3 + 1).toNatClampNeg) (xs (v3 + 2).toNatClampNeg) (xs (v3 + 3).toNatClampNeg) (xs (v3 + 4).toNatClampNeg) (xs (v3 + 5).toNatClampNeg) (xs (v3 + 6).toNatClampNeg) (xs (v3 + 7).toNatClampNeg))
  obtain ⟨w, w1, w2, w3, ⟨ln', tl', Ln', P', L', X', w4⟩, ⟨z', b', w5⟩, w6, w7⟩ := ok_iff.mp q2
  have w1 : f_X12_letter F ((sgs σ [(0, q.2.2.1), (1, q.2.2.2.1), (3, q.2.2.2.2.1), (9, q.2.2.2.2.2.1), (10, q.2.2.2.2.2.2.1), (13, q.2.2.2.2.2.2.2.1), (14, q.2.2.2.2.2.2.2.2)]) 23) ((sgs σ [(0, q.2.2.1), (1, q.2.2.2.1), (3, q.2.2.2.2.1), (9, q.2.2.2.2.2.1), (10, q.2.2.2.2.2.2.1), (13, q.2.2.2.2.2.2.2.1), (14, q.2.2.2.2.2.2.2.2)]) 25) ((sgs σ [(0, q.2.2.1), (1, q.2.2.2.1), (3, q.2.2.2.2.1), (9, q.2.2.2.2.2.1), (10, q.2.2.2.2.2.2.1), (13, q.2.2.2.2.2.2.2.1), (14, q.2.2.2.2.2.2.2.2)]) 27) ((sgs σ [(0, q.2.2.1), (1, q.2.2.2.1), (3, q.2.2.2.2.1), (9, q.2.2.2.2.2.1), (10, q.2.2.2.2.2.2.1), (13, q.2.2.2.2.2.2.2.1), (14, q.2.2.2.2.2.2.2.2)]) 32) ((sgs σ [(0, q.2.2.1), (1, q.2.2.2.1), (3, q.2.2.2.2.1), (9, q.2.2.2.2.2.1), (10, q.2.2.2.2.2.2.1), (13, q.2.2.2.2.2.2.2.1), (14, q.2.2.2.2.2.2.2.2)]) 33) (xs (v3 + 1).toNatClampNeg) (xs (v3 + 2).toNatClampNeg) (xs (v3 + 3).toNatClampNeg) (xs (v3 + 4).toNatClampNeg) (xs (v3 + 5).toNatClampNeg) (xs (v3 + 6).toNatClampNeg) (xs (v3 + 7).toNatClampNeg) = some w := w1
  unfold f_law_10
  simp only [c1, c2, c3, c4, c5, c6, c7]
  rw [q1, ob_s, bn_eq, w1, ob_s, bn_eq, if_p w2, bn_eq]
  exact hk _ _ ⟨vn, gn, cn, d, sn, hd, (w7 0 0 (by omega)).trans h1, h23, hf, ⟨pn, ln', tp, tl', Ln', P', L', X', w4⟩, ⟨tn, T, hT⟩, ⟨f, hN⟩, ⟨z', b', w5⟩, ⟨v, sp, S, cnt0, r, gl, rt, dc, hR.g1 w6⟩, hlk, hh, hsk, ⟨wn, W, hW⟩, hco, ⟨jn, bl, C, hP⟩, ⟨A, hwi⟩, ⟨al, dr, O, hti⟩⟩
theorem lw_11 (h : RS n σ) (hF : 200000 ≤ F) (c1 : ∀ x : Option Int32, ck (v3 + 1) L x = x) (c2 : ∀ x : Option Int32, ck (v3 + 2) L x = x) (c3 : ∀ x : Option Int32, ck (v3 + 3) L x = x) (c4 : ∀ x : Option Int32, ck (v3 + 4) L x = x) (c5 : ∀ x : Option Int32, ck (v3 + 5) L x = x) (c6 : ∀ x : Option Int32, ck (v3 + 6) L x = x) (c7 : ∀ x : Option Int32, ck (v3 + 7) L x = x) (hk : ∀ n σ, RS n σ → k18 n σ (v3 + 8) = some 1) : f_law_11 F xs L k18 n σ v3 = some 1 := by
  obtain ⟨vn, gn, cn, d, sn, hd, h1, h23, hf, ⟨pn, ln, tp, tl, Ln, P, L0, X, hL⟩, ⟨tn, T, hT⟩, ⟨f, hN⟩, ⟨z, b, hA⟩, ⟨v, sp, S, cnt0, r, gl, rt, dc, hR⟩, hlk, hh, hsk, ⟨wn, W, hW⟩, hco, ⟨jn, bl, C, hP⟩, ⟨A, hwi⟩, ⟨al, dr, O, hti⟩⟩ := h
  obtain ⟨q, q1, q2⟩ := ok_iff.mp (call_translator (F := F) hW (xs (v3 + 1).toNatClampNeg) (xs (v3 + 2).toNatClampNeg) (xs (v3 + 3).toNatClampNeg) (xs (v3 + 4).toNatClampNeg))
  obtain ⟨w, w1, w2, wn', W', w3⟩ := ok_iff.mp q2
  have w1 : f_X12_translator F ((sgs σ [(16, q.2)]) 37) (xs (v3 + 1).toNatClampNeg) (xs (v3 + 2).toNatClampNeg) (xs (v3 + 3).toNatClampNeg) (xs (v3 + 4).toNatClampNeg) = some w := w1
  unfold f_law_11
  simp only [c1, c2, c3, c4]
  rw [q1, ob_s, bn_eq, w1, ob_s, bn_eq, if_p w2, bn_eq]
  exact hk _ _ ⟨vn, gn, cn, d, sn, hd, h1, h23, hf, ⟨pn, ln, tp, tl, Ln, P, L0, X, hL⟩, ⟨tn, T, hT⟩, ⟨f, hN⟩, ⟨z, b, hA⟩, ⟨v, sp, S, cnt0, r, gl, rt, dc, hR⟩, hlk, hh, hsk, ⟨wn', W', w3⟩, hco, ⟨jn, bl, C, hP⟩, ⟨A, hwi⟩, ⟨al, dr, O, hti⟩⟩
theorem lw_12 (h : RS n σ) (hF : 200000 ≤ F) (c1 : ∀ x : Option Int32, ck (v3 + 1) L x = x) (c2 : ∀ x : Option Int32, ck (v3 + 2) L x = x) (c3 : ∀ x : Option Int32, ck (v3 + 3) L x = x) (c4 : ∀ x : Option Int32, ck (v3 + 4) L x = x) (c5 : ∀ x : Option Int32, ck (v3 + 5) L x = x) (c6 : ∀ x : Option Int32, ck (v3 + 6) L x = x) (c7 : ∀ x : Option Int32, ck (v3 + 7) L x = x) (hk : ∀ n σ, RS n σ → k18 n σ (v3 + 8) = some 1) : f_law_12 F xs L k18 n σ v3 = some 1 := by
  obtain ⟨vn, gn, cn, d, sn, hd, h1, h23, hf, ⟨pn, ln, tp, tl, Ln, P, L0, X, hL⟩, ⟨tn, T, hT⟩, ⟨f, hN⟩, ⟨z, b, hA⟩, ⟨v, sp, S, cnt0, r, gl, rt, dc, hR⟩, hlk, hh, hsk, ⟨wn, W, hW⟩, hco, ⟨jn, bl, C, hP⟩, ⟨A, hwi⟩, ⟨al, dr, O, hti⟩⟩ := h
  obtain ⟨q, q1, q2⟩ := ok_iff.mp (call_day (F := F) (G17 := σ 17) (G30 := σ 30) (G38 := σ 38) hL hf hR hh hN hlk hW hsk hA hd h1 h23 hF)
  obtain ⟨w, w1, w2, d', sn', P', L', X', w3, w4, w5, w6, w7, w8, w9, wa, wb, wc, wd⟩ := ok_iff.mp q2
  have w1 : f_X12_day F ((sgs σ [(1, q.2.1), (3, q.2.2.1), (5, q.2.2.2.1), (9, q.2.2.2.2.1), (11, q.2.2.2.2.2.1), (12, q.2.2.2.2.2.2.1), (13, q.2.2.2.2.2.2.2.1), (15, q.2.2.2.2.2.2.2.2.1), (16, q.2.2.2.2.2.2.2.2.2.1), (17, q.2.2.2.2.2.2.2.2.2.2)]) 23) ((sgs σ [(1, q.2.1), (3, q.2.2.1), (5, q.2.2.2.1), (9, q.2.2.2.2.1), (11, q.2.2.2.2.2.1), (12, q.2.2.2.2.2.2.1), (13, q.2.2.2.2.2.2.2.1), (15, q.2.2.2.2.2.2.2.2.1), (16, q.2.2.2.2.2.2.2.2.2.1), (17, q.2.2.2.2.2.2.2.2.2.2)]) 24) ((sgs σ [(1, q.2.1), (3, q.2.2.1), (5, q.2.2.2.1), (9, q.2.2.2.2.1), (11, q.2.2.2.2.2.1), (12, q.2.2.2.2.2.2.1), (13, q.2.2.2.2.2.2.2.1), (15, q.2.2.2.2.2.2.2.2.1), (16, q.2.2.2.2.2.2.2.2.2.1), (17, q.2.2.2.2.2.2.2.2.2.2)]) 25) ((sgs σ [(1, q.2.1), (3, q.2.2.1), (5, q.2.2.2.1), (9, q.2.2.2.2.1), (11, q.2.2.2.2.2.1), (12, q.2.2.2.2.2.2.1), (13, q.2.2.2.2.2.2.2.1), (15, q.2.2.2.2.2.2.2.2.1), (16, q.2.2.2.2.2.2.2.2.2.1), (17, q.2.2.2.2.2.2.2.2.2.2)]) 26) ((sgs σ [(1, q.2.1), (3, q.2.2.1), (5, q.2.2.2.1), (9, q.2.2.2.2.1), (11, q.2.2.2.2.2.1), (12, q.2.2.2.2.2.2.1), (13, q.2.2.2.2.2.2.2.1), (15, q.2.2.2.2.2.2.2.2.1), (16, q.2.2.2.2.2.2.2.2.2.1), (17, q.2.2.2.2.2.2.2.2.2.2)]) 29) ((sgs σ [(1, q.2.1), (3, q.2.2.1), (5, q.2.2.2.1), (9, q.2.2.2.2.1), (11, q.2.2.2.2.2.1), (12, q.2.2.2.2.2.2.1), (13, q.2.2.2.2.2.2.2.1), (15, q.2.2.2.2.2.2.2.2.1), (16, q.2.2.2.2.2.2.2.2.2.1), (17, q.2.2.2.2.2.2.2.2.2.2)]) 30) ((sgs σ [(1, q.2.1), (3, q.2.2.1), (5, q.2.2.2.1), (9, q.2.2.2.2.1), (11, q.2.2.2.2.2.1), (12, q.2.2.2.2.2.2.1), (13, q.2.2.2.2.2.2.2.1), (15, q.2.2.2.2.2.2.2.2.1), (16, q.2.2.2.2.2.2.2.2.2.1), (17, q.2.2.2.2.2.2.2.2.2.2)]) 32) ((sgs σ [(1, q.2.1), (3, q.2.2.1), (5, q.2.2.2.1), (9, q.2.2.2.2.1), (11, q.2.2.2.2.2.1), (12, q.2.2.2.2.2.2.1), (13, q.2.2.2.2.2.2.2.1), (15, q.2.2.2.2.2.2.2.2.1), (16, q.2.2.2.2.2.2.2.2.2.1), (17, q.2.2.2.2.2.2.2.2.2.2)]) 33) ((sgs σ [(1, q.2.1), (3, q.2.2.1), (5, q.2.2.2.1), (9, q.2.2.2.2.1), (11, q.2.2.2.2.2.1), (12, q.2.2.2.2.2.2.1), (13, q.2.2.2.2.2.2.2.1), (15, q.2.2.2.2.2.2.2.2.1), (16, q.2.2.2.2.2.2.2.2.2.1), (17, q.2.2.2.2.2.2.2.2.2.2)]) 34) ((sgs σ [(1, q.2.1), (3, q.2.2.1), (5, q.2.2.2.1), (9, q.2.2.2.2.1), (11, q.2.2.2.2.2.1), (12, q.2.2.2.2.2.2.1), (13, q.2.2.2.2.2.2.2.1), (15, q.2.2.2.2.2.2.2.2.1), (16, q.2.2.2.2.2.2.2.2.2.1), (17, q.2.2.2.2.2.2.2.2.2.2)]) 35) ((sgs σ [(1, q.2.1), (3, q.2.2.1), (5, q.2.2.2.1), (9, q.2.2.2.2.1), (11, q.2.2.2.2.2.1), (12, q.2.2.2.2.2.2.1), (13, q.2.2.2.2.2.2.2.1), (15, q.2.2.2.2.2.2.2.2.1), (16, q.2.2.2.2.2.2.2.2.2.1), (17, q.2.2.2.2.2.2.2.2.2.2)]) 36) ((sgs σ [(1, q.2.1), (3, q.2.2.1), (5, q.2.2.2.1), (9, q.2.2.2.2.1), (11, q.2.2.2.2.2.1), (12, q.2.2.2.2.2.2.1), (13, q.2.2.2.2.2.2.2.1), (15, q.2.2.2.2.2.2.2.2.1), (16, q.2.2.2.2.2.2.2.2.2.1), (17, q.2.2.2.2.2.2.2.2.2.2)]) 37) ((sgs σ [(1, q.2.1), (3, q.2.2.1), (5, q.2.2.2.1), (9, q.2.2.2.2.1), (11, q.2.2.2.2.2.1), (12, q.2.2.2.2.2.2.1), (13, q.2.2.2.2.2.2.2.1), (15, q.2.2.2.2.2.2.2.2.1), (16, q.2.2.2.2.2.2.2.2.2.1), (17, q.2.2.2.2.2.2.2.2.2.2)]) 38) = some w := w1
  unfold f_law_12
  rw [q1, ob_s, bn_eq, w1, ob_s, bn_eq, if_p w2, bn_eq]
  exact hk _ _ ⟨vn, gn, cn, d', sn', w4, w5, w6, hf, ⟨pn, ln, tp, tl, Ln, P', L', X', w7⟩, ⟨tn, T, hT.gc (Nat.le_refl _) hf.2.2.1 w3⟩, ⟨f, hN⟩, ⟨z, b, wd⟩, ⟨v, sp, S, cnt0, r, gl, rt, dc, wc⟩, w9, w8, wa, ⟨wn, W, wb⟩, hco, ⟨jn, bl, C, hP⟩, ⟨A, hwi⟩, ⟨al, dr, O, hti⟩⟩
theorem lw_14 (h : RS n σ) (hF : 200000 ≤ F) (c1 : ∀ x : Option Int32, ck (v3 + 1) L x = x) (c2 : ∀ x : Option Int32, ck (v3 + 2) L x = x) (c3 : ∀ x : Option Int32, ck (v3 + 3) L x = x) (c4 : ∀ x : Option Int32, ck (v3 + 4) L x = x) (c5 : ∀ x : Option Int32, ck (v3 + 5) L x = x) (c6 : ∀ x : Option Int32, ck (v3 + 6) L x = x) (c7 : ∀ x : Option Int32, ck (v3 + 7) L x = x) (hk : ∀ n σ, RS n σ → k18 n σ (v3 + 8) = some 1) : f_law_14 F xs L k18 n σ v3 = some 1 := by
  obtain ⟨vn, gn, cn, d, sn, hd, h1, h23, hf, ⟨pn, ln, tp, tl, Ln, P, L0, X, hL⟩, ⟨tn, T, hT⟩, ⟨f, hN⟩, ⟨z, b, hA⟩, ⟨v, sp, S, cnt0, r, gl, rt, dc, hR⟩, hlk, hh, hsk, ⟨wn, W, hW⟩, hco, ⟨jn, bl, C, hP⟩, ⟨A, hwi⟩, ⟨al, dr, O, hti⟩⟩ := h
  obtain ⟨q, q1, q2⟩ := ok_iff.mp (call_lose (F := F) hL.2.1 hL.2.2.1 hL.2.2.2.1 hL.2.2.2.2.2.2.1 hsk hd h1 h23 hF (xs (v3 + 1).toNatClampNeg))
  obtain ⟨w, w1, w2, w3, L', w4, w5, w6, w7, w8⟩ := ok_iff.mp q2
  have w1 : f_X12_lose F ((sgs σ [(11, q.2.1), (13, q.2.2)]) 23) ((sgs σ [(11, q.2.1), (13, q.2.2)]) 32) ((sgs σ [(11, q.2.1), (13, q.2.2)]) 35) (xs (v3 + 1).toNatClampNeg) = some w := w1
  unfold f_law_14
  simp only [c1]
  rw [q1, ob_s, bn_eq, w1, ob_s, bn_eq, if_p w2, bn_eq]
  exact hk _ _ ⟨vn, gn, cn, d, sn, hd, h1, h23, hf, ⟨pn, ln, tp, tl, Ln, P, L', X, ⟨hL.1, w5, w6, w7, hL.2.2.2.2.1, hL.2.2.2.2.2.1, w8, hL.2.2.2.2.2.2.2.1.kp w4, hL.2.2.2.2.2.2.2.2.1.kp w4, hL.2.2.2.2.2.2.2.2.2⟩⟩, ⟨tn, T, hT⟩, ⟨f, hN⟩, ⟨z, b, hA⟩, ⟨v, sp, S, cnt0, r, gl, rt, dc, hR⟩, hlk, hh, w3, ⟨wn, W, hW⟩, hco, ⟨jn, bl, C, hP⟩, ⟨A, hwi⟩, ⟨al, dr, O, hti⟩⟩
theorem lw_15 (h : RS n σ) (hF : 200000 ≤ F) (c1 : ∀ x : Option Int32, ck (v3 + 1) L x = x) (c2 : ∀ x : Option Int32, ck (v3 + 2) L x = x) (c3 : ∀ x : Option Int32, ck (v3 + 3) L x = x) (c4 : ∀ x : Option Int32, ck (v3 + 4) L x = x) (c5 : ∀ x : Option Int32, ck (v3 + 5) L x = x) (c6 : ∀ x : Option Int32, ck (v3 + 6) L x = x) (c7 : ∀ x : Option Int32, ck (v3 + 7) L x = x) (hk : ∀ n σ, RS n σ → k18 n σ (v3 + 8) = some 1) : f_law_15 F xs L k18 n σ v3 = some 1 := by
  have h0 := h
  obtain ⟨vn, gn, cn, d, sn, hd, h1, h23, hf, ⟨pn, ln, tp, tl, Ln, P, L0, X, hL⟩, ⟨tn, T, hT⟩, ⟨f, hN⟩, ⟨z, b, hA⟩, ⟨v, sp, S, cnt0, r, gl, rt, dc, hR⟩, hlk, hh, hsk, ⟨wn, W, hW⟩, hco, ⟨jn, bl, C, hP⟩, ⟨A, hwi⟩, ⟨al, dr, O, hti⟩⟩ := h
  obtain ⟨q, q1, q2⟩ := ok_iff.mp (call_about (F := F) hL.2.1 hL.2.2.1 hL.2.2.2.1 hL.1 hL.2.2.2.2.2.1 hL.2.2.2.2.2.2.1 (xs (v3 + 1).toNatClampNeg) (xs (v3 + 2).toNatClampNeg))
  obtain ⟨w, w1, w2⟩ := ok_iff.mp q2
  have w1 : f_X12_about F (σ 32) (σ 34) (xs (v3 + 1).toNatClampNeg) (xs (v3 + 2).toNatClampNeg) = some w := w1
  unfold f_law_15
  simp only [c1, c2]
  rw [q1, ob_s, w1, ob_s, if_p w2, bn_eq]
  exact hk _ _ h0
theorem lw_16 (h : RS n σ) (hF : 200000 ≤ F) (c1 : ∀ x : Option Int32, ck (v3 + 1) L x = x) (c2 : ∀ x : Option Int32, ck (v3 + 2) L x = x) (c3 : ∀ x : Option Int32, ck (v3 + 3) L x = x) (c4 : ∀ x : Option Int32, ck (v3 + 4) L x = x) (c5 : ∀ x : Option Int32, ck (v3 + 5) L x = x) (c6 : ∀ x : Option Int32, ck (v3 + 6) L x = x) (c7 : ∀ x : Option Int32, ck (v3 + 7) L x = x) (hk : ∀ n σ, RS n σ → k18 n σ (v3 + 8) = some 1) : f_law_16 F xs L k18 n σ v3 = some 1 := by
  have h0 := h
  obtain ⟨vn, gn, cn, d, sn, hd, h1, h23, hf, ⟨pn, ln, tp, tl, Ln, P, L0, X, hL⟩, ⟨tn, T, hT⟩, ⟨f, hN⟩, ⟨z, b, hA⟩, ⟨v, sp, S, cnt0, r, gl, rt, dc, hR⟩, hlk, hh, hsk, ⟨wn, W, hW⟩, hco, ⟨jn, bl, C, hP⟩, ⟨A, hwi⟩, ⟨al, dr, O, hti⟩⟩ := h
  obtain ⟨q, q1, q2⟩ := ok_iff.mp (call_hints (F := F) hL.1 (xs (v3 + 1).toNatClampNeg))
  obtain ⟨w, w1, w2⟩ := ok_iff.mp q2
  have w1 : f_X12_hints F (σ 25) (xs (v3 + 1).toNatClampNeg) = some w := w1
  unfold f_law_16
  simp only [c1]
  rw [q1, ob_s, w1, ob_s, if_p w2, bn_eq]
  exact hk _ _ h0
theorem lw_17 (h : RS n σ) (hF : 200000 ≤ F) (c1 : ∀ x : Option Int32, ck (v3 + 1) L x = x) (c2 : ∀ x : Option Int32, ck (v3 + 2) L x = x) (c3 : ∀ x : Option Int32, ck (v3 + 3) L x = x) (c4 : ∀ x : Option Int32, ck (v3 + 4) L x = x) (c5 : ∀ x : Option Int32, ck (v3 + 5) L x = x) (c6 : ∀ x : Option Int32, ck (v3 + 6) L x = x) (c7 : ∀ x : Option Int32, ck (v3 + 7) L x = x) (hk : ∀ n σ, RS n σ → k18 n σ (v3 + 8) = some 1) : f_law_17 F xs L k18 n σ v3 = some 1 := by
  have h0 := h
  obtain ⟨vn, gn, cn, d, sn, hd, h1, h23, hf, ⟨pn, ln, tp, tl, Ln, P, L0, X, hL⟩, ⟨tn, T, hT⟩, ⟨f, hN⟩, ⟨z, b, hA⟩, ⟨v, sp, S, cnt0, r, gl, rt, dc, hR⟩, hlk, hh, hsk, ⟨wn, W, hW⟩, hco, ⟨jn, bl, C, hP⟩, ⟨A, hwi⟩, ⟨al, dr, O, hti⟩⟩ := h
  obtain ⟨q, q1, q2⟩ := ok_iff.mp (call_unlike (F := F) hL.2.1 hL.2.2.1 hL.2.2.2.1 hL.1 hL.2.2.2.2.1 hh hN hF (xs (v3 + 1).toNatClampNeg))
  obtain ⟨w, w1, w2⟩ := ok_iff.mp q2
  have w1 : f_X12_unlike F (σ 25) (σ 26) (σ 32) (σ 33) (σ 36) (xs (v3 + 1).toNatClampNeg) = some w := w1
  unfold f_law_17
  simp only [c1]
  rw [q1, ob_s, w1, ob_s, if_p w2, bn_eq]
  exact hk _ _ h0
theorem lw_18 (h : RS n σ) (hF : 200000 ≤ F) (c1 : ∀ x : Option Int32, ck (v3 + 1) L x = x) (c2 : ∀ x : Option Int32, ck (v3 + 2) L x = x) (c3 : ∀ x : Option Int32, ck (v3 + 3) L x = x) (c4 : ∀ x : Option Int32, ck (v3 + 4) L x = x) (c5 : ∀ x : Option Int32, ck (v3 + 5) L x = x) (c6 : ∀ x : Option Int32, ck (v3 + 6) L x = x) (c7 : ∀ x : Option Int32, ck (v3 + 7) L x = x) (hk : ∀ n σ, RS n σ → k18 n σ (v3 + 8) = some 1) : f_law_18 F xs L k18 n σ v3 = some 1 := by
  have h0 := h
  obtain ⟨vn, gn, cn, d, sn, hd, h1, h23, hf, ⟨pn, ln, tp, tl, Ln, P, L0, X, hL⟩, ⟨tn, T, hT⟩, ⟨f, hN⟩, ⟨z, b, hA⟩, ⟨v, sp, S, cnt0, r, gl, rt, dc, hR⟩, hlk, hh, hsk, ⟨wn, W, hW⟩, hco, ⟨jn, bl, C, hP⟩, ⟨A, hwi⟩, ⟨al, dr, O, hti⟩⟩ := h
  obtain ⟨q, q1, q2⟩ := ok_iff.mp (call_lag (F := F) hL.2.1 hL.2.2.1 hL.2.2.2.1 hL.2.2.2.2.2.1 hF (xs (v3 + 1).toNatClampNeg))
  obtain ⟨w, w1, w2⟩ := ok_iff.mp q2
  have w1 : f_X12_lag F (σ 32) (σ 34) (xs (v3 + 1).toNatClampNeg) = some w := w1
  unfold f_law_18
  simp only [c1]
  rw [q1, ob_s, w1, ob_s, if_p w2, bn_eq]
  exact hk _ _ h0
theorem lw_19 (h : RS n σ) (hF : 200000 ≤ F) (c1 : ∀ x : Option Int32, ck (v3 + 1) L x = x) (c2 : ∀ x : Option Int32, ck (v3 + 2) L x = x) (c3 : ∀ x : Option Int32, ck (v3 + 3) L x = x) (c4 : ∀ x : Option Int32, ck (v3 + 4) L x = x) (c5 : ∀ x : Option Int32, ck (v3 + 5) L x = x) (c6 : ∀ x : Option Int32, ck (v3 + 6) L x = x) (c7 : ∀ x : Option Int32, ck (v3 + 7) L x = x) (hk : ∀ n σ, RS n σ → k18 n σ (v3 + 8) = some 1) : f_law_19 F xs L k18 n σ v3 = some 1 := by
  obtain ⟨vn, gn, cn, d, sn, hd, h1, h23, hf, ⟨pn, ln, tp, tl, Ln, P, L0, X, hL⟩, ⟨tn, T, hT⟩, ⟨f, hN⟩, ⟨z, b, hA⟩, ⟨v, sp, S, cnt0, r, gl, rt, dc, hR⟩, hlk, hh, hsk, ⟨wn, W, hW⟩, hco, ⟨jn, bl, C, hP⟩, ⟨A, hwi⟩, ⟨al, dr, O, hti⟩⟩ := h
  obtain ⟨q, q1, q2⟩ := ok_iff.mp (call_gift (F := F) hf hL.1 hN hco hd h1 h23 (xs (v3 + 1).toNatClampNeg) (xs (v3 + 2).toNatClampNeg))
  obtain ⟨w, w1, w2, w3⟩ := ok_iff.mp q2
  have w1 : f_X12_gift F ((sgs σ [(18, q.2)]) 23) ((sgs σ [(18, q.2)]) 24) ((sgs σ [(18, q.2)]) 25) ((sgs σ [(18, q.2)]) 26) ((sgs σ [(18, q.2)]) 39) (xs (v3 + 1).toNatClampNeg) (xs (v3 + 2).toNatClampNeg) = some w := w1
  unfold f_law_19
  simp only [c1, c2]
  rw [q1, ob_s, bn_eq, w1, ob_s, bn_eq, if_p w2, bn_eq]
  exact hk _ _ ⟨vn, gn, cn, d, sn, hd, h1, h23, hf, ⟨pn, ln, tp, tl, Ln, P, L0, X, hL⟩, ⟨tn, T, hT⟩, ⟨f, hN⟩, ⟨z, b, hA⟩, ⟨v, sp, S, cnt0, r, gl, rt, dc, hR⟩, hlk, hh, hsk, ⟨wn, W, hW⟩, w3, ⟨jn, bl, C, hP⟩, ⟨A, hwi⟩, ⟨al, dr, O, hti⟩⟩
theorem lw_20 (h : RS n σ) (hF : 200000 ≤ F) (c1 : ∀ x : Option Int32, ck (v3 + 1) L x = x) (c2 : ∀ x : Option Int32, ck (v3 + 2) L x = x) (c3 : ∀ x : Option Int32, ck (v3 + 3) L x = x) (c4 : ∀ x : Option Int32, ck (v3 + 4) L x = x) (c5 : ∀ x : Option Int32, ck (v3 + 5) L x = x) (c6 : ∀ x : Option Int32, ck (v3 + 6) L x = x) (c7 : ∀ x : Option Int32, ck (v3 + 7) L x = x) (hk : ∀ n σ, RS n σ → k18 n σ (v3 + 8) = some 1) : f_law_20 F xs L k18 n σ v3 = some 1 := by
  have h0 := h
  obtain ⟨vn, gn, cn, d, sn, hd, h1, h23, hf, ⟨pn, ln, tp, tl, Ln, P, L0, X, hL⟩, ⟨tn, T, hT⟩, ⟨f, hN⟩, ⟨z, b, hA⟩, ⟨v, sp, S, cnt0, r, gl, rt, dc, hR⟩, hlk, hh, hsk, ⟨wn, W, hW⟩, hco, ⟨jn, bl, C, hP⟩, ⟨A, hwi⟩, ⟨al, dr, O, hti⟩⟩ := h
  obtain ⟨q, q1, q2⟩ := ok_iff.mp (call_coin (F := F) hf hco h1 h23 (xs (v3 + 1).toNatClampNeg))
  obtain ⟨w, w1, w2⟩ := ok_iff.mp q2
  have w1 : f_X12_coin F (σ 23) (σ 24) (σ 39) (xs (v3 + 1).toNatClampNeg) = some w := w1
  unfold f_law_20
  simp only [c1]
  rw [q1, ob_s, w1, ob_s, if_p ((lg_cmp_eq _ _).mpr w2), bn_eq]
  exact hk _ _ h0
theorem lw_21 (h : RS n σ) (hF : 200000 ≤ F) (c1 : ∀ x : Option Int32, ck (v3 + 1) L x = x) (c2 : ∀ x : Option Int32, ck (v3 + 2) L x = x) (c3 : ∀ x : Option Int32, ck (v3 + 3) L x = x) (c4 : ∀ x : Option Int32, ck (v3 + 4) L x = x) (c5 : ∀ x : Option Int32, ck (v3 + 5) L x = x) (c6 : ∀ x : Option Int32, ck (v3 + 6) L x = x) (c7 : ∀ x : Option Int32, ck (v3 + 7) L x = x) (hk : ∀ n σ, RS n σ → k18 n σ (v3 + 8) = some 1) : f_law_21 F xs L k18 n σ v3 = some 1 := by
  obtain ⟨vn, gn, cn, d, sn, hd, h1, h23, hf, ⟨pn, ln, tp, tl, Ln, P, L0, X, hL⟩, ⟨tn, T, hT⟩, ⟨f, hN⟩, ⟨z, b, hA⟩, ⟨v, sp, S, cnt0, r, gl, rt, dc, hR⟩, hlk, hh, hsk, ⟨wn, W, hW⟩, hco, ⟨jn, bl, C, hP⟩, ⟨A, hwi⟩, ⟨al, dr, O, hti⟩⟩ := h
  obtain ⟨q, q1, q2⟩ := ok_iff.mp (call_project (F := F) hf hP (xs (v3 + 1).toNatClampNeg) (xs (v3 + 2).toNatClampNeg) (xs (v3 + 3).toNatClampNeg))
  obtain ⟨w, w1, w2, jn', C', w3⟩ := ok_iff.mp q2
  have w1 : f_X12_project F ((sgs σ [(19, q.2)]) 24) ((sgs σ [(19, q.2)]) 40) (xs (v3 + 1).toNatClampNeg) (xs (v3 + 2).toNatClampNeg) (xs (v3 + 3).toNatClampNeg) = some w := w1
  unfold f_law_21
  simp only [c1, c2, c3]
  rw [q1, ob_s, bn_eq, w1, ob_s, bn_eq, if_p w2, bn_eq]
  exact hk _ _ ⟨vn, gn, cn, d, sn, hd, h1, h23, hf, ⟨pn, ln, tp, tl, Ln, P, L0, X, hL⟩, ⟨tn, T, hT⟩, ⟨f, hN⟩, ⟨z, b, hA⟩, ⟨v, sp, S, cnt0, r, gl, rt, dc, hR⟩, hlk, hh, hsk, ⟨wn, W, hW⟩, hco, ⟨jn', bl, C', w3⟩, ⟨A, hwi⟩, ⟨al, dr, O, hti⟩⟩
theorem lw_22 (h : RS n σ) (hF : 200000 ≤ F) (c1 : ∀ x : Option Int32, ck (v3 + 1) L x = x) (c2 : ∀ x : Option Int32, ck (v3 + 2) L x = x) (c3 : ∀ x : Option Int32, ck (v3 + 3) L x = x) (c4 : ∀ x : Option Int32, ck (v3 + 4) L x = x) (c5 : ∀ x : Option Int32, ck (v3 + 5) L x = x) (c6 : ∀ x : Option Int32, ck (v3 + 6) L x = x) (c7 : ∀ x : Option Int32, ck (v3 + 7) L x = x) (hk : ∀ n σ, RS n σ → k18 n σ (v3 + 8) = some 1) : f_law_22 F xs L k18 n σ v3 = some 1 := by
  have h0 := h
  obtain ⟨vn, gn, cn, d, sn, hd, h1, h23, hf, ⟨pn, ln, tp, tl, Ln, P, L0, X, hL⟩, ⟨tn, T, hT⟩, ⟨f, hN⟩, ⟨z, b, hA⟩, ⟨v, sp, S, cnt0, r, gl, rt, dc, hR⟩, hlk, hh, hsk, ⟨wn, W, hW⟩, hco, ⟨jn, bl, C, hP⟩, ⟨A, hwi⟩, ⟨al, dr, O, hti⟩⟩ := h
  obtain ⟨q, q1, q2⟩ := ok_iff.mp (call_choice (F := F) hf hP hco.2.2.2.1 hF (xs (v3 + 1).toNatClampNeg))
  obtain ⟨w, w1, w2⟩ := ok_iff.mp q2
  have w1 : f_X12_choice F (σ 24) (σ 39) (σ 40) (xs (v3 + 1).toNatClampNeg) = some w := w1
  unfold f_law_22
  simp only [c1]
  rw [q1, ob_s, w1, ob_s, if_p w2, bn_eq]
  exact hk _ _ h0
theorem lw_23 (h : RS n σ) (hF : 200000 ≤ F) (c1 : ∀ x : Option Int32, ck (v3 + 1) L x = x) (c2 : ∀ x : Option Int32, ck (v3 + 2) L x = x) (c3 : ∀ x : Option Int32, ck (v3 + 3) L x = x) (c4 : ∀ x : Option Int32, ck (v3 + 4) L x = x) (c5 : ∀ x : Option Int32, ck (v3 + 5) L x = x) (c6 : ∀ x : Option Int32, ck (v3 + 6) L x = x) (c7 : ∀ x : Option Int32, ck (v3 + 7) L x = x) (hk : ∀ n σ, RS n σ → k18 n σ (v3 + 8) = some 1) : f_law_23 F xs L k18 n σ v3 = some 1 := by
  obtain ⟨vn, gn, cn, d, sn, hd, h1, h23, hf, ⟨pn, ln, tp, tl, Ln, P, L0, X, hL⟩, ⟨tn, T, hT⟩, ⟨f, hN⟩, ⟨z, b, hA⟩, ⟨v, sp, S, cnt0, r, gl, rt, dc, hR⟩, hlk, hh, hsk, ⟨wn, W, hW⟩, hco, ⟨jn, bl, C, hP⟩, ⟨A, hwi⟩, ⟨al, dr, O, hti⟩⟩ := h
  obtain ⟨q, q1, q2⟩ := ok_iff.mp (call_build (F := F) hf hP hco hF (xs (v3 + 1).toNatClampNeg))
  obtain ⟨w, w1, w2, w3, bl', w4⟩ := ok_iff.mp q2
  have w1 : f_X12_build F ((sgs σ [(18, q.2.1), (19, q.2.2)]) 24) ((sgs σ [(18, q.2.1), (19, q.2.2)]) 39) ((sgs σ [(18, q.2.1), (19, q.2.2)]) 40) (xs (v3 + 1).toNatClampNeg) = some w := w1
  unfold f_law_23
  simp only [c1]
  rw [q1, ob_s, bn_eq, w1, ob_s, bn_eq, if_p w2, bn_eq]
  exact hk _ _ ⟨vn, gn, cn, d, sn, hd, h1, h23, hf, ⟨pn, ln, tp, tl, Ln, P, L0, X, hL⟩, ⟨tn, T, hT⟩, ⟨f, hN⟩, ⟨z, b, hA⟩, ⟨v, sp, S, cnt0, r, gl, rt, dc, hR⟩, hlk, hh, hsk, ⟨wn, W, hW⟩, w3, ⟨jn, bl', C, w4⟩, ⟨A, hwi⟩, ⟨al, dr, O, hti⟩⟩
theorem lw_24 (h : RS n σ) (hF : 200000 ≤ F) (c1 : ∀ x : Option Int32, ck (v3 + 1) L x = x) (c2 : ∀ x : Option Int32, ck (v3 + 2) L x = x) (c3 : ∀ x : Option Int32, ck (v3 + 3) L x = x) (c4 : ∀ x : Option Int32, ck (v3 + 4) L x = x) (c5 : ∀ x : Option Int32, ck (v3 + 5) L x = x) (c6 : ∀ x : Option Int32, ck (v3 + 6) L x = x) (c7 : ∀ x : Option Int32, ck (v3 + 7) L x = x) (hk : ∀ n σ, RS n σ → k18 n σ (v3 + 8) = some 1) : f_law_24 F xs L k18 n σ v3 = some 1 := by
  obtain ⟨vn, gn, cn, d, sn, hd, h1, h23, hf, ⟨pn, ln, tp, tl, Ln, P, L0, X, hL⟩, ⟨tn, T, hT⟩, ⟨f, hN⟩, ⟨z, b, hA⟩, ⟨v, sp, S, cnt0, r, gl, rt, dc, hR⟩, hlk, hh, hsk, ⟨wn, W, hW⟩, hco, ⟨jn, bl, C, hP⟩, ⟨A, hwi⟩, ⟨al, dr, O, hti⟩⟩ := h
  obtain ⟨q, q1, q2⟩ := ok_iff.mp (call_leaves (F := F) hf hL.1 hT hd (show 200 ≤ F by omega) h1 h23 (xs (v3 + 1).toNatClampNeg) (xs (v3 + 2).toNatClampNeg))
  obtain ⟨w, w1, w2, ⟨P', w3, w4⟩, tn', T', w5⟩ := ok_iff.mp q2
  have w1 : f_X12_leaves F ((sgs σ [(8, q.2.1), (9, q.2.2)]) 23) ((sgs σ [(8, q.2.1), (9, q.2.2)]) 24) ((sgs σ [(8, q.2.1), (9, q.2.2)]) 25) ((sgs σ [(8, q.2.1), (9, q.2.2)]) 41) (xs (v3 + 1).toNatClampNeg) (xs (v3 + 2).toNatClampNeg) = some w := w1
  unfold f_law_24
  simp only [c1, c2]
  rw [q1, ob_s, bn_eq, w1, ob_s, bn_eq, if_p w2, bn_eq]
  exact hk _ _ ⟨vn, gn, cn, d, sn, hd, h1, h23, hf, ⟨pn, ln, tp, tl, Ln, P', L0, X, hL.ext w3 (Nat.le_refl _) w4⟩, ⟨tn', T', w5⟩, ⟨f, hN⟩, ⟨z, b, hA⟩, ⟨v, sp, S, cnt0, r, gl, rt, dc, hR⟩, hlk, hh, hsk, ⟨wn, W, hW⟩, hco, ⟨jn, bl, C, hP⟩, ⟨A, hwi⟩, ⟨al, dr, O, hti⟩⟩
theorem lw_25 (h : RS n σ) (hF : 200000 ≤ F) (c1 : ∀ x : Option Int32, ck (v3 + 1) L x = x) (c2 : ∀ x : Option Int32, ck (v3 + 2) L x = x) (c3 : ∀ x : Option Int32, ck (v3 + 3) L x = x) (c4 : ∀ x : Option Int32, ck (v3 + 4) L x = x) (c5 : ∀ x : Option Int32, ck (v3 + 5) L x = x) (c6 : ∀ x : Option Int32, ck (v3 + 6) L x = x) (c7 : ∀ x : Option Int32, ck (v3 + 7) L x = x) (hk : ∀ n σ, RS n σ → k18 n σ (v3 + 8) = some 1) : f_law_25 F xs L k18 n σ v3 = some 1 := by
  have h0 := h
  obtain ⟨vn, gn, cn, d, sn, hd, h1, h23, hf, ⟨pn, ln, tp, tl, Ln, P, L0, X, hL⟩, ⟨tn, T, hT⟩, ⟨f, hN⟩, ⟨z, b, hA⟩, ⟨v, sp, S, cnt0, r, gl, rt, dc, hR⟩, hlk, hh, hsk, ⟨wn, W, hW⟩, hco, ⟨jn, bl, C, hP⟩, ⟨A, hwi⟩, ⟨al, dr, O, hti⟩⟩ := h
  obtain ⟨q, q1, q2⟩ := ok_iff.mp (call_left (F := F) hf hT hd (show 200 ≤ F by omega) (xs (v3 + 1).toNatClampNeg) (xs (v3 + 2).toNatClampNeg))
  obtain ⟨w, w1, w2⟩ := ok_iff.mp q2
  have w1 : f_X12_left F (σ 24) (σ 41) (xs (v3 + 1).toNatClampNeg) (xs (v3 + 2).toNatClampNeg) = some w := w1
  unfold f_law_25
  simp only [c1, c2]
  rw [q1, ob_s, w1, ob_s, if_p w2, bn_eq]
  exact hk _ _ h0
theorem lw_26 (h : RS n σ) (hF : 200000 ≤ F) (c1 : ∀ x : Option Int32, ck (v3 + 1) L x = x) (c2 : ∀ x : Option Int32, ck (v3 + 2) L x = x) (c3 : ∀ x : Option Int32, ck (v3 + 3) L x = x) (c4 : ∀ x : Option Int32, ck (v3 + 4) L x = x) (c5 : ∀ x : Option Int32, ck (v3 + 5) L x = x) (c6 : ∀ x : Option Int32, ck (v3 + 6) L x = x) (c7 : ∀ x : Option Int32, ck (v3 + 7) L x = x) (hk : ∀ n σ, RS n σ → k18 n σ (v3 + 8) = some 1) : f_law_26 F xs L k18 n σ v3 = some 1 := by
  have h0 := h
  obtain ⟨vn, gn, cn, d, sn, hd, h1, h23, hf, ⟨pn, ln, tp, tl, Ln, P, L0, X, hL⟩, ⟨tn, T, hT⟩, ⟨f, hN⟩, ⟨z, b, hA⟩, ⟨v, sp, S, cnt0, r, gl, rt, dc, hR⟩, hlk, hh, hsk, ⟨wn, W, hW⟩, hco, ⟨jn, bl, C, hP⟩, ⟨A, hwi⟩, ⟨al, dr, O, hti⟩⟩ := h
  obtain ⟨q, q1, q2⟩ := ok_iff.mp (call_amiss (F := F) hL.2.1 hL.2.2.1 hL.2.2.2.1 hL.1 hT hd hF (xs (v3 + 1).toNatClampNeg))
  obtain ⟨w, w1, w2⟩ := ok_iff.mp q2
  have w1 : f_X12_amiss F (σ 25) (σ 32) (σ 41) (xs (v3 + 1).toNatClampNeg) = some w := w1
  unfold f_law_26
  simp only [c1]
  rw [q1, ob_s, w1, ob_s, if_p w2, bn_eq]
  exact hk _ _ h0
theorem lw_27 (h : RS n σ) (hF : 200000 ≤ F) (c1 : ∀ x : Option Int32, ck (v3 + 1) L x = x) (c2 : ∀ x : Option Int32, ck (v3 + 2) L x = x) (c3 : ∀ x : Option Int32, ck (v3 + 3) L x = x) (c4 : ∀ x : Option Int32, ck (v3 + 4) L x = x) (c5 : ∀ x : Option Int32, ck (v3 + 5) L x = x) (c6 : ∀ x : Option Int32, ck (v3 + 6) L x = x) (c7 : ∀ x : Option Int32, ck (v3 + 7) L x = x) (hk : ∀ n σ, RS n σ → k18 n σ (v3 + 8) = some 1) : f_law_27 F xs L k18 n σ v3 = some 1 := by
  have h0 := h
  obtain ⟨vn, gn, cn, d, sn, hd, h1, h23, hf, ⟨pn, ln, tp, tl, Ln, P, L0, X, hL⟩, ⟨tn, T, hT⟩, ⟨f, hN⟩, ⟨z, b, hA⟩, ⟨v, sp, S, cnt0, r, gl, rt, dc, hR⟩, hlk, hh, hsk, ⟨wn, W, hW⟩, hco, ⟨jn, bl, C, hP⟩, ⟨A, hwi⟩, ⟨al, dr, O, hti⟩⟩ := h
  obtain ⟨q, q1, q2⟩ := ok_iff.mp (call_silent (F := F) hL.2.2.1 hL.2.2.2.1 hL.1 hL.2.2.2.2.2.2.2.1 hd h1 h23 hF (xs (v3 + 1).toNatClampNeg))
  obtain ⟨w, w1, w2⟩ := ok_iff.mp q2
  have w1 : f_X12_silent F (σ 23) (σ 25) (σ 32) (xs (v3 + 1).toNatClampNeg) = some w := w1
  unfold f_law_27
  simp only [c1]
  rw [q1, ob_s, w1, ob_s, if_p w2, bn_eq]
  exact hk _ _ h0
theorem lw_28 (h : RS n σ) (hF : 200000 ≤ F) (c1 : ∀ x : Option Int32, ck (v3 + 1) L x = x) (c2 : ∀ x : Option Int32, ck (v3 + 2) L x = x) (c3 : ∀ x : Option Int32, ck (v3 + 3) L x = x) (c4 : ∀ x : Option Int32, ck (v3 + 4) L x = x) (c5 : ∀ x : Option Int32, ck (v3 + 5) L x = x) (c6 : ∀ x : Option Int32, ck (v3 + 6) L x = x) (c7 : ∀ x : Option Int32, ck (v3 + 7) L x = x) (hk : ∀ n σ, RS n σ → k18 n σ (v3 + 8) = some 1) : f_law_28 F xs L k18 n σ v3 = some 1 := by
  obtain ⟨vn, gn, cn, d, sn, hd, h1, h23, hf, ⟨pn, ln, tp, tl, Ln, P, L0, X, hL⟩, ⟨tn, T, hT⟩, ⟨f, hN⟩, ⟨z, b, hA⟩, ⟨v, sp, S, cnt0, r, gl, rt, dc, hR⟩, hlk, hh, hsk, ⟨wn, W, hW⟩, hco, ⟨jn, bl, C, hP⟩, ⟨A, hwi⟩, ⟨al, dr, O, hti⟩⟩ := h
  obtain ⟨q, q1, q2⟩ := ok_iff.mp (call_wish (F := F) hf hwi (xs (v3 + 1).toNatClampNeg) (xs (v3 + 2).toNatClampNeg) (xs (v3 + 3).toNatClampNeg))
  obtain ⟨w, w1, w2, A', w3⟩ := ok_iff.mp q2
  have w1 : f_X12_wish F ((sgs σ [(20, q.2)]) 24) ((sgs σ [(20, q.2)]) 42) (xs (v3 + 1).toNatClampNeg) (xs (v3 + 2).toNatClampNeg) (xs (v3 + 3).toNatClampNeg) = some w := w1
  unfold f_law_28
  simp only [c1, c2, c3]
  rw [q1, ob_s, bn_eq, w1, ob_s, bn_eq, if_p w2, bn_eq]
  exact hk _ _ ⟨vn, gn, cn, d, sn, hd, h1, h23, hf, ⟨pn, ln, tp, tl, Ln, P, L0, X, hL⟩, ⟨tn, T, hT⟩, ⟨f, hN⟩, ⟨z, b, hA⟩, ⟨v, sp, S, cnt0, r, gl, rt, dc, hR⟩, hlk, hh, hsk, ⟨wn, W, hW⟩, hco, ⟨jn, bl, C, hP⟩, ⟨A', w3⟩, ⟨al, dr, O, hti⟩⟩
theorem lw_29 (h : RS n σ) (hF : 200000 ≤ F) (c1 : ∀ x : Option Int32, ck (v3 + 1) L x = x) (c2 : ∀ x : Option Int32, ck (v3 + 2) L x = x) (c3 : ∀ x : Option Int32, ck (v3 + 3) L x = x) (c4 : ∀ x : Option Int32, ck (v3 + 4) L x = x) (c5 : ∀ x : Option Int32, ck (v3 + 5) L x = x) (c6 : ∀ x : Option Int32, ck (v3 + 6) L x = x) (c7 : ∀ x : Option Int32, ck (v3 + 7) L x = x) (hk : ∀ n σ, RS n σ → k18 n σ (v3 + 8) = some 1) : f_law_29 F xs L k18 n σ v3 = some 1 := by
  obtain ⟨vn, gn, cn, d, sn, hd, h1, h23, hf, ⟨pn, ln, tp, tl, Ln, P, L0, X, hL⟩, ⟨tn, T, hT⟩, ⟨f, hN⟩, ⟨z, b, hA⟩, ⟨v, sp, S, cnt0, r, gl, rt, dc, hR⟩, hlk, hh, hsk, ⟨wn, W, hW⟩, hco, ⟨jn, bl, C, hP⟩, ⟨A, hwi⟩, ⟨al, dr, O, hti⟩⟩ := h
  obtain ⟨q, q1, q2⟩ := ok_iff.mp (call_pairing (F := F) (G17 := σ 17) (G21 := σ 21) (G38 := σ 38) (G43 := σ 43) hf hL.1 hT hwi hd h1 h23 hF)
  obtain ⟨w, w1, w2, w3, ⟨pn', tp', P', w4, w5⟩, A', w6⟩ := ok_iff.mp q2
  have w1 : f_X12_pairing F ((sgs σ [(7, q.2.2.1), (9, q.2.2.2.1), (17, q.2.2.2.2.1), (20, q.2.2.2.2.2.1), (21, q.2.2.2.2.2.2)]) 23) ((sgs σ [(7, q.2.2.1), (9, q.2.2.2.1), (17, q.2.2.2.2.1), (20, q.2.2.2.2.2.1), (21, q.2.2.2.2.2.2)]) 24) ((sgs σ [(7, q.2.2.1), (9, q.2.2.2.1), (17, q.2.2.2.2.1), (20, q.2.2.2.2.2.1), (21, q.2.2.2.2.2.2)]) 25) ((sgs σ [(7, q.2.2.1), (9, q.2.2.2.1), (17, q.2.2.2.2.1), (20, q.2.2.2.2.2.1), (21, q.2.2.2.2.2.2)]) 38) ((sgs σ [(7, q.2.2.1), (9, q.2.2.2.1), (17, q.2.2.2.2.1), (20, q.2.2.2.2.2.1), (21, q.2.2.2.2.2.2)]) 41) ((sgs σ [(7, q.2.2.1), (9, q.2.2.2.1), (17, q.2.2.2.2.1), (20, q.2.2.2.2.2.1), (21, q.2.2.2.2.2.2)]) 42) ((sgs σ [(7, q.2.2.1), (9, q.2.2.2.1), (17, q.2.2.2.2.1), (20, q.2.2.2.2.2.1), (21, q.2.2.2.2.2.2)]) 43) = some w := w1
  unfold f_law_29
  rw [q1, ob_s, bn_eq, w1, ob_s, bn_eq, if_p w2, bn_eq]
  exact hk _ _ ⟨vn, gn, cn, d, sn, hd, h1, h23, hf, ⟨pn', ln, tp', tl, Ln, P', L0, X, hL.ext w4 w3 w5⟩, ⟨tn, T, hT⟩, ⟨f, hN⟩, ⟨z, b, hA⟩, ⟨v, sp, S, cnt0, r, gl, rt, dc, hR⟩, hlk, hh, hsk, ⟨wn, W, hW⟩, hco, ⟨jn, bl, C, hP⟩, ⟨A', w6⟩, ⟨al, dr, O, hti⟩⟩
theorem lw_30 (h : RS n σ) (hF : 200000 ≤ F) (c1 : ∀ x : Option Int32, ck (v3 + 1) L x = x) (c2 : ∀ x : Option Int32, ck (v3 + 2) L x = x) (c3 : ∀ x : Option Int32, ck (v3 + 3) L x = x) (c4 : ∀ x : Option Int32, ck (v3 + 4) L x = x) (c5 : ∀ x : Option Int32, ck (v3 + 5) L x = x) (c6 : ∀ x : Option Int32, ck (v3 + 6) L x = x) (c7 : ∀ x : Option Int32, ck (v3 + 7) L x = x) (hk : ∀ n σ, RS n σ → k18 n σ (v3 + 8) = some 1) : f_law_30 F xs L k18 n σ v3 = some 1 := by
  obtain ⟨vn, gn, cn, d, sn, hd, h1, h23, hf, ⟨pn, ln, tp, tl, Ln, P, L0, X, hL⟩, ⟨tn, T, hT⟩, ⟨f, hN⟩, ⟨z, b, hA⟩, ⟨v, sp, S, cnt0, r, gl, rt, dc, hR⟩, hlk, hh, hsk, ⟨wn, W, hW⟩, hco, ⟨jn, bl, C, hP⟩, ⟨A, hwi⟩, ⟨al, dr, O, hti⟩⟩ := h
  obtain ⟨q, q1, q2⟩ := ok_iff.mp (call_trial (F := F) hf hti hF (xs (v3 + 1).toNatClampNeg) (xs (v3 + 2).toNatClampNeg))
  obtain ⟨w, w1, w2, al', dr', O', w3⟩ := ok_iff.mp q2
  have w1 : f_X12_trial F ((sgs σ [(22, q.2)]) 24) ((sgs σ [(22, q.2)]) 44) (xs (v3 + 1).toNatClampNeg) (xs (v3 + 2).toNatClampNeg) = some w := w1
  unfold f_law_30
  simp only [c1, c2]
  rw [q1, ob_s, bn_eq, w1, ob_s, bn_eq, if_p w2, bn_eq]
  exact hk _ _ ⟨vn, gn, cn, d, sn, hd, h1, h23, hf, ⟨pn, ln, tp, tl, Ln, P, L0, X, hL⟩, ⟨tn, T, hT⟩, ⟨f, hN⟩, ⟨z, b, hA⟩, ⟨v, sp, S, cnt0, r, gl, rt, dc, hR⟩, hlk, hh, hsk, ⟨wn, W, hW⟩, hco, ⟨jn, bl, C, hP⟩, ⟨A, hwi⟩, ⟨al', dr', O', w3⟩⟩
theorem lw_31 (h : RS n σ) (hF : 200000 ≤ F) (c1 : ∀ x : Option Int32, ck (v3 + 1) L x = x) (c2 : ∀ x : Option Int32, ck (v3 + 2) L x = x) (c3 : ∀ x : Option Int32, ck (v3 + 3) L x = x) (c4 : ∀ x : Option Int32, ck (v3 + 4) L x = x) (c5 : ∀ x : Option Int32, ck (v3 + 5) L x = x) (c6 : ∀ x : Option Int32, ck (v3 + 6) L x = x) (c7 : ∀ x : Option Int32, ck (v3 + 7) L x = x) (hk : ∀ n σ, RS n σ → k18 n σ (v3 + 8) = some 1) : f_law_31 F xs L k18 n σ v3 = some 1 := by
  obtain ⟨vn, gn, cn, d, sn, hd, h1, h23, hf, ⟨pn, ln, tp, tl, Ln, P, L0, X, hL⟩, ⟨tn, T, hT⟩, ⟨f, hN⟩, ⟨z, b, hA⟩, ⟨v, sp, S, cnt0, r, gl, rt, dc, hR⟩, hlk, hh, hsk, ⟨wn, W, hW⟩, hco, ⟨jn, bl, C, hP⟩, ⟨A, hwi⟩, ⟨al, dr, O, hti⟩⟩ := h
  obtain ⟨q, q1, q2⟩ := ok_iff.mp (call_outcome (F := F) hf hti (xs (v3 + 1).toNatClampNeg) (xs (v3 + 2).toNatClampNeg))
  obtain ⟨w, w1, w2, O', w3⟩ := ok_iff.mp q2
  have w1 : f_X12_outcome F ((sgs σ [(22, q.2)]) 24) ((sgs σ [(22, q.2)]) 44) (xs (v3 + 1).toNatClampNeg) (xs (v3 + 2).toNatClampNeg) = some w := w1
  unfold f_law_31
  simp only [c1, c2]
  rw [q1, ob_s, bn_eq, w1, ob_s, bn_eq, if_p w2, bn_eq]
  exact hk _ _ ⟨vn, gn, cn, d, sn, hd, h1, h23, hf, ⟨pn, ln, tp, tl, Ln, P, L0, X, hL⟩, ⟨tn, T, hT⟩, ⟨f, hN⟩, ⟨z, b, hA⟩, ⟨v, sp, S, cnt0, r, gl, rt, dc, hR⟩, hlk, hh, hsk, ⟨wn, W, hW⟩, hco, ⟨jn, bl, C, hP⟩, ⟨A, hwi⟩, ⟨al, dr, O', w3⟩⟩
theorem lw_32 (h : RS n σ) (hF : 200000 ≤ F) (c1 : ∀ x : Option Int32, ck (v3 + 1) L x = x) (c2 : ∀ x : Option Int32, ck (v3 + 2) L x = x) (c3 : ∀ x : Option Int32, ck (v3 + 3) L x = x) (c4 : ∀ x : Option Int32, ck (v3 + 4) L x = x) (c5 : ∀ x : Option Int32, ck (v3 + 5) L x = x) (c6 : ∀ x : Option Int32, ck (v3 + 6) L x = x) (c7 : ∀ x : Option Int32, ck (v3 + 7) L x = x) (hk : ∀ n σ, RS n σ → k18 n σ (v3 + 8) = some 1) : f_law_32 F xs L k18 n σ v3 = some 1 := by
  obtain ⟨vn, gn, cn, d, sn, hd, h1, h23, hf, ⟨pn, ln, tp, tl, Ln, P, L0, X, hL⟩, ⟨tn, T, hT⟩, ⟨f, hN⟩, ⟨z, b, hA⟩, ⟨v, sp, S, cnt0, r, gl, rt, dc, hR⟩, hlk, hh, hsk, ⟨wn, W, hW⟩, hco, ⟨jn, bl, C, hP⟩, ⟨A, hwi⟩, ⟨al, dr, O, hti⟩⟩ := h
  obtain ⟨q, q1, q2⟩ := ok_iff.mp (call_doubt (F := F) hti hF (xs (v3 + 1).toNatClampNeg))
  obtain ⟨w, w1, w2, w3⟩ := ok_iff.mp q2
  have w1 : f_X12_doubt F (σ 44) (xs (v3 + 1).toNatClampNeg) = some w := w1
  unfold f_law_32
  simp only [c1]
  rw [q1, ob_s, w1, ob_s, bn_eq, if_p w2, bn_eq]
  exact hk _ _ ⟨vn, gn, cn, d, sn, hd, h1, h23, hf, ⟨pn, ln, tp, tl, Ln, P, L0, X, hL⟩, ⟨tn, T, hT⟩, ⟨f, hN⟩, ⟨z, b, hA⟩, ⟨v, sp, S, cnt0, r, gl, rt, dc, hR⟩, hlk, hh, hsk, ⟨wn, W, hW⟩, hco, ⟨jn, bl, C, hP⟩, ⟨A, hwi⟩, ⟨al, dr, O, w3⟩⟩
theorem lw_33 (h : RS n σ) (hF : 200000 ≤ F) (c1 : ∀ x : Option Int32, ck (v3 + 1) L x = x) (c2 : ∀ x : Option Int32, ck (v3 + 2) L x = x) (c3 : ∀ x : Option Int32, ck (v3 + 3) L x = x) (c4 : ∀ x : Option Int32, ck (v3 + 4) L x = x) (c5 : ∀ x : Option Int32, ck (v3 + 5) L x = x) (c6 : ∀ x : Option Int32, ck (v3 + 6) L x = x) (c7 : ∀ x : Option Int32, ck (v3 + 7) L x = x) (hk : ∀ n σ, RS n σ → k18 n σ (v3 + 8) = some 1) : f_law_33 F xs L k18 n σ v3 = some 1 := by
  have h0 := h
  obtain ⟨vn, gn, cn, d, sn, hd, h1, h23, hf, ⟨pn, ln, tp, tl, Ln, P, L0, X, hL⟩, ⟨tn, T, hT⟩, ⟨f, hN⟩, ⟨z, b, hA⟩, ⟨v, sp, S, cnt0, r, gl, rt, dc, hR⟩, hlk, hh, hsk, ⟨wn, W, hW⟩, hco, ⟨jn, bl, C, hP⟩, ⟨A, hwi⟩, ⟨al, dr, O, hti⟩⟩ := h
  obtain ⟨q, q1, q2⟩ := ok_iff.mp (call_of (F := F) hL.2.2.1 hL.2.2.2.1 hL.1 hL.2.2.2.2.2.2.2.1 hF (xs (v3 + 1).toNatClampNeg) (xs (v3 + 2).toNatClampNeg))
  obtain ⟨w, w1, w2⟩ := ok_iff.mp q2
  have w1 : f_X12_of F (σ 25) (σ 32) (xs (v3 + 1).toNatClampNeg) (xs (v3 + 2).toNatClampNeg) = some w := w1
  unfold f_law_33
  simp only [c1, c2]
  rw [q1, ob_s, w1, ob_s, if_p w2, bn_eq]
  exact hk _ _ h0
theorem lw_34 (h : RS n σ) (hF : 200000 ≤ F) (c1 : ∀ x : Option Int32, ck (v3 + 1) L x = x) (c2 : ∀ x : Option Int32, ck (v3 + 2) L x = x) (c3 : ∀ x : Option Int32, ck (v3 + 3) L x = x) (c4 : ∀ x : Option Int32, ck (v3 + 4) L x = x) (c5 : ∀ x : Option Int32, ck (v3 + 5) L x = x) (c6 : ∀ x : Option Int32, ck (v3 + 6) L x = x) (c7 : ∀ x : Option Int32, ck (v3 + 7) L x = x) (hk : ∀ n σ, RS n σ → k18 n σ (v3 + 8) = some 1) : f_law_34 F xs L k18 n σ v3 = some 1 := by
  have h0 := h
  obtain ⟨vn, gn, cn, d, sn, hd, h1, h23, hf, ⟨pn, ln, tp, tl, Ln, P, L0, X, hL⟩, ⟨tn, T, hT⟩, ⟨f, hN⟩, ⟨z, b, hA⟩, ⟨v, sp, S, cnt0, r, gl, rt, dc, hR⟩, hlk, hh, hsk, ⟨wn, W, hW⟩, hco, ⟨jn, bl, C, hP⟩, ⟨A, hwi⟩, ⟨al, dr, O, hti⟩⟩ := h
  obtain ⟨q, q1, q2⟩ := ok_iff.mp (call_count (F := F) hf hL.1 hT hN hL.2.1 hL.2.2.1 hL.2.2.2.1 hsk hW hR hA hP hwi hd h1 h23 hF (xs (v3 + 1).toNatClampNeg))
  obtain ⟨w, w1, w2⟩ := ok_iff.mp q2
  have w1 : f_X12_count F (σ 23) (σ 24) (σ 25) (σ 26) (σ 27) (σ 29) (σ 32) (σ 35) (σ 37) (σ 40) (σ 41) (σ 42) (xs (v3 + 1).toNatClampNeg) = some w := w1
  unfold f_law_34
  simp only [c1]
  rw [q1, ob_s, w1, ob_s, if_p w2, bn_eq]
  exact hk _ _ h0
theorem lw_13 (h : RS n σ) (hF : 200000 ≤ F) (c1 : ∀ x : Option Int32, ck (v3 + 1) L x = x) (c2 : ∀ x : Option Int32, ck (v3 + 2) L x = x) (c3 : ∀ x : Option Int32, ck (v3 + 3) L x = x) (c4 : ∀ x : Option Int32, ck (v3 + 4) L x = x) (c5 : ∀ x : Option Int32, ck (v3 + 5) L x = x) (c6 : ∀ x : Option Int32, ck (v3 + 6) L x = x) (c7 : ∀ x : Option Int32, ck (v3 + 7) L x = x) (hk : ∀ n σ, RS n σ → k18 n σ (v3 + 8) = some 1) : f_law_13 F xs L k18 n σ v3 = some 1 := by
  obtain ⟨vn, gn, cn, d, sn, hd, h1, h23, hf, ⟨pn, ln, tp, tl, Ln, P, L0, X, hL⟩, ⟨tn, T, hT⟩, ⟨f, hN⟩, ⟨z, b, hA⟩, ⟨v, sp, S, cnt0, r, gl, rt, dc, hR⟩, hlk, hh, hsk, ⟨wn, W, hW⟩, hco, ⟨jn, bl, C, hP⟩, ⟨A, hwi⟩, ⟨al, dr, O, hti⟩⟩ := h
  have key : ∀ y : Int32, ∃ q w, f_X11_decide F (σ 1) (σ 3) (σ 4) (σ 5) (σ 6) (σ 9) (σ 10) (σ 12) (σ 13) (σ 14) (xs (v3 + 1).toNatClampNeg) y = some q ∧ f_X12_decide F (σ 23) (σ 24) (σ 25) (σ 29) (σ 30) (σ 32) (σ 33) (σ 36) (xs (v3 + 1).toNatClampNeg) y = some w ∧ q.1 = w.1 ∧ RS n (sgs (sgs σ [(3, q.2.1), (5, q.2.2.1), (9, q.2.2.2.1), (12, q.2.2.2.2.1), (13, q.2.2.2.2.2)]) [(25, w.2.1), (30, w.2.2.1), (32, w.2.2.2.1), (36, w.2.2.2.2)]) := by
    intro y
    obtain ⟨q, q1, q2⟩ := ok_iff.mp (call_decide (F := F) (G30 := σ 30) hL hf hR hh hlk hd h1 h23 hF (xs (v3 + 1).toNatClampNeg) y)
    obtain ⟨w, w1, w2, ⟨P', L', X', w3⟩, w4, w5, w6, w7⟩ := ok_iff.mp q2
    exact ⟨q, w, q1, w1, w2, ⟨vn, gn, cn, d, sn, hd, h1, h23, hf, ⟨pn, ln, tp, tl, Ln, P', L', X', w3⟩, ⟨tn, T, hT⟩, ⟨f, hN⟩, ⟨z, b, hA.g1 rfl w6 (fun k => w7 1 k (by omega))⟩, ⟨v, sp, S, cnt0, r, gl, rt, dc, hR⟩, w5, w4, hsk, ⟨wn, W, hW⟩, hco, ⟨jn, bl, C, hP⟩, ⟨A, hwi⟩, ⟨al, dr, O, hti⟩⟩⟩
  unfold f_law_13
  simp only [c1, c2]
  by_cases c : xs (v3 + 2).toNatClampNeg = 0
  · obtain ⟨q, w, q1, w1, w2, w3⟩ := key 0
    have w1 : f_X12_decide F ((sgs σ [(3, q.2.1), (5, q.2.2.1), (9, q.2.2.2.1), (12, q.2.2.2.2.1), (13, q.2.2.2.2.2)]) 23) ((sgs σ [(3, q.2.1), (5, q.2.2.1), (9, q.2.2.2.1), (12, q.2.2.2.2.1), (13, q.2.2.2.2.2)]) 24) ((sgs σ [(3, q.2.1), (5, q.2.2.1), (9, q.2.2.2.1), (12, q.2.2.2.2.1), (13, q.2.2.2.2.2)]) 25) ((sgs σ [(3, q.2.1), (5, q.2.2.1), (9, q.2.2.2.1), (12, q.2.2.2.2.1), (13, q.2.2.2.2.2)]) 29) ((sgs σ [(3, q.2.1), (5, q.2.2.1), (9, q.2.2.2.1), (12, q.2.2.2.2.1), (13, q.2.2.2.2.2)]) 30) ((sgs σ [(3, q.2.1), (5, q.2.2.1), (9, q.2.2.2.1), (12, q.2.2.2.2.1), (13, q.2.2.2.2.2)]) 32) ((sgs σ [(3, q.2.1), (5, q.2.2.1), (9, q.2.2.2.1), (12, q.2.2.2.2.1), (13, q.2.2.2.2.2)]) 33) ((sgs σ [(3, q.2.1), (5, q.2.2.1), (9, q.2.2.2.1), (12, q.2.2.2.2.1), (13, q.2.2.2.2.2)]) 36) (xs (v3 + 1).toNatClampNeg) 0 = some w := w1
    rw [if_p c, q1, ob_s, bn_eq, if_p c, w1, ob_s, bn_eq, if_p w2, bn_eq]
    exact hk _ _ w3
  · obtain ⟨q, w, q1, w1, w2, w3⟩ := key 1
    have w1 : f_X12_decide F ((sgs σ [(3, q.2.1), (5, q.2.2.1), (9, q.2.2.2.1), (12, q.2.2.2.2.1), (13, q.2.2.2.2.2)]) 23) ((sgs σ [(3, q.2.1), (5, q.2.2.1), (9, q.2.2.2.1), (12, q.2.2.2.2.1), (13, q.2.2.2.2.2)]) 24) ((sgs σ [(3, q.2.1), (5, q.2.2.1), (9, q.2.2.2.1), (12, q.2.2.2.2.1), (13, q.2.2.2.2.2)]) 25) ((sgs σ [(3, q.2.1), (5, q.2.2.1), (9, q.2.2.2.1), (12, q.2.2.2.2.1), (13, q.2.2.2.2.2)]) 29) ((sgs σ [(3, q.2.1), (5, q.2.2.1), (9, q.2.2.2.1), (12, q.2.2.2.2.1), (13, q.2.2.2.2.2)]) 30) ((sgs σ [(3, q.2.1), (5, q.2.2.1), (9, q.2.2.2.1), (12, q.2.2.2.2.1), (13, q.2.2.2.2.2)]) 32) ((sgs σ [(3, q.2.1), (5, q.2.2.1), (9, q.2.2.2.1), (12, q.2.2.2.2.1), (13, q.2.2.2.2.2)]) 33) ((sgs σ [(3, q.2.1), (5, q.2.2.1), (9, q.2.2.2.1), (12, q.2.2.2.2.1), (13, q.2.2.2.2.2)]) 36) (xs (v3 + 1).toNatClampNeg) 1 = some w := w1
    rw [if_n c, q1, ob_s, bn_eq, if_n c, w1, ob_s, bn_eq, if_p w2, bn_eq]
    exact hk _ _ w3
end PR
