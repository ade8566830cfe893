/-! the cutting of a text -/
def cK (dc : Nat → Int) (fd : Fnd) : Nat → Nat × Nat
  | 0 => (0, 0)
  | j + 1 => if dc (fd j).1 = 99 then ((cK dc fd j).1 + ((fd j).2.1 - (cK dc fd j).2) + 1, (fd j).2.1 + (fd j).2.2.1) else cK dc fd j
def cY (dc : Nat → Int) (fd : Fnd) (tx : Nat → Nat) : Nat → Nat → Nat
  | 0 => fun _ => 0
  | j + 1 => if dc (fd j).1 = 99 then (fun q => if q = (cK dc fd j).1 + ((fd j).2.1 - (cK dc fd j).2) then 120 else if (cK dc fd j).1 ≤ q then tx ((cK dc fd j).2 + (q - (cK dc fd j).1)) else cY dc fd tx j q) else cY dc fd tx j
def cC (dc : Nat → Int) (fd : Fnd) : Nat → Nat
  | 0 => 0
  | j + 1 => if dc (fd j).1 = 99 then cC dc fd j + 1 else cC dc fd j
theorem cK_t {dc : Nat → Int} {fd : Fnd} {j : Nat} (h : dc (fd j).1 = 99) : cK dc fd (j + 1) = ((cK dc fd j).1 + ((fd j).2.1 - (cK dc fd j).2) + 1, (fd j).2.1 + (fd j).2.2.1) := if_pos h
theorem cK_f {dc : Nat → Int} {fd : Fnd} {j : Nat} (h : ¬ dc (fd j).1 = 99) : cK dc fd (j + 1) = cK dc fd j := if_neg h
theorem cY_t {dc : Nat → Int} {fd : Fnd} {tx : Nat → Nat} {j q : Nat} (h : dc (fd j).1 = 99) : cY dc fd tx (j + 1) q = if q = (cK dc fd j).1 + ((fd j).2.1 - (cK dc fd j).2) then 120 else if (cK dc fd j).1 ≤ q then tx ((cK dc fd j).2 + (q - (cK dc fd j).1)) else cY dc fd tx j q := by
  show (if dc (fd j).1 = 99 then _ else _ : Nat → Nat) q = _
  rw [if_pos h]
theorem cY_f {dc : Nat → Int} {fd : Fnd} {tx : Nat → Nat} {j : Nat} (h : ¬ dc (fd j).1 = 99) : cY dc fd tx (j + 1) = cY dc fd tx j := if_neg h
theorem cC_t {dc : Nat → Int} {fd : Fnd} {j : Nat} (h : dc (fd j).1 = 99) : cC dc fd (j + 1) = cC dc fd j + 1 := if_pos h
theorem cC_f {dc : Nat → Int} {fd : Fnd} {j : Nat} (h : ¬ dc (fd j).1 = 99) : cC dc fd (j + 1) = cC dc fd j := if_neg h
theorem cC_le {dc : Nat → Int} {fd : Fnd} : ∀ j, cC dc fd j ≤ j := by
  intro j
  induction j with
  | zero => exact Nat.le_refl _
  | succ j ih =>
    by_cases c : dc (fd j).1 = 99
    · rw [cC_t c]; omega
    · rw [cC_f c]; omega
/-- the length, and the text, when all is done -/
def cN (dc : Nat → Int) (fd : Fnd) (m n : Nat) : Nat := (cK dc fd m).1 + (n - (cK dc fd m).2)
def cT (dc : Nat → Int) (fd : Fnd) (tx : Nat → Nat) (m : Nat) (q : Nat) : Nat := if (cK dc fd m).1 ≤ q then tx ((cK dc fd m).2 + (q - (cK dc fd m).1)) else cY dc fd tx m q
theorem fo_inc {m r n : Nat} {fd : Fnd} (ho : FO m r n fd) {i : Nat} : ∀ j, i < j → j < m → (fd i).2.1 + (fd i).2.2.1 ≤ (fd j).2.1 := by
  intro j
  induction j with
  | zero => intro h; omega
  | succ j ih =>
    intro h1 h2
    have a := ho.2.2 j (by omega)
    by_cases e : i = j
    · subst e; exact a
    · have := ih (by omega) (by omega); omega
theorem cK_le {dc : Nat → Int} {m r n : Nat} {fd : Fnd} (ho : FO m r n fd) : ∀ j, j ≤ m → (cK dc fd j).1 ≤ (cK dc fd j).2 ∧ (cK dc fd j).2 ≤ n ∧ (∀ k, j ≤ k → k < m → (cK dc fd j).2 ≤ (fd k).2.1) ∧ ∀ k, k < j → dc (fd k).1 = 99 → (fd k).2.1 < (cK dc fd j).2 := by
  intro j
  induction j with
  | zero => intro _; exact ⟨Nat.le_refl _, Nat.zero_le _, fun k _ _ => Nat.zero_le _, fun k hk => absurd hk (Nat.not_lt_zero k)⟩
  | succ j ih =>
    intro hj
    obtain ⟨a1, a2, a3, a4⟩ := ih (by omega)
    have o := ho.2.1 j (by omega)
    have a3' := a3 j (Nat.le_refl _) (by omega)
    by_cases c : dc (fd j).1 = 99
    · rw [cK_t c]
      refine ⟨?_, o.2.2.1, fun k h1 h2 => fo_inc ho k (by omega) h2, fun k h1 h2 => ?_⟩
      · show (cK dc fd j).1 + ((fd j).2.1 - (cK dc fd j).2) + 1 ≤ (fd j).2.1 + (fd j).2.2.1
        omega
      · show (fd k).2.1 < (fd j).2.1 + (fd j).2.2.1
        by_cases e : k = j
        · subst e; omega
        · have := a4 k (by omega) h2; omega
    · rw [cK_f c]
      refine ⟨a1, a2, fun k h1 h2 => a3 k (by omega) h2, fun k h1 h2 => ?_⟩
      by_cases e : k = j
      · subst e; exact absurd h2 c
      · exact a4 k (by omega) h2
theorem cN_le {dc : Nat → Int} {m r n : Nat} {fd : Fnd} (ho : FO m r n fd) : cN dc fd m n ≤ n := by
  have := cK_le (dc := dc) ho m (Nat.le_refl _)
  unfold cN
  omega
theorem cY_sg {dc : Nat → Int} {m r n : Nat} {fd : Fnd} {tx : Nat → Nat} (ho : FO m r n fd) (ht : ∀ i, i < n → isSg (tx i : Int)) : ∀ j, j ≤ m → ∀ q, q < (cK dc fd j).1 → isSg (cY dc fd tx j q : Int) := by
  intro j
  induction j with
  | zero => intro _ q hq; exact absurd hq (Nat.not_lt_zero q)
  | succ j ih =>
    intro hj q hq
    have o := ho.2.1 j (by omega)
    obtain ⟨a1, a2, a3, a4⟩ := cK_le (dc := dc) ho j (by omega)
    have a3' := a3 j (Nat.le_refl _) (by omega)
    by_cases c : dc (fd j).1 = 99
    · rw [cK_t c] at hq
      have hq : q < (cK dc fd j).1 + ((fd j).2.1 - (cK dc fd j).2) + 1 := hq
      rw [cY_t c]
      by_cases c1 : q = (cK dc fd j).1 + ((fd j).2.1 - (cK dc fd j).2)
      · rw [if_pos c1]
        unfold isSg isWd
        omega
      · rw [if_neg c1]
        by_cases c2 : (cK dc fd j).1 ≤ q
        · rw [if_pos c2]
          exact ht _ (by omega)
        · rw [if_neg c2]
          exact ih (by omega) q (by omega)
    · rw [cK_f c] at hq
      rw [cY_f c]
      exact ih (by omega) q hq
theorem cT_sg {dc : Nat → Int} {m r n : Nat} {fd : Fnd} {tx : Nat → Nat} (ho : FO m r n fd) (ht : ∀ i, i < n → isSg (tx i : Int)) : ∀ q, q < cN dc fd m n → isSg (cT dc fd tx m q : Int) := fun q hq => by
  have a := cK_le (dc := dc) ho m (Nat.le_refl _)
  unfold cN at hq
  unfold cT
  by_cases c : (cK dc fd m).1 ≤ q
  · rw [if_pos c]
    exact ht _ (by omega)
  · rw [if_neg c]
    exact cY_sg ho ht m (Nat.le_refl _) q (by omega)
set_option maxRecDepth 100000 in
theorem nar_ch : ∀ c : Nat, c < 256 → vp_nar .char (iI (c : Int)) = iI (c : Int) := by decide +kernel
theorem sg_lt {c : Nat} (h : isSg (c : Int)) : c < 128 := by unfold isSg isWd at h; omega
section PR
variable {F : Nat} {G1 G3 G4 G5 G13 G29 G30 G32 : Grp} {v sp S cnt r m n : Nat} {gl rt tx : Nat → Nat} {dc : Nat → Int} {fd : Fnd}
/-- a stretch of the text, moved to the front -/
theorem keep_text {t K a e Le : Nat} (hL : G3.2.2 (t + 3) 0 = some Le) (h1 : K ≤ a) (h2 : a ≤ e) (h3 : e ≤ Le) (h4 : Le ≤ 160) (hx : ∀ q, a ≤ q → q < e → G3.1 (t + 3) q = iI (tx q) ∧ tx q < 256) (hF : 200000 ≤ F) : ∃ G3', f_X4_keep F G3 t (iI K) (iI a) (iI e) = some (iI ((K + (e - a) : Nat) : Int), G3') ∧ G3'.2 = G3.2 ∧ (∀ c q, c ≠ t + 3 → G3'.1 c q = G3.1 c q) ∧ ∀ q, G3'.1 (t + 3) q = if K ≤ q ∧ q < K + (e - a) then iI (tx (a + (q - K))) else G3.1 (t + 3) q := by
  have key := up_ind (n := e - a) (Q := fun fu i => ∀ G : Grp, G.2 = G3.2 → (∀ c q, c ≠ t + 3 → G.1 c q = G3.1 c q) → (∀ q, G.1 (t + 3) q = if K ≤ q ∧ q < K + i then iI (tx (a + (q - K))) else G3.1 (t + 3) q) → ∃ G3', f_X4_keep_l6 F fu G t (iI e) (iI ((K : Int) + i)) (iI ((a : Int) + i)) = some (iI ((K + (e - a) : Nat) : Int), G3') ∧ G3'.2 = G3.2 ∧ (∀ c q, c ≠ t + 3 → G3'.1 c q = G3.1 c q) ∧ ∀ q, G3'.1 (t + 3) q = if K ≤ q ∧ q < K + (e - a) then iI (tx (a + (q - K))) else G3.1 (t + 3) q) ?_ ?_
  · have k0 := key 0 F (by omega) (by omega) G3 rfl (fun _ _ _ => rfl) (fun q => by rw [if_neg (by omega)])
    have z1 : (K : Int) + ((0 : Nat) : Int) = K := by omega
    have z2 : (a : Int) + ((0 : Nat) : Int) = a := by omega
    rw [z1, z2] at k0
    exact k0
  · intro fu G g1 g2 g3
    refine ⟨G, ?_, g1, g2, g3⟩
    have z1 : (K : Int) + ((e - a : Nat) : Int) = ((K + (e - a) : Nat) : Int) := by omega
    have z2 : (a : Int) + ((e - a : Nat) : Int) = (e : Int) := by omega
    have ee : (e : Int) ≤ e := Int.le_refl _
    rw [z1, z2]
    show f_X4_keep_l6b F (f_X4_keep_l6 F fu) G t _ _ _ = _
    simp (disch := omega) only [reduceIte, Nat.reduceEqDiff, Nat.reduceAdd, Nat.reduceSub, Nat.reduceMul, Nat.reduceLT, Int.reduceNeg, Int.reduceAdd, Int.reduceSub, Int.reduceMul, Int.reduceLT, Int.reduceLE, Int.reduceEq, Int.reduceToNat, reduceCtorEq, and_self, and_true, true_and, false_and, and_false, or_false, false_or, or_true, true_or, true_implies, false_implies, implies_true, not_true_eq_false, not_false_eq_true, Int.toNat_natCast, Int.cast_ofNat_Int, eq_self, ne_eq, ite_true, ite_false, if_true, if_false, Int.add_sub_cancel, Int.sub_add_cancel, Int.add_zero, Int.zero_add, cast_s, iI_in, iI_lit, iI_le, iI_lt, iI_eq, iI_cl, iI_add, iI_sub, iI_mul, iI_neg, iI_nI, ok_s, ok_ck, ok_bn, ok_ob, ck_iI, bn_eq, ob_s, om_n, om_s, cb_bI, gI_g, gI_2, gJ_1, gJ_g, gJ_2, gR_1, gR_2, gR_g, within_v, in_v, bI_i0, bI_i1, iI_bI0, iI_bI1, bI_T, bI_F, f_X4_keep_l6b, ee]
  · intro i fu hi ih G g1 g2 g3
    have ei : ¬ (e : Int) ≤ (a : Int) + i := by omega
    have gl : G.2.2 (t + 3) 0 = some Le := by rw [g1]; exact hL
    obtain ⟨x1, x2⟩ := hx (a + i) (by omega) (by omega)
    have rd := g3 (a + i)
    rw [if_neg (by omega), x1] at rd
    have nc := nar_ch (tx (a + i)) x2
    have e1 : ((a : Int) + (i : Int)).toNat = a + i := by omega
    have e2 : ((K : Int) + (i : Int)).toNat = K + i := by omega
    obtain ⟨G3', r1, r2⟩ := ih (gI G (t + 3) (K + i) (iI (tx (a + i)))) g1 (fun c q hc => by
      rw [gI_g, if_neg (fun z => hc z.1)]; exact g2 c q hc) (fun q => by
      rw [gI_g]
      by_cases c : q = K + i
      · rw [if_pos ⟨rfl, c⟩, if_pos (by omega), show a + (q - K) = a + i by omega]
      · rw [if_neg (fun z => c z.2), g3 q]
        by_cases c2 : K ≤ q ∧ q < K + i
        · rw [if_pos c2, if_pos (by omega)]
        · rw [if_neg c2, if_neg (by omega)])
    refine ⟨G3', ?_, r2⟩
    have z1 : (K : Int) + ((i + 1 : Nat) : Int) = (K : Int) + i + 1 := by omega
    have z2 : (a : Int) + ((i + 1 : Nat) : Int) = (a : Int) + i + 1 := by omega
    rw [z1, z2] at r1
    show f_X4_keep_l6b F (f_X4_keep_l6 F fu) G t _ _ _ = _
    simp (disch := omega) only [reduceIte, Nat.reduceEqDiff, Nat.reduceAdd, Nat.reduceSub, Nat.reduceMul, Nat.reduceLT, Int.reduceNeg, Int.reduceAdd, Int.reduceSub, Int.reduceMul, Int.reduceLT, Int.reduceLE, Int.reduceEq, Int.reduceToNat, reduceCtorEq, and_self, and_true, true_and, false_and, and_false, or_false, false_or, or_true, true_or, true_implies, false_implies, implies_true, not_true_eq_false, not_false_eq_true, Int.toNat_natCast, Int.cast_ofNat_Int, eq_self, ne_eq, ite_true, ite_false, if_true, if_false, Int.add_sub_cancel, Int.sub_add_cancel, Int.add_zero, Int.zero_add, cast_s, iI_in, iI_lit, iI_le, iI_lt, iI_eq, iI_cl, iI_add, iI_sub, iI_mul, iI_neg, iI_nI, ok_s, ok_ck, ok_bn, ok_ob, ck_iI, bn_eq, ob_s, om_n, om_s, cb_bI, gI_g, gI_2, gJ_1, gJ_g, gJ_2, gR_1, gR_2, gR_g, within_v, in_v, bI_i0, bI_i1, iI_bI0, iI_bI1, bI_T, bI_F, f_X4_keep_l6b, ei, gl, Option.getD_some, e1, e2, rd, nc]
    exact r1
theorem cut_c (h : RRul G1 G4 G29 v sp S cnt r gl rt dc) (hc : FA G5 51 0 52 m fd) (ho : FO m r n fd) {t Le : Nat} {c0 : Int} (hn : n ≤ Le) (hL : G3.2.2 (t + 3) 0 = some Le) (h4 : Le ≤ 160) (hx : ∀ q, q < n → G3.1 (t + 3) q = iI (tx q) ∧ isSg (tx q : Int)) (h6 : G13.1 t 6 = iI n) (h7 : G13.1 t 7 = iI c0) (hF : 200000 ≤ F) : ∃ G3' G13', f_X4_cut F G3 G4 G5 G13 t v 51 = some (G3', G13') ∧ G3'.2 = G3.2 ∧ (∀ c q, c ≠ t + 3 → G3'.1 c q = G3.1 c q) ∧ (∀ q, q < cN dc fd m n → G3'.1 (t + 3) q = iI (cT dc fd tx m q)) ∧ G13'.2 = G13.2 ∧ (∀ a k, ¬ (a = t ∧ (k = 6 ∨ k = 7)) → G13'.1 a k = G13.1 a k) ∧ G13'.1 t 6 = iI (cN dc fd m n) ∧ G13'.1 t 7 = iI ((c0 : Int) + cC dc fd m) := by
  obtain ⟨a0, a1⟩ := id hc
  obtain ⟨o0, o1, o2⟩ := id ho
  have r12 := h.2.2.2.2.2.2.2.2.2.2.2.2.2
  have key := up_ind (n := m) (Q := fun fu j => ∀ G3' G13' : Grp, G3'.2 = G3.2 → (∀ c q, c ≠ t + 3 → G3'.1 c q = G3.1 c q) → (∀ q, q < (cK dc fd j).1 → G3'.1 (t + 3) q = iI (cY dc fd tx j q)) → (∀ q, (cK dc fd j).2 ≤ q → q < n → G3'.1 (t + 3) q = iI (tx q)) → G13'.2 = G13.2 → (∀ a k, ¬ (a = t ∧ (k = 6 ∨ k = 7)) → G13'.1 a k = G13.1 a k) → G13'.1 t 6 = iI n → G13'.1 t 7 = iI ((c0 : Int) + cC dc fd j) → ∃ G3'' G13'', f_X4_cut_l8 F fu G3' G4 G5 G13' t v 51 (iI ((cK dc fd j).1 : Int)) (iI ((cK dc fd j).2 : Int)) (iI j) = some (G3'', G13'') ∧ G3''.2 = G3.2 ∧ (∀ c q, c ≠ t + 3 → G3''.1 c q = G3.1 c q) ∧ (∀ q, q < cN dc fd m n → G3''.1 (t + 3) q = iI (cT dc fd tx m q)) ∧ G13''.2 = G13.2 ∧ (∀ a k, ¬ (a = t ∧ (k = 6 ∨ k = 7)) → G13''.1 a k = G13.1 a k) ∧ G13''.1 t 6 = iI (cN dc fd m n) ∧ G13''.1 t 7 = iI ((c0 : Int) + cC dc fd m)) ?_ ?_
  · exact key 0 F (by omega) (by omega) G3 G13 rfl (fun _ _ _ => rfl) (fun q hq => absurd hq (Nat.not_lt_zero q)) (fun q _ hq => (hx q hq).1) rfl (fun _ _ _ => rfl) h6 (by rw [h7]; show iI c0 = iI (c0 + ((0 : Nat) : Int)); rw [show c0 + ((0 : Nat) : Int) = c0 by omega])
  · intro fu G3' G13' g1 g2 g3 g4 k1 k2 k3 k4
    obtain ⟨b1, b2, b3, b4⟩ := cK_le (dc := dc) ho m (Nat.le_refl _)
    obtain ⟨G3'', q1, q2, q3, q4⟩ := keep_text (F := F) (G3 := G3') (t := t) (K := (cK dc fd m).1) (a := (cK dc fd m).2) (e := n) (Le := Le) (tx := tx) (by rw [g1]; exact hL) b1 b2 hn h4 (fun q w1 w2 => ⟨g4 q w1 w2, by have := sg_lt (hx q w2).2; omega⟩) hF
    have e : (m : Int) ≤ m := Int.le_refl _
    refine ⟨G3'', gI G13' t 6 (iI ((cN dc fd m n : Nat) : Int)), ?_, q2.trans g1, fun c q w => (q3 c q w).trans (g2 c q w), fun q hq => ?_, k1, fun a k w => ?_, ?_, ?_⟩
    · show f_X4_cut_l8b F (f_X4_cut_l8 F fu) G3' G4 G5 G13' t v 51 _ _ _ = _
      have q1 : f_X4_keep F G3' t (iI ((cK dc fd m).1 : Int)) (iI ((cK dc fd m).2 : Int)) (iI n) = some (iI ((cN dc fd m n : Nat) : Int), G3'') := q1
      simp (disch := omega) only [reduceIte, Nat.reduceEqDiff, Nat.reduceAdd, Nat.reduceSub, Nat.reduceMul, Nat.reduceLT, Int.reduceNeg, Int.reduceAdd, Int.reduceSub, Int.reduceMul, Int.reduceLT, Int.reduceLE, Int.reduceEq, Int.reduceToNat, reduceCtorEq, and_self, and_true, true_and, false_and, and_false, or_false, false_or, or_true, true_or, true_implies, false_implies, implies_true, not_true_eq_false, not_false_eq_true, Int.toNat_natCast, Int.cast_ofNat_Int, eq_self, ne_eq, ite_true, ite_false, if_true, if_false, Int.add_sub_cancel, Int.sub_add_cancel, Int.add_zero, Int.zero_add, cast_s, iI_in, iI_lit, iI_le, iI_lt, iI_eq, iI_cl, iI_add, iI_sub, iI_mul, iI_neg, iI_nI, ok_s, ok_ck, ok_bn, ok_ob, ck_iI, bn_eq, ob_s, om_n, om_s, cb_bI, gI_g, gI_2, gJ_1, gJ_g, gJ_2, gR_1, gR_2, gR_g, within_v, in_v, bI_i0, bI_i1, iI_bI0, iI_bI1, bI_T, bI_F, f_X4_cut_l8b, a0, e, k3, q1]
    · rw [q4 q]
      unfold cN at hq
      unfold cT
      by_cases c : (cK dc fd m).1 ≤ q
      · rw [if_pos ⟨c, hq⟩, if_pos c]
      · rw [if_neg (fun z => c z.1), if_neg c]
        exact g3 q (by omega)
    · rw [gI_g, if_neg (fun z => w ⟨z.1, Or.inl z.2⟩)]; exact k2 a k w
    · rw [gI_g, if_pos ⟨rfl, rfl⟩]
    · rw [gI_g, if_neg (by omega)]; exact k4
  · intro j fu hj ih G3' G13' g1 g2 g3 g4 k1 k2 k3 k4
    have e : ¬ (m : Int) ≤ j := by omega
    obtain ⟨u1, u2, u3, u4⟩ := a1 j hj
    simp only [Nat.reduceAdd] at u2 u3 u4
    obtain ⟨oj1, oj2, oj3, oj4⟩ := o1 j hj
    obtain ⟨b1, b2, b3, b4⟩ := cK_le (dc := dc) ho j (by omega)
    have b3' := b3 j (Nat.le_refl _) hj
    have hcc := cC_le (dc := dc) (fd := fd) j
    show ∃ G3'' G13'', f_X4_cut_l8b F (f_X4_cut_l8 F fu) G3' G4 G5 G13' t v 51 _ _ _ = _ ∧ _
    by_cases c : dc (fd j).1 = 99
    · have dd : G4.1 (v + 5) (fd j).1 = iI 99 := by
        rcases doe_x h oj1 with ⟨d1, d2, -⟩ | ⟨k, d1, d2, -, -⟩
        · rw [d2, c]
        · omega
      obtain ⟨Ga, q1, q2, q3, q4⟩ := keep_text (F := F) (G3 := G3') (t := t) (K := (cK dc fd j).1) (a := (cK dc fd j).2) (e := (fd j).2.1) (Le := Le) (tx := tx) (by rw [g1]; exact hL) b1 b3' (by omega) h4 (fun q w1 w2 => ⟨g4 q w1 (by omega), by have := sg_lt (hx q (by omega)).2; omega⟩) hF
      generalize hK : (cK dc fd j).1 + ((fd j).2.1 - (cK dc fd j).2) = K at q1
      have gl : Ga.2.2 (t + 3) 0 = some Le := by rw [q2, g1]; exact hL
      have n120 : vp_nar .char (iI 120) = iI 120 := nar_ch 120 (by omega)
      obtain ⟨G3'', G13'', r1, r2⟩ := ih (gI Ga (t + 3) K (iI 120)) (gI G13' t 7 (iI ((c0 : Int) + cC dc fd j + 1))) (by rw [gI_2]; exact q2.trans g1) (fun a q w => by
        rw [gI_g, if_neg (fun z => w z.1)]; exact (q3 a q w).trans (g2 a q w)) (fun q hq => by
        rw [cK_t c] at hq
        have hq : q < (cK dc fd j).1 + ((fd j).2.1 - (cK dc fd j).2) + 1 := hq
        rw [cY_t c, hK, gI_g]
        by_cases cq : q = K
        · rw [if_pos ⟨rfl, cq⟩, if_pos cq]; rfl
        · rw [if_neg (fun z => cq z.2), if_neg cq, q4 q]
          by_cases c2 : (cK dc fd j).1 ≤ q
          · rw [if_pos ⟨c2, by omega⟩, if_pos c2]
          · rw [if_neg (fun z => c2 z.1), if_neg c2]
            exact g3 q (by omega)) (fun q w1 w2 => by
        rw [cK_t c] at w1
        have w1 : (fd j).2.1 + (fd j).2.2.1 ≤ q := w1
        rw [gI_g, if_neg (by omega), q4 q, if_neg (by omega)]
        exact g4 q (by omega) w2) (by rw [gI_2]; exact k1) (fun a k w => by
        rw [gI_g, if_neg (fun z => w ⟨z.1, Or.inr z.2⟩)]; exact k2 a k w) (by
        rw [gI_g, if_neg (by omega)]; exact k3) (by
        rw [gI_g, if_pos ⟨rfl, rfl⟩, cC_t c]; congr 1; omega)
      refine ⟨G3'', G13'', ?_, r2⟩
      rw [cK_t c] at r1
      have r1 : f_X4_cut_l8 F fu (gI Ga (t + 3) K (iI 120)) G4 G5 (gI G13' t 7 (iI ((c0 : Int) + cC dc fd j + 1))) t v 51 (iI (((cK dc fd j).1 + ((fd j).2.1 - (cK dc fd j).2) + 1 : Nat) : Int)) (iI (((fd j).2.1 + (fd j).2.2.1 : Nat) : Int)) (iI ((j : Int) + 1)) = some (G3'', G13'') := r1
      rw [hK] at r1
      have s1 : ((K + 1 : Nat) : Int) = (K : Int) + 1 := rfl
      have s2 : (((fd j).2.1 + (fd j).2.2.1 : Nat) : Int) = ((fd j).2.1 : Int) + ((fd j).2.2.1 : Int) := by omega
      rw [s1, s2] at r1
      simp (disch := omega) only [reduceIte, Nat.reduceEqDiff, Nat.reduceAdd, Nat.reduceSub, Nat.reduceMul, Nat.reduceLT, Int.reduceNeg, Int.reduceAdd, Int.reduceSub, Int.reduceMul, Int.reduceLT, Int.reduceLE, Int.reduceEq, Int.reduceToNat, reduceCtorEq, and_self, and_true, true_and, false_and, and_false, or_false, false_or, or_true, true_or, true_implies, false_implies, implies_true, not_true_eq_false, not_false_eq_true, Int.toNat_natCast, Int.cast_ofNat_Int, eq_self, ne_eq, ite_true, ite_false, if_true, if_false, Int.add_sub_cancel, Int.sub_add_cancel, Int.add_zero, Int.zero_add, cast_s, iI_in, iI_lit, iI_le, iI_lt, iI_eq, iI_cl, iI_add, iI_sub, iI_mul, iI_neg, iI_nI, ok_s, ok_ck, ok_bn, ok_ob, ck_iI, bn_eq, ob_s, om_n, om_s, cb_bI, gI_g, gI_2, gJ_1, gJ_g, gJ_2, gR_1, gR_2, gR_g, within_v, in_v, bI_i0, bI_i1, iI_bI0, iI_bI1, bI_T, bI_F, f_X4_cut_l8b, a0, e, u1, u2, u3, dd, q1, gl, Option.getD_some, n120, k4]
      exact r1
    · have dd : ¬ G4.1 (v + 5) (fd j).1 = iI 99 := by
        rcases doe_x h oj1 with ⟨d1, d2, -⟩ | ⟨k, d1, d2, d3, -⟩
        · rw [d2, iI_eq (by omega) (by omega) (by omega) (by omega)]; exact c
        · rw [d3, iI_eq (by omega) (by omega) (by omega) (by omega)]; omega
      rw [cK_f c, cY_f c, cC_f c] at ih
      obtain ⟨G3'', G13'', r1, r2⟩ := ih G3' G13' g1 g2 g3 g4 k1 k2 k3 k4
      refine ⟨G3'', G13'', ?_, r2⟩
      simp (disch := omega) only [reduceIte, Nat.reduceEqDiff, Nat.reduceAdd, Nat.reduceSub, Nat.reduceMul, Nat.reduceLT, Int.reduceNeg, Int.reduceAdd, Int.reduceSub, Int.reduceMul, Int.reduceLT, Int.reduceLE, Int.reduceEq, Int.reduceToNat, reduceCtorEq, and_self, and_true, true_and, false_and, and_false, or_false, false_or, or_true, true_or, true_implies, false_implies, implies_true, not_true_eq_false, not_false_eq_true, Int.toNat_natCast, Int.cast_ofNat_Int, eq_self, ne_eq, ite_true, ite_false, if_true, if_false, Int.add_sub_cancel, Int.sub_add_cancel, Int.add_zero, Int.zero_add, cast_s, iI_in, iI_lit, iI_le, iI_lt, iI_eq, iI_cl, iI_add, iI_sub, iI_mul, iI_neg, iI_nI, ok_s, ok_ck, ok_bn, ok_ob, ck_iI, bn_eq, ob_s, om_n, om_s, cb_bI, gI_g, gI_2, gJ_1, gJ_g, gJ_2, gR_1, gR_2, gR_g, within_v, in_v, bI_i0, bI_i1, iI_bI0, iI_bI1, bI_T, bI_F, f_X4_cut_l8b, a0, e, u1, dd]
      exact r1
end PR
