/-! ways: the best of both is one -/
theorem SP_add {R : Nat} {W1 W : Wy → Prop} {g p : Wy → Int} {bg bp bg1 bp1 : Int} {b0 b1 : Wy} (h : SP R W1 g p bg bp b0 bg1 bp1 b1) (w : Wy) (hW : ∀ x, W x ↔ (W1 x ∨ x = w)) (ho : ∀ x, W1 x → leR R x w) : (btr (g w) (p w) bg1 bp1 → SP R W g p bg bp b0 (g w) (p w) w) ∧ (¬ btr (g w) (p w) bg1 bp1 → SP R W g p bg bp b0 bg1 bp1 b1) := by
  constructor
  · intro hb
    exact SP_seq (W2 := fun x => x = w) h (Or.inr ⟨w, rfl, hb, rfl, rfl, fun _ _ => rfl, fun w' hw' => by
      have hw' : w' = w := hw'
      rw [hw']
      exact Or.inr ⟨rfl, rfl, Or.inl fun _ _ => rfl⟩⟩) (fun x y hx hy => by
      have hy : y = w := hy
      rw [hy]
      exact ho x hx) hW
  · intro hb
    exact SP_seq (W2 := fun x => x = w) h (SP_nil fun x hx => by
      have hx : x = w := hx
      rw [hx]
      exact hb) (fun x y hx hy => by
      have hy : y = w := hy
      rw [hy]
      exact ho x hx) hW
/-- the best of W -/
def BST (R : Nat) (W : Wy → Prop) (g p : Wy → Int) (w : Wy) : Prop := W w ∧ ∀ w', W w' → btr (g w) (p w) (g w') (p w') ∨ (g w' = g w ∧ p w' = p w ∧ leR R w w')
theorem SP.best {R : Nat} {W : Wy → Prop} {g p : Wy → Int} {bp bg' bp' : Int} {b b' : Wy} (h : SP R W g p (-1) bp b bg' bp' b') {w0 : Wy} (h0 : W w0) (hg : ∀ w, W w → 0 ≤ g w) : ∃ w, BST R W g p w ∧ bg' = g w ∧ bp' = p w ∧ ∀ i, i < R → b' i = w i := by
  rcases h with ⟨a1, -⟩ | ⟨w, a1, a2, a3, a4, a5, a6⟩
  · have := a1 w0 h0
    have := hg w0 h0
    unfold btr at *
    omega
  · exact ⟨w, ⟨a1, a6⟩, a3, a4, a5⟩
-- codes and their rows
def dg (B : Nat) : Nat → Nat → Wy
  | 0, _ => fun _ => 0
  | R + 1, k => fun i => if i = R then k % B else dg B R (k / B) i
theorem dg_s {B R k i : Nat} : dg B (R + 1) k i = if i = R then k % B else dg B R (k / B) i := rfl
theorem dg_lt {B : Nat} (hB : 0 < B) : ∀ R k i, i < R → dg B R k i < B := by
  intro R
  induction R with
  | zero => intro k i h; omega
  | succ R ih =>
    intro k i h
    rw [dg_s]
    by_cases e : i = R
    · rw [if_pos e]; exact Nat.mod_lt _ hB
    · rw [if_neg e]; exact ih _ i (by omega)
theorem dg_lex {B : Nat} (hB : 0 < B) : ∀ R k k', k < k' → k' < B ^ R → ∃ j, j < R ∧ (∀ i, i < j → dg B R k i = dg B R k' i) ∧ dg B R k j < dg B R k' j := by
  intro R
  induction R with
  | zero =>
    intro k k' h1 h2
    have : B ^ 0 = 1 := Nat.pow_zero B
    omega
  | succ R ih =>
    intro k k' h1 h2
    have q1 : k / B ≤ k' / B := Nat.div_le_div_right (Nat.le_of_lt h1)
    have q2 : k' / B < B ^ R := by
      apply Nat.div_lt_of_lt_mul
      rw [Nat.mul_comm, ← Nat.pow_succ]
      exact h2
    by_cases e : k / B = k' / B
    · refine ⟨R, by omega, fun i hi => ?_, ?_⟩
      · rw [dg_s, dg_s, if_neg (by omega), if_neg (by omega), e]
      · rw [dg_s, dg_s, if_pos rfl, if_pos rfl]
        have d1 := Nat.div_add_mod k B
        have d2 := Nat.div_add_mod k' B
        rw [e] at d1
        omega
    · obtain ⟨j, j1, j2, j3⟩ := ih (k / B) (k' / B) (by omega) q2
      refine ⟨j, by omega, fun i hi => ?_, ?_⟩
      · rw [dg_s, dg_s, if_neg (by omega), if_neg (by omega)]; exact j2 i hi
      · rw [dg_s, dg_s, if_neg (by omega), if_neg (by omega)]; exact j3
theorem dg_all {B : Nat} (hB : 0 < B) : ∀ R (w : Wy), (∀ i, i < R → w i < B) → ∃ k, k < B ^ R ∧ ∀ i, i < R → dg B R k i = w i := by
  intro R
  induction R with
  | zero => intro w _; exact ⟨0, by rw [Nat.pow_zero]; omega, fun i hi => absurd hi (Nat.not_lt_zero i)⟩
  | succ R ih =>
    intro w hw
    obtain ⟨k, k1, k2⟩ := ih w fun i hi => hw i (by omega)
    have hR := hw R (by omega)
    have e1 : (w R + B * k) / B = k := by rw [Nat.add_mul_div_left _ _ hB, Nat.div_eq_of_lt hR, Nat.zero_add]
    have e2 : (w R + B * k) % B = w R := by rw [Nat.add_mul_mod_self_left, Nat.mod_eq_of_lt hR]
    refine ⟨w R + B * k, ?_, fun i hi => ?_⟩
    · have : B * (k + 1) ≤ B * B ^ R := Nat.mul_le_mul_left B k1
      rw [Nat.pow_succ, Nat.mul_comm (B ^ R) B]
      rw [Nat.mul_add, Nat.mul_one] at this
      omega
    · rw [dg_s, e1, e2]
      by_cases e : i = R
      · rw [if_pos e, e]
      · rw [if_neg e]; exact k2 i (by omega)
theorem pow7 {B i : Nat} (hB : B ≤ 7) (hi : i ≤ 6) : B ^ i ≤ 117649 := by
  have h1 : B ^ i ≤ 7 ^ i := Nat.pow_le_pow_left hB i
  have h2 : 7 ^ i ≤ 7 ^ 6 := Nat.pow_le_pow_right (by omega) hi
  have h3 : 7 ^ 6 = 117649 := by decide
  omega
-- from one kind of ways to the other
def phi (T U : Nat) (w : Wy) : Wy := fun i => if w i < T then w i else U
theorem phi_t {T U i : Nat} {w : Wy} (h : w i < T) : phi T U w i = w i := if_pos h
theorem phi_f {T U i : Nat} {w : Wy} (h : ¬ w i < T) : phi T U w i = U := if_neg h
theorem gk_phi {T U R a : Nat} {w : Wy} (hU : T ≤ U) : gk U (phi T U w) a R = gk T w a R := by
  unfold gk
  refine cnt_congr fun i _ => ?_
  by_cases c : w (a + i) < T
  · rw [phi_t c]; omega
  · rw [phi_f c]; omega
theorem ck_phi {T U R a c : Nat} {w : Wy} (hc : c < T) (hU : T ≤ U) : ck' (phi T U w) c a R = ck' w c a R := by
  unfold ck'
  refine cnt_congr fun i _ => ?_
  by_cases h : w (a + i) < T
  · rw [phi_t h]
  · rw [phi_f h]; omega
theorem ck_0 {R a c : Nat} {w : Wy} (h : ∀ i, i < R → ¬ w (a + i) = c) : ck' w c a R = 0 := by
  unfold ck'
  induction R with
  | zero => rfl
  | succ R ih => rw [cnt_f (p := fun i => w (a + i) = c) (h R (by omega))]; exact ih fun i hi => h i (by omega)
theorem leR_phi {T U R : Nat} {w w' : Wy} (hU : T ≤ U) (hw : ∀ i, i < R → w i ≤ T) (hw' : ∀ i, i < R → w' i ≤ T) (h : leR R w w') : leR R (phi T U w) (phi T U w') := by
  rcases h with h | ⟨k, k1, k2, k3⟩
  · refine Or.inl fun i hi => ?_
    unfold phi
    rw [h i hi]
  · refine Or.inr ⟨k, k1, fun i hi => ?_, ?_⟩
    · unfold phi
      rw [k2 i hi]
    · have a1 := hw k k1
      have a2 := hw' k k1
      have c : w k < T := by omega
      rw [phi_t c]
      by_cases c2 : w' k < T
      · rw [phi_t c2]; exact k3
      · rw [phi_f c2]; omega
theorem leR_cg {R : Nat} {w w' v v' : Wy} (h : leR R w w') (h1 : ∀ i, i < R → v i = w i) (h2 : ∀ i, i < R → v' i = w' i) : leR R v v' := by
  rcases h with h | ⟨k, k1, k2, k3⟩
  · exact Or.inl fun i hi => by rw [h1 i hi, h2 i hi]; exact h i hi
  · exact Or.inr ⟨k, k1, fun i hi => by rw [h1 i (by omega), h2 i (by omega)]; exact k2 i hi, by rw [h1 k k1, h2 k k1]; exact k3⟩
section MW
variable {T R : Nat} {al : Nat → Nat → Prop} {P PR : Nat → Nat → Int} {M M6 : Nat → Nat} {y y6 : Wy}
theorem to6 (hT : T ≤ 6) (h1 : ∀ i, i < R → ∀ c, c < 6 → (alP P i c ↔ (c < T ∧ al i c))) (h2 : ∀ i, i < R → ∀ c, c < T → al i c → P i c = PR i c) (h3 : ∀ c, c < T → (∃ i, i < R ∧ al i c) → M6 c = M c) {w : Wy} (hw : cpl T al M y 0 R w) : cpl 6 (alP P) M6 y6 0 R (phi T 6 w) ∧ gk 6 (phi T 6 w) 0 R = gk T w 0 R ∧ pk' 6 P (phi T 6 w) 0 R = pk' T PR w 0 R := by
  obtain ⟨a1, a2, a3⟩ := hw
  refine ⟨⟨fun i hi => absurd hi (Nat.not_lt_zero i), fun i z1 z2 => ?_, fun c hc => ?_⟩, gk_phi hT, ?_⟩
  · have b := a2 i z1 z2
    by_cases c : w i < T
    · rw [phi_t c]
      exact ⟨by omega, fun hc => (h1 i (by omega) _ hc).mpr ⟨c, b.2 c⟩⟩
    · rw [phi_f c]
      exact ⟨Nat.le_refl _, fun hc => absurd hc (Nat.lt_irrefl _)⟩
  · by_cases ct : c < T
    · rw [ck_phi ct hT]
      by_cases ex : ∃ i, i < R ∧ al i c
      · rw [h3 c ct ex]; exact a3 c ct
      · rw [ck_0]
        · exact Nat.zero_le _
        · intro i hi e
          have b := (a2 (0 + i) (by omega) (by omega)).2 (by omega)
          rw [e] at b
          exact ex ⟨0 + i, by omega, b⟩
    · rw [ck_0]
      · exact Nat.zero_le _
      · intro i hi e
        by_cases c2 : w (0 + i) < T
        · rw [phi_t c2] at e; omega
        · rw [phi_f c2] at e; omega
  · unfold pk'
    refine sumI_congr fun i hi => ?_
    by_cases c : w (0 + i) < T
    · rw [phi_t c, if_pos (by omega), if_pos c]
      exact h2 _ (by omega) _ c ((a2 (0 + i) (by omega) (by omega)).2 c)
    · rw [phi_f c, if_neg (by omega), if_neg c]
theorem toT (hT : T ≤ 6) (h1 : ∀ i, i < R → ∀ c, c < 6 → (alP P i c ↔ (c < T ∧ al i c))) (h2 : ∀ i, i < R → ∀ c, c < T → al i c → P i c = PR i c) (h3 : ∀ c, c < T → (∃ i, i < R ∧ al i c) → M6 c = M c) {w : Wy} (hw : cpl 6 (alP P) M6 y6 0 R w) : cpl T al M y 0 R (phi T T w) ∧ gk T (phi T T w) 0 R = gk 6 w 0 R ∧ pk' T PR (phi T T w) 0 R = pk' 6 P w 0 R ∧ ∀ i, i < R → w i < T ∨ w i = 6 := by
  obtain ⟨a1, a2, a3⟩ := hw
  have w6 : ∀ i, i < R → w i < T ∨ w i = 6 := fun i hi => by
    have b := a2 i (by omega) (by omega)
    by_cases c : w i < 6
    · exact Or.inl ((h1 i hi _ c).mp (b.2 c)).1
    · exact Or.inr (by omega)
  refine ⟨⟨fun i hi => absurd hi (Nat.not_lt_zero i), fun i z1 z2 => ?_, fun c hc => ?_⟩, ?_, ?_, w6⟩
  · have b := a2 i z1 z2
    by_cases c : w i < T
    · rw [phi_t c]
      exact ⟨by omega, fun _ => ((h1 i (by omega) _ (by omega)).mp (b.2 (by omega))).2⟩
    · rw [phi_f c]
      exact ⟨Nat.le_refl _, fun hc => absurd hc (Nat.lt_irrefl _)⟩
  · have b := a3 c (by omega)
    rw [ck_phi hc (Nat.le_refl _)]
    by_cases ex : ∃ i, i < R ∧ al i c
    · rw [← h3 c hc ex]; exact b
    · rw [ck_0]
      · exact Nat.zero_le _
      · intro i hi e
        have q := (a2 (0 + i) (by omega) (by omega)).2 (by omega)
        rw [e] at q
        exact ex ⟨0 + i, by omega, ((h1 (0 + i) (by omega) c (by omega)).mp q).2⟩
  · rw [gk_phi (Nat.le_refl _)]
    unfold gk
    refine cnt_congr fun i hi => ?_
    have := w6 (0 + i) (by omega)
    omega
  · unfold pk'
    refine sumI_congr fun i hi => ?_
    have w' := w6 (0 + i) (by omega)
    by_cases c : w (0 + i) < T
    · rw [phi_t c, if_pos c, if_pos (by omega)]
      have b := (a2 (0 + i) (by omega) (by omega)).2 (by omega)
      exact (h2 _ (by omega) _ c ((h1 _ (by omega) _ (by omega)).mp b).2).symm
    · rw [phi_f c, if_neg (by omega), if_neg (by omega)]
theorem match_w (hT : T ≤ 6) (h1 : ∀ i, i < R → ∀ c, c < 6 → (alP P i c ↔ (c < T ∧ al i c))) (h2 : ∀ i, i < R → ∀ c, c < T → al i c → P i c = PR i c) (h3 : ∀ c, c < T → (∃ i, i < R ∧ al i c) → M6 c = M c) {w1 w2 : Wy} (b1 : BST R (cpl 6 (alP P) M6 y6 0 R) (fun w => (gk 6 w 0 R : Int)) (fun w => pk' 6 P w 0 R) w1) (W2 : Wy → Prop) (b2 : BST R W2 (fun w => (gk T w 0 R : Int)) (fun w => pk' T PR w 0 R) w2) (e1 : ∀ w, W2 w → cpl T al M y 0 R w) (e2 : ∀ w, cpl T al M y 0 R w → ∃ w', W2 w' ∧ ∀ i, i < R → w' i = w i) : ∀ i, i < R → (w2 i < T ∧ w1 i = w2 i) ∨ (w2 i = T ∧ w1 i = 6) := by
  obtain ⟨c1, c2⟩ := b1
  obtain ⟨d1, d2⟩ := b2
  have d0 := e1 _ d1
  obtain ⟨f1, f2, f3⟩ := to6 (y6 := y6) hT h1 h2 h3 d0
  obtain ⟨g1, g2, g3, g4⟩ := toT (y := y) hT h1 h2 h3 c1
  obtain ⟨w', k1, k2⟩ := e2 _ g1
  have u := c2 _ f1
  have v := d2 _ k1
  have kg : gk T w' 0 R = gk T (phi T T w1) 0 R := by
    unfold gk
    exact cnt_congr fun i hi => by rw [k2 (0 + i) (by omega)]
  have kp : pk' T PR w' 0 R = pk' T PR (phi T T w1) 0 R := by
    unfold pk'
    exact sumI_congr fun i hi => by rw [k2 (0 + i) (by omega)]
  simp only [kg, kp, g2, g3] at v
  simp only [f2, f3] at u
  have wT : ∀ i, i < R → w2 i ≤ T := fun i hi => (d0.2.1 i (by omega) (by omega)).1
  have key : leR R w1 (phi T 6 w2) ∧ leR R w2 w' := by
    unfold btr at u v
    rcases u with u | ⟨u1, u2, u3⟩
    · rcases v with v | ⟨v1, v2, v3⟩
      · omega
      · omega
    · rcases v with v | ⟨v1, v2, v3⟩
      · omega
      · exact ⟨u3, v3⟩
  have lb : leR R (phi T 6 w2) (phi T 6 w') := leR_phi hT wT (fun i hi => by
    rw [k2 i hi]
    exact (g1.2.1 i (by omega) (by omega)).1) key.2
  have eq := leR_anti key.1 (leR_cg lb (fun _ _ => rfl) (fun i hi => by
    have q := g4 i hi
    by_cases c : w1 i < T
    · have : w' i = w1 i := by rw [k2 i hi, phi_t c]
      rw [phi_t (by omega), this]
    · have : w' i = T := by rw [k2 i hi, phi_f c]
      rw [phi_f (by omega)]
      omega))
  intro i hi
  have q := eq i hi
  by_cases c : w2 i < T
  · rw [phi_t c] at q
    exact Or.inl ⟨c, q⟩
  · rw [phi_f c] at q
    have := wT i hi
    exact Or.inr ⟨by omega, q⟩
end MW
section PR
variable {F v R : Nat} {Mx : Int} {P : Nat → Nat → Int}
theorem clear_c (hR : R ≤ 6) (hF : 200000 ≤ F) (G : Grp) : ∃ G', f_X0_clear F G v (iI R) = some G' ∧ AL G' v R 0 (fun _ => 0) (fun _ _ => -1) ∧ OT v G G' := by
  have e1 : (if 0 < (if 6 < iI R then 6 else iI R) then (if 6 < iI R then 6 else iI R) else 0) = iI R := by
    have n1 : ¬ 6 < iI (R : Int) := by
      rw [show (6 : Int32) = iI 6 from rfl, iI_lt (by omega) (by omega) (by omega) (by omega)]
      omega
    rw [if_neg n1]
    by_cases c : R = 0
    · subst c; rfl
    · rw [if_pos]
      rw [show (0 : Int32) = iI 0 from rfl, iI_lt (by omega) (by omega) (by omega) (by omega)]
      omega
  -- points
  have pts := up_ind (n := 36) (Q := fun fu k => ∀ G : Grp, G.1 v 2 = iI R → G.1 v 5 = iI 0 → (∀ c, c < 6 → G.1 (v + 1) c = iI 0) → (∀ q, q < k → G.1 (v + 3) q = iI (-1)) → ∃ G', f_X0_clear_l42 F fu G v (iI k) = some G' ∧ AL G' v R 0 (fun _ => 0) (fun _ _ => -1) ∧ OT v G G') ?_ ?_
  · have rms := up_ind (n := 6) (Q := fun fu k => ∀ G : Grp, G.1 v 2 = iI R → G.1 v 5 = iI 0 → (∀ c, c < k → G.1 (v + 1) c = iI 0) → ∃ G', f_X0_clear_l21 F fu G v (iI k) = some G' ∧ AL G' v R 0 (fun _ => 0) (fun _ _ => -1) ∧ OT v G G') ?_ ?_
    · obtain ⟨G', g1, g2, g3⟩ := rms 0 F (by omega) (by omega) (gI (gI G v 2 (iI R)) v 5 (iI 0)) (by rw [gI_g, if_neg (by omega), gI_g, if_pos ⟨rfl, rfl⟩]) (by rw [gI_g, if_pos ⟨rfl, rfl⟩]) (fun c hc => absurd hc (Nat.not_lt_zero c))
      refine ⟨G', ?_, g2, ((OT.set G 2 _ (by omega) (by omega)).tr (OT.set _ 5 _ (by omega) (by omega))).tr g3⟩
      unfold f_X0_clear
      rw [e1]
      exact g1
    · intro fu G a1 a2 a3
      obtain ⟨G', g1, g2, g3⟩ := pts 0 F (by omega) (by omega) G a1 a2 a3 (fun q hq => absurd hq (Nat.not_lt_zero q))
      refine ⟨G', ?_, g2, g3⟩
      have g1 : f_X0_clear_l42 F F G v (iI 0) = some G' := g1
      have e : (6 : Int) ≤ ((6 : Nat) : Int) := by omega
      show f_X0_clear_l21b F (f_X0_clear_l21 F fu) G v _ = _
      simp (disch := omega) only [reduceIte, Nat.reduceEqDiff, Nat.reduceAdd, Nat.reduceSub, Nat.reduceMul, Nat.reduceLT, Int.reduceNeg, Int.reduceAdd, Int.reduceSub, Int.reduceMul, Int.reduceLT, Int.reduceLE, Int.reduceEq, Int.reduceToNat, reduceCtorEq, and_self, and_true, true_and, false_and, and_false, or_false, false_or, or_true, true_or, true_implies, false_implies, implies_true, not_true_eq_false, not_false_eq_true, Int.toNat_natCast, Int.cast_ofNat_Int, eq_self, ne_eq, ite_true, ite_false, if_true, if_false, Int.add_sub_cancel, Int.sub_add_cancel, Int.add_zero, Int.zero_add, cast_s, iI_in, iI_lit, iI_le, iI_lt, iI_eq, iI_cl, iI_add, iI_sub, iI_mul, iI_neg, iI_nI, ok_s, ok_ck, ok_bn, ok_ob, ck_iI, bn_eq, ob_s, om_n, om_s, cb_bI, gI_g, gI_2, gJ_1, gJ_g, gJ_2, gR_1, gR_2, gR_g, within_v, in_v, bI_i0, bI_i1, iI_bI0, iI_bI1, bI_T, bI_F, f_X0_clear_l21b, e, g1]
    · intro k fu hk ih G a1 a2 a3
      have e : ¬ (6 : Int) ≤ k := by omega
      obtain ⟨G', g1, g2, g3⟩ := ih (gI G (v + 1) k (iI 0)) (by rw [gI_g, if_neg (by omega)]; exact a1) (by rw [gI_g, if_neg (by omega)]; exact a2) (fun c hc => by
        rw [gI_g]
        by_cases ec : c = k
        · rw [if_pos ⟨rfl, ec⟩]
        · rw [if_neg (fun z => ec z.2)]; exact a3 c (by omega))
      refine ⟨G', ?_, g2, (OT.set G k _ (by omega) (by omega)).tr g3⟩
      show f_X0_clear_l21b F (f_X0_clear_l21 F fu) G v _ = _
      simp (disch := omega) only [reduceIte, Nat.reduceEqDiff, Nat.reduceAdd, Nat.reduceSub, Nat.reduceMul, Nat.reduceLT, Int.reduceNeg, Int.reduceAdd, Int.reduceSub, Int.reduceMul, Int.reduceLT, Int.reduceLE, Int.reduceEq, Int.reduceToNat, reduceCtorEq, and_self, and_true, true_and, false_and, and_false, or_false, false_or, or_true, true_or, true_implies, false_implies, implies_true, not_true_eq_false, not_false_eq_true, Int.toNat_natCast, Int.cast_ofNat_Int, eq_self, ne_eq, ite_true, ite_false, if_true, if_false, Int.add_sub_cancel, Int.sub_add_cancel, Int.add_zero, Int.zero_add, cast_s, iI_in, iI_lit, iI_le, iI_lt, iI_eq, iI_cl, iI_add, iI_sub, iI_mul, iI_neg, iI_nI, ok_s, ok_ck, ok_bn, ok_ob, ck_iI, bn_eq, ob_s, om_n, om_s, cb_bI, gI_g, gI_2, gJ_1, gJ_g, gJ_2, gR_1, gR_2, gR_g, within_v, in_v, bI_i0, bI_i1, iI_bI0, iI_bI1, bI_T, bI_F, f_X0_clear_l21b, e]
      exact g1
  · intro fu G a1 a2 a3 a4
    have e : (36 : Int) ≤ ((36 : Nat) : Int) := by omega
    refine ⟨G, ?_, ⟨a1, a2, fun c hc => a3 c hc, fun i c hi hc => a4 _ (by omega)⟩, rfl, fun _ _ _ => rfl⟩
    show f_X0_clear_l42b F (f_X0_clear_l42 F fu) G v _ = _
    simp (disch := omega) only [reduceIte, Nat.reduceEqDiff, Nat.reduceAdd, Nat.reduceSub, Nat.reduceMul, Nat.reduceLT, Int.reduceNeg, Int.reduceAdd, Int.reduceSub, Int.reduceMul, Int.reduceLT, Int.reduceLE, Int.reduceEq, Int.reduceToNat, reduceCtorEq, and_self, and_true, true_and, false_and, and_false, or_false, false_or, or_true, true_or, true_implies, false_implies, implies_true, not_true_eq_false, not_false_eq_true, Int.toNat_natCast, Int.cast_ofNat_Int, eq_self, ne_eq, ite_true, ite_false, if_true, if_false, Int.add_sub_cancel, Int.sub_add_cancel, Int.add_zero, Int.zero_add, cast_s, iI_in, iI_lit, iI_le, iI_lt, iI_eq, iI_cl, iI_add, iI_sub, iI_mul, iI_neg, iI_nI, ok_s, ok_ck, ok_bn, ok_ob, ck_iI, bn_eq, ob_s, om_n, om_s, cb_bI, gI_g, gI_2, gJ_1, gJ_g, gJ_2, gR_1, gR_2, gR_g, within_v, in_v, bI_i0, bI_i1, iI_bI0, iI_bI1, bI_T, bI_F, f_X0_clear_l42b, e]
  · intro k fu hk ih G a1 a2 a3 a4
    have e : ¬ (36 : Int) ≤ k := by omega
    obtain ⟨G', g1, g2, g3⟩ := ih (gI G (v + 3) k (iI (-1))) (by rw [gI_g, if_neg (by omega)]; exact a1) (by rw [gI_g, if_neg (by omega)]; exact a2) (fun c hc => by rw [gI_g, if_neg (by omega)]; exact a3 c hc) (fun q hq => by
      rw [gI_g]
      by_cases ec : q = k
      · rw [if_pos ⟨rfl, ec⟩]
      · rw [if_neg (fun z => ec z.2)]; exact a4 q (by omega))
    refine ⟨G', ?_, g2, (OT.set G k _ (by omega) (by omega)).tr g3⟩
    show f_X0_clear_l42b F (f_X0_clear_l42 F fu) G v _ = _
    simp (disch := omega) only [reduceIte, Nat.reduceEqDiff, Nat.reduceAdd, Nat.reduceSub, Nat.reduceMul, Nat.reduceLT, Int.reduceNeg, Int.reduceAdd, Int.reduceSub, Int.reduceMul, Int.reduceLT, Int.reduceLE, Int.reduceEq, Int.reduceToNat, reduceCtorEq, and_self, and_true, true_and, false_and, and_false, or_false, false_or, or_true, true_or, true_implies, false_implies, implies_true, not_true_eq_false, not_false_eq_true, Int.toNat_natCast, Int.cast_ofNat_Int, eq_self, ne_eq, ite_true, ite_false, if_true, if_false, Int.add_sub_cancel, Int.sub_add_cancel, Int.add_zero, Int.zero_add, cast_s, iI_in, iI_lit, iI_le, iI_lt, iI_eq, iI_cl, iI_add, iI_sub, iI_mul, iI_neg, iI_nI, ok_s, ok_ck, ok_bn, ok_ob, ck_iI, bn_eq, ob_s, om_n, om_s, cb_bI, gI_g, gI_2, gJ_1, gJ_g, gJ_2, gR_1, gR_2, gR_g, within_v, in_v, bI_i0, bI_i1, iI_bI0, iI_bI1, bI_T, bI_F, f_X0_clear_l42b, e]
    exact g1
def upP2 (P : Nat → Nat → Int) (i c : Nat) (x : Int) : Nat → Nat → Int := fun j e => if j = i ∧ e = c then x else P j e
theorem allow_c {G : Grp} {RM : Nat → Nat} (h : AL G v R Mx RM P) {i c : Nat} {x : Int} (hi : i < 6) (hc : c < 6) (hx : 0 ≤ x ∧ x ≤ 10) (hM : 0 ≤ Mx ∧ Mx ≤ 10) : ∃ G' Mx', f_X0_allow F G v (iI i) (iI c) (iI x) = some G' ∧ AL G' v R Mx' RM (upP2 P i c x) ∧ OT v G G' ∧ Mx ≤ Mx' ∧ x ≤ Mx' ∧ Mx' ≤ 10 := by
  obtain ⟨a1, a2, a3, a4⟩ := h
  have e1 : (6 * (i : Int) + (c : Int)).toNat = 6 * i + c := by omega
  refine ⟨gI (gI G (v + 3) (6 * i + c) (iI x)) v 5 (iI (if Mx < x then x else Mx)), if Mx < x then x else Mx, ?_, ⟨?_, ?_, fun k hk => ?_, fun j k hj hk => ?_⟩, (OT.set G _ _ (by omega) (by omega)).tr (OT.set _ 5 _ (by omega) (by omega)), ?_⟩
  · by_cases cm : Mx < x
    · rw [if_pos cm]
      simp (disch := omega) only [reduceIte, Nat.reduceEqDiff, Nat.reduceAdd, Nat.reduceSub, Nat.reduceMul, Nat.reduceLT, Int.reduceNeg, Int.reduceAdd, Int.reduceSub, Int.reduceMul, Int.reduceLT, Int.reduceLE, Int.reduceEq, Int.reduceToNat, reduceCtorEq, and_self, and_true, true_and, false_and, and_false, or_false, false_or, or_true, true_or, true_implies, false_implies, implies_true, not_true_eq_false, not_false_eq_true, Int.toNat_natCast, Int.cast_ofNat_Int, eq_self, ne_eq, ite_true, ite_false, if_true, if_false, Int.add_sub_cancel, Int.sub_add_cancel, Int.add_zero, Int.zero_add, cast_s, iI_in, iI_lit, iI_le, iI_lt, iI_eq, iI_cl, iI_add, iI_sub, iI_mul, iI_neg, iI_nI, ok_s, ok_ck, ok_bn, ok_ob, ck_iI, bn_eq, ob_s, om_n, om_s, cb_bI, gI_g, gI_2, gJ_1, gJ_g, gJ_2, gR_1, gR_2, gR_g, within_v, in_v, bI_i0, bI_i1, iI_bI0, iI_bI1, bI_T, bI_F, f_X0_allow, e1, va2, a2, cm]
    · rw [if_neg cm]
      simp (disch := omega) only [reduceIte, Nat.reduceEqDiff, Nat.reduceAdd, Nat.reduceSub, Nat.reduceMul, Nat.reduceLT, Int.reduceNeg, Int.reduceAdd, Int.reduceSub, Int.reduceMul, Int.reduceLT, Int.reduceLE, Int.reduceEq, Int.reduceToNat, reduceCtorEq, and_self, and_true, true_and, false_and, and_false, or_false, false_or, or_true, true_or, true_implies, false_implies, implies_true, not_true_eq_false, not_false_eq_true, Int.toNat_natCast, Int.cast_ofNat_Int, eq_self, ne_eq, ite_true, ite_false, if_true, if_false, Int.add_sub_cancel, Int.sub_add_cancel, Int.add_zero, Int.zero_add, cast_s, iI_in, iI_lit, iI_le, iI_lt, iI_eq, iI_cl, iI_add, iI_sub, iI_mul, iI_neg, iI_nI, ok_s, ok_ck, ok_bn, ok_ob, ck_iI, bn_eq, ob_s, om_n, om_s, cb_bI, gI_g, gI_2, gJ_1, gJ_g, gJ_2, gR_1, gR_2, gR_g, within_v, in_v, bI_i0, bI_i1, iI_bI0, iI_bI1, bI_T, bI_F, f_X0_allow, e1, va2, a2, cm]
  · rw [gI_g, if_neg (by omega), gI_g, if_neg (by omega)]; exact a1
  · rw [gI_g, if_pos ⟨rfl, rfl⟩]
  · rw [gI_g, if_neg (by omega), gI_g, if_neg (by omega)]; exact a3 k hk
  · rw [gI_g, if_neg (by omega), gI_g]
    unfold upP2
    by_cases e : j = i ∧ k = c
    · rw [if_pos ⟨rfl, by omega⟩, if_pos e]
    · rw [if_neg (by omega), if_neg e]; exact a4 j k hj hk
  · split
    · omega
    · omega
theorem solve_c {G : Grp} {RM : Nat → Nat} (h : AL G v R Mx RM P) (hR : R ≤ 6) (hM : 0 ≤ Mx ∧ Mx ≤ 10) (hP : ∀ i c, i < 6 → c < 6 → -1 ≤ P i c ∧ P i c ≤ Mx) (hRM : ∀ c, c < 6 → RM c ≤ 6) (hF : 200000 ≤ F) : ∃ G' w, f_X0_solve F G v = some G' ∧ OT v G G' ∧ (∀ i, i < R → G'.1 (v + 2) i = iI (w i)) ∧ BST R (cpl 6 (alP P) RM (fun _ => 6) 0 R) (fun w => (gk 6 w 0 R : Int)) (fun w => pk' 6 P w 0 R) w := by
  have hA : AL (gI (gI G v 6 (iI (-1))) v 7 (iI (-1))) v R Mx RM P := by
    obtain ⟨a1, a2, a3, a4⟩ := h
    refine ⟨?_, ?_, fun c hc => ?_, fun i c hi hc => ?_⟩
    · rw [gI_g, gI_g, if_neg (by omega), if_neg (by omega)]; exact a1
    · rw [gI_g, gI_g, if_neg (by omega), if_neg (by omega)]; exact a2
    · rw [gI_g, gI_g, if_neg (by omega), if_neg (by omega)]; exact a3 c hc
    · rw [gI_g, gI_g, if_neg (by omega), if_neg (by omega)]; exact a4 i c hi hc
  obtain ⟨b0, hb0⟩ : ∃ b0 : Wy, ∀ i, (gI (gI G v 6 (iI (-1))) v 7 (iI (-1))).1 (v + 2) i = iI (b0 i) := by
    refine ⟨fun i => Classical.choose (iI_nat ((gI (gI G v 6 (iI (-1))) v 7 (iI (-1))).1 (v + 2) i)), fun i => ?_⟩
    exact (Classical.choose_spec (iI_nat ((gI (gI G v 6 (iI (-1))) v 7 (iI (-1))).1 (v + 2) i))).2
  have hB : BS (gI (gI G v 6 (iI (-1))) v 7 (iI (-1))) v R (-1) (-1) b0 := ⟨by rw [gI_g, if_neg (by omega), gI_g, if_pos ⟨rfl, rfl⟩], by rw [gI_g, if_pos ⟨rfl, rfl⟩], fun i _ => hb0 i⟩
  obtain ⟨G', g1, bg', bp', b', g2, g3, g4, g5, g6, g7⟩ := dfs (F := F) hR hM hP hF R 8 0 (Nat.zero_add R) (by omega) _ (fun _ => 6) RM 0 0 (-1) (-1) b0 hA hRM (fun i hi => absurd hi (Nat.not_lt_zero i)) hB (by omega) (by omega)
  have g6' := SP_congr (W' := cpl 6 (alP P) RM (fun _ => 6) 0 R) (g' := fun w => (gk 6 w 0 R : Int)) (p' := fun w => pk' 6 P w 0 R) g6 (fun w => Iff.rfl) (fun w _ => ⟨(Int.zero_add _).symm, (Int.zero_add _).symm⟩)
  obtain ⟨w, k1, k2, k3, k4⟩ := g6'.best (w0 := fun _ => 6) ⟨fun _ _ => rfl, fun i _ _ => ⟨Nat.le_refl _, fun h => absurd h (Nat.lt_irrefl _)⟩, fun c hc => by
    rw [ck_0]
    · exact Nat.zero_le _
    · intro i _ e
      have e : 6 = c := e
      omega⟩ (fun w _ => Int.natCast_nonneg _)
  refine ⟨G', w, ?_, ((OT.set G 6 _ (by omega) (by omega)).tr (OT.set _ 7 _ (by omega) (by omega))).tr g7, fun i hi => ?_, k1⟩
  · have m1 : (-1 : Int32) = iI (-1) := by decide +kernel
    unfold f_X0_solve
    rw [bn_eq, bn_eq, m1, ob_idt]
    exact g1
  · rw [g4.2.2 i hi, k4 i hi]
end PR
