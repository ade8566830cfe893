/-! THE TURN: both -/
theorem ite_b {c : Prop} [Decidable c] {a b : Int} (ha : -1 ≤ a) (hb : -1 ≤ b) : -1 ≤ if c then a else b := by
  split
  · exact ha
  · exact hb
theorem ite_l {c : Prop} [Decidable c] {a b n : Nat} (ha : c → a ≤ n) (hb : b ≤ n) : (if c then a else b) ≤ n := by
  split
  · rename_i h
    exact ha h
  · exact hb
section PR
variable {F : Nat} {G1 G2 G3 G4 G5 G6 G7 G8 G9 G10 G11 G12 G13 G14 G15 G16 G17 G23 G24 G25 G26 G29 G30 G31 G32 G33 G34 G35 G36 G37 G38 G41 : Grp} {vn gn cn d n pn ln tn sn wn R : Nat} {tp tl Ln qs bt : Nat → Nat} {kq : Nat → Int} {P L T : Nat → Nat → Int} {X W : Nat → Nat → Nat}
theorem LC.s11 (hc : LC G10 G13 n ln tp tl L) {i : Nat} (hi : i < ln) (x : Int) : LC G10 (gI G13 (tl i) 11 (iI x)) n ln tp tl (stP L i 11 x) := by
  obtain ⟨h0, h1, h2, h3⟩ := id hc
  refine ⟨h0, fun j hj => ?_, h2, fun a ha => ?_⟩
  · obtain ⟨a1, a2, a3, a4⟩ := h1 j hj
    refine ⟨a1, ?_, fun k hk hl => ?_, a4⟩
    · rw [stP_o (Or.inr (by omega))]; exact a2
    · rw [gI_g]
      by_cases e : j = i ∧ k = 11
      · rw [if_pos ⟨by rw [e.1], e.2⟩, e.1, e.2, stP_at]
      · rw [if_neg fun z => e ⟨tl_inj hc hj hi z.1, z.2⟩, stP_o (by omega)]
        exact a3 k hk hl
  · rw [gI_g, if_neg (by omega)]
    exact h3 a ha
theorem LM.s11 (hm : LM G32 ln L) {i : Nat} (hi : i < ln) (x : Int) : LM (gI G32 138 i (iI x)) ln (stP L i 11 x) := by
  obtain ⟨h0, h1, h2⟩ := id hm
  refine ⟨?_, fun j hj k hk => ?_, fun j hj => ?_⟩
  · rw [gI_g, if_neg (by omega)]; exact h0
  · rw [gI_g]
    obtain ⟨-, -, -, -, w, -⟩ := mc_8 hk
    by_cases e : j = i ∧ k = 11
    · rw [if_pos ⟨w.mpr e.2, e.1⟩, e.1, e.2, stP_at]
    · rw [if_neg fun z => e ⟨z.2, w.mp z.1⟩, stP_o (by omega)]
      exact h1 j hj k hk
  · rw [gI_g, if_neg (by omega)]
    exact h2 j hj
theorem LB.s11 (hb : LB pn d ln L) {i : Nat} (x : Int) : LB pn d ln (stP L i 11 x) := by
  refine ⟨hb.1, fun j hj => ?_⟩
  rw [stP_o (j := 0) (Or.inr (by omega)), stP_o (j := 1) (Or.inr (by omega)), stP_o (j := 6) (Or.inr (by omega)), stP_o (j := 8) (Or.inr (by omega)), stP_o (j := 9) (Or.inr (by omega)), stP_o (j := 10) (Or.inr (by omega))]
  exact hb.2 j hj
theorem KP.s11 {i : Nat} {x : Int} : KP ln L (stP L i 11 x) := fun j hj => by
  rw [stP_o (j := 0) (Or.inr (by omega)), stP_o (j := 1) (Or.inr (by omega)), stP_o (j := 8) (Or.inr (by omega)), stP_o (j := 9) (Or.inr (by omega))]
  exact ⟨rfl, rfl, Iff.rfl, Iff.rfl, fun _ => rfl⟩
theorem apply_both (hR : R ≤ 6) (h3 : G37.1 91 76 = iI wn) (h1 : wn ≤ 6) (hd : d < 3600) (h23 : G23.1 91 0 = iI d) (hF : 200000 ≤ F) (hqs : ∀ i, i < R → qs i < ln ∧ G16.2.2 64 i = some (tl (qs i))) (hqr : QR G38 R qs) {w1 w2 : Wy} (hb1 : ∀ i, i < R → G17.1 67 i = iI (w1 i : Nat)) (hb2 : ∀ i, i < R → G38.1 154 i = iI (w2 i : Nat)) (hmw : ∀ i, i < R → (w2 i < wn ∧ w1 i = w2 i) ∨ (w2 i = wn ∧ w1 i = 6)) (hp : RPair G7 G9 G25 gn cn d n pn tp P) (hc : LC G10 G13 n ln tp tl L) (hm : LM G32 ln L) (hb : LB pn d ln L) (h45 : ∀ j, j < R → L (qs j) 8 = 4 ∨ L (qs j) 8 = 5) (hs : RSil pn d ln P L) (hwt : WT sn ln L) : ∃ G9' G13' G25' G32' P' L', f_X9_translate_l99 F F G6 G9 G10 G13 G16 G17 (iI d) (iI R) 0 = some (G9', G13', G16, G17) ∧ f_X12_turns_l191 F F G23 G24 G25 G32 G37 G38 0 = some (G25', G32', G38) ∧ RPair G7 G9' G25' gn cn d n pn tp P' ∧ LC G10 G13' n ln tp tl L' ∧ LM G32' ln L' ∧ LB pn d ln L' ∧ RSil pn d ln P' L' ∧ WT sn ln L' ∧ KX ln L L' G32 G32' := by
  have hl := hb.1
  have key := up_ind (n := R) (Q := fun fu i => ∀ G9 G13 G25 G32 P L, RPair G7 G9 G25 gn cn d n pn tp P → LC G10 G13 n ln tp tl L → LM G32 ln L → LB pn d ln L → (∀ j, j < R → L (qs j) 8 = 4 ∨ L (qs j) 8 = 5) → RSil pn d ln P L → WT sn ln L → ∃ G9' G13' G25' G32' P' L', f_X9_translate_l99 F fu G6 G9 G10 G13 G16 G17 (iI d) (iI R) (iI i) = some (G9', G13', G16, G17) ∧ f_X12_turns_l191 F fu G23 G24 G25 G32 G37 G38 (iI i) = some (G25', G32', G38) ∧ RPair G7 G9' G25' gn cn d n pn tp P' ∧ LC G10 G13' n ln tp tl L' ∧ LM G32' ln L' ∧ LB pn d ln L' ∧ RSil pn d ln P' L' ∧ WT sn ln L' ∧ KX ln L L' G32 G32') ?_ ?_
  · exact key 0 F (by omega) (by omega) G9 G13 G25 G32 P L hp hc hm hb h45 hs hwt
  · intro fu G9 G13 G25 G32 P L hp hc hm hb h45 hs hwt
    refine ⟨G9, G13, G25, G32, P, L, ?_, ?_, hp, hc, hm, hb, hs, hwt, KX.rf⟩
    · show f_X9_translate_l99b F (f_X9_translate_l99 F fu) G6 G9 G10 G13 G16 G17 _ _ _ = _
      unfold f_X9_translate_l99b
      rw [if_p (by rw [iI_le (by omega) (by omega) (by omega) (by omega)]; omega)]
    · show f_X12_turns_l191b F (f_X12_turns_l191 F fu) G23 G24 G25 G32 G37 G38 _ = _
      unfold f_X12_turns_l191b
      rw [hqr.1, if_p (by rw [iI_le (by omega) (by omega) (by omega) (by omega)]; omega)]
  · intro i fu hi ih G9 G13 G25 G32 P L hp hc hm hb h45 hs hwt
    have ci : (iI (i : Int)).toNatClampNeg = i := by rw [iI_cl (by omega) (by omega)]; omega
    have nR : ¬ iI (R : Int) ≤ iI (i : Int) := by rw [iI_le (by omega) (by omega) (by omega) (by omega)]; omega
    have o1 : (1 : Int32) = iI 1 := rfl
    obtain ⟨q1, q2⟩ := hqs i hi
    have q3 := hqr.2 i hi
    rcases hmw i hi with ⟨u1, u2⟩ | ⟨u1, u2⟩
    · have e1 := hb1 i hi
      have e2 := hb2 i hi
      rw [u2] at e1
      generalize w2 i = t at *
      generalize hq : qs i = q at *
      obtain ⟨p1, p2, p3, p4, p5, p6⟩ := hb.2 q q1
      obtain ⟨c0, c0', -⟩ := hc.at q1
      obtain ⟨m0, -⟩ := hm.at q1
      have h8 := h45 i hi
      rw [hq] at h8
      have hpi : (L q 0).toNat < pn := by omega
      have hL0 : L q 0 = ((L q 0).toNat : Nat) := by omega
      rw [hL0] at m0
      generalize (L q 0).toNat = p at hpi hL0 c0' m0
      have hpn := hp.1
      have cp : (iI (p : Int)).toNatClampNeg = p := by rw [iI_cl (by omega) (by omega)]; omega
      have cq : (iI (q : Int)).toNatClampNeg = q := by rw [iI_cl (by omega) (by omega)]; omega
      have hp' : RPair G7 (gI G9 (tp p) 5 (iI (t : Nat))) (gI G25 104 p (iI (t : Nat))) gn cn d n pn tp (stP P p 5 (t : Nat)) := hp.set hpi (by omega) (fun _ => by omega) (fun e => by omega) (by rw [gI_g, if_neg (by omega)]) (fun j _ => by
        rw [gI_g, gI_g, gI_g, gI_g, if_neg (by omega), if_neg (by omega), if_neg (by omega), if_neg (by omega)]
        exact ⟨rfl, rfl, rfl, rfl⟩) (fun j _ => by rw [gI_g, if_neg (by omega), if_neg (by omega)]) (fun j _ => by
        rw [gI_g]
        exact ite_cg ⟨fun z => ⟨z.2, rfl⟩, fun z => ⟨rfl, z.1⟩⟩)
      have hc' := mv_c (hc.s11 q1 (t : Nat)) q1 5 d
      have hm' := mv_m (hm.s11 q1 (t : Nat)) q1 5 d
      have hb' := mv_b (hb.s11 (i := q) (t : Nat)) (i := q) (s := 5) (by omega)
      have kp : KP ln L (mv (stP L q 11 (t : Nat)) q 5 d) := KP.s11.tr (KP.mvK (by rw [stP_o (Or.inr (by omega))]; omega) (by omega))
      have hs' : RSil pn d ln (stP P p 5 (t : Nat)) (mv (stP L q 11 (t : Nat)) q 5 d) := (hs.pk fun p' _ => by
        rw [stP_o (Or.inr (by omega)), stP_o (Or.inr (by omega)), stP_o (Or.inr (by omega))]
        exact ⟨rfl, rfl, rfl⟩).kp kp
      obtain ⟨G9', G13', G25', G32', P', L', r1, r2, r3, r4, r5, r6, r7, r8, r9⟩ := ih _ _ _ _ _ _ hp' hc' hm' hb' (fun j hj => by
        by_cases e : qs j = q
        · rw [e, mv_8]; exact Or.inr rfl
        · rw [mv_o (Or.inl e), stP_o (Or.inl e)]; exact h45 j hj) hs' (hwt.kp kp)
      have r1 : f_X9_translate_l99 F fu G6 (gI G9 (tp p) 5 (iI (t : Nat))) G10 (gI (gI (gI G13 (tl q) 11 (iI (t : Nat))) (tl q) 8 (iI 5)) (tl q) 9 (iI d)) G16 G17 (iI d) (iI R) (iI ((i : Int) + 1)) = _ := r1
      have r2 : f_X12_turns_l191 F fu G23 G24 (gI G25 104 p (iI (t : Nat))) (gI (gI (gI G32 138 q (iI (t : Nat))) 135 q (iI 5)) 136 q (iI d)) G37 G38 (iI ((i : Int) + 1)) = _ := r2
      refine ⟨G9', G13', G25', G32', P', L', ?_, ?_, r3, r4, r5, r6, r7, r8, KX.tr ⟨fun j _ => by rw [mv_o (Or.inr (by omega)), stP_o (Or.inr (by omega))], fun k => by rw [gI_g, gI_g, gI_g, if_neg (by omega), if_neg (by omega), if_neg (by omega)]⟩ r9⟩
      · show f_X9_translate_l99b F (f_X9_translate_l99 F fu) G6 G9 G10 G13 G16 G17 _ _ _ = _
        unfold f_X9_translate_l99b
        have n6 : ¬ iI (t : Int) = 6 := by rw [show (6 : Int32) = iI 6 from rfl, iI_eq (by omega) (by omega) (by omega) (by omega)]; omega
        rw [if_n nR, ck_iI (by omega) (by omega) (by omega), ci, e1, if_n n6, ck_iI (by omega) (by omega) (by omega), q2, om_s, ck_iI (by omega) (by omega) (by omega), bn_eq, ck_iI (by omega) (by omega) (by omega), om_s, gI_2, c0', om_s, ck_iI (by omega) (by omega) (by omega), bn_eq, ck_iI (by omega) (by omega) (by omega), om_s]
        have mv4 : f_X4_move F (gI G13 (tl q) 11 (iI (t : Nat))) (tl q) 5 (iI d) = some (gI (gI (gI G13 (tl q) 11 (iI (t : Nat))) (tl q) 8 (iI 5)) (tl q) 9 (iI d)) := rfl
        rw [mv4, ob_s, bn_eq, o1, iI_add]
        exact r1
      · show f_X12_turns_l191b F (f_X12_turns_l191 F fu) G23 G24 G25 G32 G37 G38 _ = _
        unfold f_X12_turns_l191b
        have nw : ¬ iI (t : Int) = iI (wn : Int) := by rw [iI_eq (by omega) (by omega) (by omega) (by omega)]; omega
        have mm : f_X12_moves F G23 (gI G32 138 q (iI (t : Nat))) (iI q) 5 = _ := moves_m (F := F) (G32 := gI G32 138 q (iI (t : Nat))) hl h23 q1 5
        have m0' : (gI G32 138 q (iI (t : Nat))).1 132 q = iI (p : Nat) := by rw [gI_g, if_neg (by omega)]; exact m0
        rw [hqr.1, if_n nR, ck_iI (by omega) (by omega) (by omega), ci, e2, h3, if_n nw, ck_iI (by omega) (by omega) (by omega), ck_iI (by omega) (by omega) (by omega), q3, ck_iI (by omega) (by omega) (by omega), cq, bn_eq, ck_iI (by omega) (by omega) (by omega), ck_iI (by omega) (by omega) (by omega), ck_iI (by omega) (by omega) (by omega), m0', ck_iI (by omega) (by omega) (by omega), cp, bn_eq, ck_iI (by omega) (by omega) (by omega), mm, ob_s, bn_eq, o1, iI_add]
        exact r2
    · have e1 := hb1 i hi
      have e2 := hb2 i hi
      rw [u2] at e1
      rw [u1] at e2
      obtain ⟨G9', G13', G25', G32', P', L', r1, r2, r3⟩ := ih G9 G13 G25 G32 P L hp hc hm hb h45 hs hwt
      have r1 : f_X9_translate_l99 F fu G6 G9 G10 G13 G16 G17 (iI d) (iI R) (iI ((i : Int) + 1)) = _ := r1
      have r2 : f_X12_turns_l191 F fu G23 G24 G25 G32 G37 G38 (iI ((i : Int) + 1)) = _ := r2
      refine ⟨G9', G13', G25', G32', P', L', ?_, ?_, r3⟩
      · show f_X9_translate_l99b F (f_X9_translate_l99 F fu) G6 G9 G10 G13 G16 G17 _ _ _ = _
        unfold f_X9_translate_l99b
        rw [if_n nR, ck_iI (by omega) (by omega) (by omega), ci, e1, if_p (c := iI ((6 : Nat) : Int) = 6) rfl, bn_eq, o1, iI_add]
        exact r1
      · show f_X12_turns_l191b F (f_X12_turns_l191 F fu) G23 G24 G25 G32 G37 G38 _ = _
        unfold f_X12_turns_l191b
        rw [hqr.1, if_n nR, ck_iI (by omega) (by omega) (by omega), ci, e2, h3, if_p rfl, bn_eq, o1, iI_add]
        exact r2
theorem turn_both (h : RLet G3 G7 G9 G10 G13 G14 G15 G25 G32 G33 G34 gn cn d n pn ln sn tp tl Ln P L X) (hf : RFolk G6 G24 vn gn cn) (hw : RTr G16 G37 wn W) (hd : d < 3600) (h23 : G23.1 91 0 = iI d) (hF : 200000 ≤ F) : ∃ G9' G13' G16' G17' G25' G32' G38' P' L', f_X9_translate F G6 G9 G10 G13 G16 G17 (iI d) = some (G9', G13', G16', G17') ∧ f_X12_turns F G23 G24 G25 G32 G37 G38 = some (G25', G32', G38') ∧ RLet G3 G7 G9' G10 G13' G14 G15 G25' G32' G33 G34 gn cn d n pn ln sn tp tl Ln P' L' X ∧ RTr G16' G37 wn W := by
  obtain ⟨hp, hc, hm, hb, hmk, hg, hx, hsl, hwt, hn⟩ := id h
  have hl := hb.1
  have fc := first_c (F := F) hc hb hd hF (s := 4) (by omega) (af := none) (fun a h => by cases h)
  have nm := next_m (F := F) hm hb hd hF (s := 4) (by omega) (af := none) (fun a h => by cases h)
  have fc : f_X6_firstIn F G10 G13 4 none = some ((nxt L 4 none ln).map tl) := fc
  have nm : f_X12_nextIn F G32 4 (iI (-1)) = some (iI (oI (nxt L 4 none ln))) := nm
  rw [← m1_iI] at nm
  obtain ⟨R, qs, G16', G38a, r1, r2, ⟨hR, r3, r4⟩, r5, r6⟩ := line_both (F := F) (G23 := G23) (G24 := G24) (G25 := G25) (G37 := G37) hc hm hb hd hF 6 0 rfl F (by omega) G16 (gI G38 91 85 0) (nxt L 4 none ln) (fun _ => 0) (fun a ha => by
    have := nxt_lt ln a ha
    exact ⟨this.1, this.2.1⟩) ⟨by omega, fun i hi => absurd hi (Nat.not_lt_zero i), by rw [gI_g, if_pos ⟨rfl, rfl⟩]; rfl⟩
  have hw' : RTr G16' G37 wn W := by
    obtain ⟨h1, h2, h3, h4, h5⟩ := hw
    refine ⟨h1, by rw [r5]; exact h2, h3, fun t ht => ?_, h5⟩
    rw [r5, r6]
    exact h4 t ht
  have cl : f_X9_lineUp F G10 G13 G16 = some (iI R, G16') := by
    unfold f_X9_lineUp
    rw [fc, ob_s]
    have r1 : f_X9_lineUp_l9 F F G10 G13 G16 0 ((nxt L 4 none ln).map tl) = _ := r1
    rw [← r1]
    cases nxt L 4 none ln <;> rfl
  have ml : f_X12_turns F G23 G24 G25 G32 G37 G38 = f_X12_turns_l60 F F G23 G24 G25 G32 G37 G38a 1 0 := by
    unfold f_X12_turns
    rw [bn_eq, nm, ob_s]
    exact r2
  have hqr : QR G38a R qs := ⟨r4, fun i hi => (r3 i hi).2.2.2⟩
  -- the tongues
  have tb := fun i (hi : i < R) => tong_both (F := F) hf hp hc hm hb hw' (r3 i hi).1
  obtain ⟨bt, hbt⟩ : ∃ bt : Nat → Nat, ∀ i, i < R → bt i < 36 ∧ f_X3_tonguesBit F G6 G9 G13 (tl (qs i)) = some (iI (bt i : Nat)) ∧ ∀ t, t < wn → f_X12_knows F G24 G25 G32 G37 (iI t) (iI (qs i)) = some (bI (knB W t (bt i))) := by
    refine ⟨fun i => @dite _ (i < R) (Classical.propDecidable _) (fun hi => Classical.choose (tb i hi)) (fun _ => 0), fun i hi => ?_⟩
    have e : (@dite _ (i < R) (Classical.propDecidable _) (fun hi => Classical.choose (tb i hi)) (fun _ => 0)) = Classical.choose (tb i hi) := @dif_pos _ (Classical.propDecidable _) hi _ _ _
    simp only [e]
    exact Classical.choose_spec (tb i hi)
  have kb : ∀ i, i < R → (L (qs i) 0).toNat < pn := fun i hi => by
    have := (hb.2 _ (r3 i hi).1).1
    omega
  have hpn := hp.1
  have hv : QV G6 G9 G13 G16' R tl qs bt (fun i => P (L (qs i) 0).toNat 5) := ⟨hR, fun i hi => ⟨(r3 i hi).2.2.1, (hbt i hi).1, (hbt i hi).2.1, ⟨tp (L (qs i) 0).toNat, (hc.at (r3 i hi).1).2.1, (hp.2.2.2.1 _ (kb i hi)).2.2.1 5 (by omega)⟩, (hp.2.2.2.2.1 _ (kb i hi)).2.2.2.2.2.1⟩⟩
  have hvm : QM F G24 G25 G32 G37 W wn R qs bt (fun i => P (L (qs i) 0).toNat 5) := ⟨hR, fun i hi => ⟨by have := (r3 i hi).1; omega, (hbt i hi).2.2, ⟨(L (qs i) 0).toNat, by have := kb i hi; omega, by
    have := (hb.2 _ (r3 i hi).1).1
    rw [(hm.at (r3 i hi).1).1]
    congr 1
    omega, (hp.2.2.2.1 _ (kb i hi)).2.2.2.2.2.2.2.2⟩, (hp.2.2.2.2.1 _ (kb i hi)).2.2.2.2.2.1⟩⟩
  have h1 := hw.1
  obtain ⟨G17a, a1, a2, -⟩ := clear_c (F := F) (v := 65) hR hF G17
  obtain ⟨G17b, Mx, b1, b2, b3, b4⟩ := allows_c (F := F) (d := d) (G10 := G10) hw' hv hF a2
  obtain ⟨G17c, w1, c1, -, c2, c3⟩ := solve_c (F := F) b2 hR b3 (fun i c hi hc => ⟨ite_b (ite_b (by omega) (by omega)) (by omega), b4 i c hi hc⟩) (fun c hc => ite_l (fun z => by
    have := (hw.2.2.2.2 c z.1).2.2.1
    omega) (by omega)) hF
  obtain ⟨G38b, w2, d1, d2, d3, d4⟩ := best_m (F := F) hw' hvm h23 hF hqr
  have mw := match_w (T := wn) (R := R) (al := alT W d bt) (P := stT W d bt (fun i => P (L (qs i) 0).toNat 5) R wn 0) (PR := ptT (fun i => P (L (qs i) 0).toNat 5)) (M := fun t => W t 2) (M6 := rmT W d wn) (y := fun _ => 0) h1 (fun i hi c hc => by
    constructor
    · intro z
      by_cases q : (c < wn ∧ i < R ∧ alT W d bt i c) ∨ (c = wn ∧ i < 0 ∧ alT W d bt i c)
      · rcases q with q | q
        · exact ⟨q.1, q.2.2⟩
        · exact absurd q.2.1 (Nat.not_lt_zero i)
      · exact absurd (if_neg q) z
    · rintro ⟨z1, z2⟩
      have e : stT W d bt (fun i => P (L (qs i) 0).toNat 5) R wn 0 i c = ptT (fun i => P (L (qs i) 0).toNat 5) i c := if_pos (Or.inl ⟨z1, hi, z2⟩)
      intro z
      have z3 := e.symm.trans z
      unfold ptT at z3
      split at z3 <;> omega) (fun i hi c hc hal => if_pos (Or.inl ⟨hc, hi, hal⟩)) (fun c hc hex => by
    obtain ⟨i, -, hal⟩ := hex
    exact if_pos ⟨hc, hal.1⟩) c3 _ d4 (fun w z => z.2) (fun w z => by
    obtain ⟨k, k1, k2⟩ := dg_all (B := wn + 1) (by omega) R w (fun i hi => by have := (z.2.1 i (by omega) (by omega)).1; omega)
    exact ⟨dg (wn + 1) R k, ⟨⟨k, k1, rfl⟩, cpl_cg z k2⟩, k2⟩)
  obtain ⟨G9', G13', G25', G32', P', L', e1, e2, e3, e4, e5, e6, e7, e8, e9⟩ := apply_both (F := F) (G6 := G6) (G17 := G17c) (G24 := G24) (G38 := G38b) hR hw.2.2.1 h1 hd h23 hF (fun i hi => ⟨(r3 i hi).1, (r3 i hi).2.2.1⟩) d2 c2 d3 mw hp hc hm hb (fun j hj => Or.inl (r3 j hj).2.1) hsl hwt
  refine ⟨G9', G13', G16', G17c, G25', G32', G38b, P', L', ?_, ?_, ⟨e3, e4, e5, e6, hmk, hg, hx.fr e9.1 e9.2, e7, e8, hn⟩, hw'⟩
  · unfold f_X9_translate
    rw [cl, ob_s, bn_eq]
    show ob (f_X0_clear F G17 65 (iI R)) (fun q_13 => f_X9_translate_l19 F F G6 G9 G10 G13 G16' q_13 (iI d) (iI R) 0) = _
    rw [a1, ob_s, b1, c1, ob_s]
    exact e1
  · rw [ml, d1]
    exact e2
end PR
