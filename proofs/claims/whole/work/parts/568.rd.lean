/-! the reading of letters -/
section PR
variable {F : Nat} {G1 G2 G3 G4 G5 G6 G7 G8 G9 G10 G11 G12 G13 G14 G15 G23 G24 G25 G26 G29 G30 G31 G32 G33 G34 G35 G36 G37 G38 G41 : Grp} {vn gn cn d n pn ln tn sn v sp S cnt r m : Nat} {tp tl Ln gl rt : Nat → Nat} {P L T : Nat → Nat → Int} {X : Nat → Nat → Nat} {f : Nat → Int} {dc : Nat → Int} {fd : Fnd}
theorem RLet.mv7 (h : RLet G3 G7 G9 G10 G13 G14 G15 G25 G32 G33 G34 gn cn d n pn ln sn tp tl Ln P L X) {i : Nat} {s : Int} (hi : i < ln) (h8 : L i 8 ≠ 0 ∧ L i 8 ≠ 6) (hs : s ≠ 0 ∧ s ≠ 6) (hs8 : 0 ≤ s ∧ s ≤ 8) : RLet G3 G7 G9 G10 (gI (gI G13 (tl i) 8 (iI s)) (tl i) 9 (iI d)) G14 G15 G25 (gI (gI G32 135 i (iI s)) 136 i (iI d)) G33 G34 gn cn d n pn ln sn tp tl Ln P (mv L i s d) X := by
  obtain ⟨hp, hc, hm, hb, hk, hg, hx, hsl, hwt, hn⟩ := id h
  have kp : KP ln L (mv L i s d) := KP.mvK h8 hs
  refine ⟨hp, mv_c hc hi s d, mv_m hm hi s d, mv_b hb hs8, hk, hg, hx.fr (fun j _ => mv_o (Or.inr (by omega))) (fun k => by
    rw [gI_g, gI_g, if_neg (by omega), if_neg (by omega)]), hsl.kp kp, hwt.kp kp, hn⟩
theorem look_let (h : RLet G3 G7 G9 G10 G13 G14 G15 G25 G32 G33 G34 gn cn d n pn ln sn tp tl Ln P L X) (hr : RRul G1 G4 G29 v sp S cnt r gl rt dc) (hlk : RLook G5 G31) {i : Nat} (hi : i < ln) (hF : 200000 ≤ F) : ∃ G5' G30' m fd, f_X2_search F G3 G4 G5 51 v (tl i + 3) (iI (L i 6)) = some G5' ∧ f_X12_looksAt F G29 G30 G32 (iI i) = some G30' ∧ FA G5' 51 0 52 m fd ∧ FA G30' 91 51 124 m fd ∧ FO m r (L i 6).toNat fd ∧ TXM G30' (L i 6).toNat (X i) ∧ RLook G5' G31 := by
  obtain ⟨hp, hc, hm, hb, hk, hg, hx, hs, hwt, hn⟩ := id h
  have hl := hb.1
  obtain ⟨p1, p2, p3, p4, p5, p6⟩ := hb.2 i hi
  obtain ⟨m0, m1, m2, m6, m7, m8, m9, m10, m11⟩ := hm.at hi
  obtain ⟨x1, x2, x3, x4⟩ := hx i hi
  have e6 : L i 6 = ((L i 6).toNat : Nat) := by omega
  generalize hN : (L i 6).toNat = N at e6 x2 x4
  have tc : TXC G3 (tl i + 3) N (X i) := ⟨by omega, ⟨Ln i, x1, x2, by omega⟩, fun j hj => ⟨(x4 j hj).1, (x4 j hj).2.2⟩⟩
  -- the reference copies the text
  have key := up_ind (n := N) (Q := fun fu j => ∀ G : Grp, G.1 91 46 = iI N → (∀ q, q < j → G.1 123 q = iI (X i q)) → ∃ G', f_X12_looksAt_l12 F fu G29 G G32 (iI i) (iI j) = f_X12_looks F G29 G' ∧ TXM G' N (X i)) ?_ ?_
  · obtain ⟨Ga, g1, g2⟩ := key 0 F (by omega) (by omega) (gI G30 91 46 (iI N)) (by rw [gI_g, if_pos ⟨rfl, rfl⟩]) (fun q hq => absurd hq (Nat.not_lt_zero q))
    obtain ⟨G5', G30', m, fd, z1, z2, z3, z4, z5, z6, z7, z8, z9, z10, z11⟩ := both_v (F := F) hr tc g2 hlk.2.2 hF
    refine ⟨G5', G30', m, fd, by rw [e6]; exact z1, ?_, z3, z4, z5, ⟨g2.1, ?_, fun q hq => ⟨?_, (g2.2.2 q hq).2⟩⟩, ?_, ?_, z6⟩
    · have g1 : f_X12_looksAt_l12 F F G29 (gI G30 91 46 (iI N)) G32 (iI i) (iI 0) = f_X12_looks F G29 Ga := g1
      rw [e6] at m6
      simp (disch := omega) only [reduceIte, Nat.reduceEqDiff, Nat.reduceAdd, Nat.reduceSub, Nat.reduceMul, Nat.reduceLT, Int.reduceNeg, Int.reduceAdd, Int.reduceSub, Int.reduceMul, Int.reduceLT, Int.reduceLE, Int.reduceEq, Int.reduceToNat, reduceCtorEq, and_self, and_true, true_and, false_and, and_false, or_false, false_or, or_true, true_or, true_implies, false_implies, implies_true, not_true_eq_false, not_false_eq_true, Int.toNat_natCast, Int.cast_ofNat_Int, eq_self, ne_eq, ite_true, ite_false, if_true, if_false, Int.add_sub_cancel, Int.sub_add_cancel, Int.add_zero, Int.zero_add, cast_s, iI_in, iI_lit, iI_le, iI_lt, iI_eq, iI_cl, iI_add, iI_sub, iI_mul, iI_neg, iI_nI, ok_s, ok_ck, ok_bn, ok_ob, ck_iI, bn_eq, ob_s, om_n, om_s, cb_bI, gI_g, gI_2, gJ_1, gJ_g, gJ_2, gR_1, gR_2, gR_g, within_v, in_v, bI_i0, bI_i1, iI_bI0, iI_bI1, bI_T, bI_F, f_X12_looksAt, m6]
      rw [g1]
      exact z2
    · rw [z10 91 46 (by omega) (by omega)]; exact g2.2.1
    · rw [z10 123 q (by omega) (by omega)]; exact (g2.2.2 q hq).1
    · obtain ⟨m', fd', a1, a2, a3⟩ := hlk.1
      refine ⟨m', fd', ⟨by rw [z7 23 0 (by omega) (by omega)]; exact a1.1, fun j hj => ?_⟩, a2, a3⟩
      rw [z7 24 j (by omega) (by omega), z7 (24 + 1) j (by omega) (by omega), z7 (24 + 2) j (by omega) (by omega), z7 (24 + 3) j (by omega) (by omega)]
      exact a1.2 j hj
    · obtain ⟨c', p', b1, b2, b3⟩ := hlk.2.1
      exact ⟨c', p', by rw [z9 23 7 (by omega)]; exact b1, by rw [z9 23 8 (by omega)]; exact b2, b3⟩
  · intro fu G g1 g2
    have e : (N : Int) ≤ N := Int.le_refl _
    refine ⟨G, ?_, by omega, g1, fun q hq => ⟨g2 q hq, (x4 q hq).2.2⟩⟩
    show f_X12_looksAt_l12b F (f_X12_looksAt_l12 F fu) G29 G G32 _ _ = _
    unfold f_X12_looksAt_l12b
    rw [g1, if_p (by rw [iI_le (by omega) (by omega) (by omega) (by omega)]; exact e), ob_idt]
  · intro j fu hj ih G g1 g2
    have e : ¬ (N : Int) ≤ j := by omega
    obtain ⟨y1, y2, y3⟩ := x4 j hj
    have nb := nar_b (X i j) (sg_lt y3)
    have e1 : (160 * (i : Int) + (j : Int)).toNat = 160 * i + j := by omega
    obtain ⟨G', r1, r2⟩ := ih (gI G 123 j (iI (X i j))) (by rw [gI_g, if_neg (by omega)]; exact g1) (fun q hq => by
      rw [gI_g]
      by_cases eq : q = j
      · rw [if_pos ⟨rfl, eq⟩, eq]
      · rw [if_neg (fun z => eq z.2)]; exact g2 q (by omega))
    refine ⟨G', ?_, r2⟩
    show f_X12_looksAt_l12b F (f_X12_looksAt_l12 F fu) G29 G G32 _ _ = _
    simp (disch := omega) only [reduceIte, Nat.reduceEqDiff, Nat.reduceAdd, Nat.reduceSub, Nat.reduceMul, Nat.reduceLT, Int.reduceNeg, Int.reduceAdd, Int.reduceSub, Int.reduceMul, Int.reduceLT, Int.reduceLE, Int.reduceEq, Int.reduceToNat, reduceCtorEq, and_self, and_true, true_and, false_and, and_false, or_false, false_or, or_true, true_or, true_implies, false_implies, implies_true, not_true_eq_false, not_false_eq_true, Int.toNat_natCast, Int.cast_ofNat_Int, eq_self, ne_eq, ite_true, ite_false, if_true, if_false, Int.add_sub_cancel, Int.sub_add_cancel, Int.add_zero, Int.zero_add, cast_s, iI_in, iI_lit, iI_le, iI_lt, iI_eq, iI_cl, iI_add, iI_sub, iI_mul, iI_neg, iI_nI, ok_s, ok_ck, ok_bn, ok_ob, ck_iI, bn_eq, ob_s, om_n, om_s, cb_bI, gI_g, gI_2, gJ_1, gJ_g, gJ_2, gR_1, gR_2, gR_g, within_v, in_v, bI_i0, bI_i1, iI_bI0, iI_bI1, bI_T, bI_F, f_X12_looksAt_l12b, g1, e, y2, nb, e1]
    exact r1
/-- one letter is read -/
theorem read_both (h : RLet G3 G7 G9 G10 G13 G14 G15 G25 G32 G33 G34 gn cn d n pn ln sn tp tl Ln P L X) (hf : RFolk G6 G24 vn gn cn) (hr : RRul G1 G4 G29 v sp S cnt r gl rt dc) (hh : RHand G12 G36) (hnm : RNum G2 G26 f) (hlk : RLook G5 G31) {i : Nat} (hi : i < ln) (h8 : L i 8 = 2) (hd : d < 3600) (h23 : G23.1 91 0 = iI d) (hF : 200000 ≤ F) : ∃ G3' G5' G9' G12' G13' G25' G30' G32' G36' P' L' X', f_X6_readOne F G2 G3 G4 G5 G6 G9 G12 G13 G14 (tl i) v (iI d) = some (G3', G5', G9', G12', G13') ∧ f_X12_reads F G23 G24 G25 G26 G29 G30 G32 G33 G36 (iI i) = some (G25', G30', G32', G36') ∧ RLet G3' G7 G9' G10 G13' G14 G15 G25' G32' G33 G34 gn cn d n pn ln sn tp tl Ln P' L' X' ∧ RHand G12' G36' ∧ RLook G5' G31 ∧ G3'.2 = G3.2 ∧ ∀ a k, a < 174 → G3'.1 a k = G3.1 a k := by
  obtain ⟨hp, hc, hm, hb, hk, hg, hx, hs, hwt, hn⟩ := id h
  have hl := hb.1
  have hpn := hp.1
  obtain ⟨p1, p2, p3, p4, p5, p6⟩ := hb.2 i hi
  obtain ⟨q0, q0', q1, q2, q6, q7, q8, q9, q10, q11⟩ := hc.at hi
  obtain ⟨m0, m1, m2, m6, m7, m8, m9, m10, m11⟩ := hm.at hi
  have hpi : (L i 0).toNat < pn := by omega
  have hL0 : L i 0 = ((L i 0).toNat : Nat) := by omega
  have i132 : G32.1 132 i = iI ((L i 0).toNat : Int) := by rw [m0]; congr 1
  generalize (L i 0).toNat = pi at hpi hL0 q0' i132
  have ioc := isOpen_c (F := F) hp hd hpi
  have iom := isOpen_m (F := F) hp hd hpi
  have mm := fun s => moves_m (F := F) (G32 := G32) hl h23 hi s
  have ic : (iI (i : Int)).toNatClampNeg = i := by rw [iI_cl (by omega) (by omega)]; rfl
  have icp : (iI (pi : Int)).toNatClampNeg = pi := by rw [iI_cl (by omega) (by omega)]; rfl
  have back := h.mv7 (s := 7) hi (by omega) (by omega) (by omega)
  have hold := h.mv7 (s := 3) hi (by omega) (by omega) (by omega)
  by_cases co : P pi 4 = -1
  · rw [bI_t co] at ioc iom
    obtain ⟨G5', G30', m, fd, z1, z2, z3, z4, z5, z6, z7⟩ := look_let (F := F) (G30 := G30) h hr hlk hi hF
    obtain ⟨xr, r1, r2, r3⟩ := has_both (F := F) hr z3 z4 z5 (by omega) hF (ch := 114) (by omega)
    obtain ⟨xh, h1, h2, h3⟩ := has_both (F := F) hr z3 z4 z5 (by omega) hF (ch := 104) (by omega)
    obtain ⟨xu, u1, u2, u3⟩ := unl_both (F := F) hc hm hb hp hk hh hnm hF hi
    have r1 : f_X2_hasAny F G4 G5' 51 v 114 = some xr := r1
    have r2 : f_X12_hasFind F G29 G30' 114 = some xr := r2
    have h1 : f_X2_hasAny F G4 G5' 51 v 104 = some xh := h1
    have h2 : f_X12_hasFind F G29 G30' 104 = some xh := h2
    have pr := hp.2.2.2.1 pi hpi
    have pb := hp.2.2.2.2.1 pi hpi
    obtain ⟨tk, htk⟩ : ∃ tk : Nat, P pi 7 = (tk : Int) := ⟨(P pi 7).toNat, by omega⟩
    have tk8 : tk < 256 := by omega
    have e7 := pr.2.2.1 7 (by omega)
    have e7' := pr.2.2.2.2.2.2.2.1
    rw [htk] at e7 e7'
    have hn8 := hnt_lt hr z5 m (Nat.le_refl _)
    have hc1 := hint_c (F := F) hr z3 z5 (by omega) hF
    have hc2 := hint_m (F := F) hr z4 z5 (by omega) hF
    generalize hnt dc fd m = ht8 at hn8 hc1 hc2
    have or8 : tk ||| ht8 < 256 := Nat.or_lt_two_pow (n := 8) tk8 hn8
    have bc := bitCount_v F (x := tk ||| ht8) (by omega)
    have bm := bits_m (F := F) hF (x := tk ||| ht8) (by omega)
    have n3 := hnm.1 3 (by omega)
    have z3c : ((3 : Int32).toNatClampNeg) = 3 := by decide
    obtain ⟨pc, hpc⟩ : ∃ pc, iI ((pop (tk ||| ht8) 16 : Nat) : Int) = pc := ⟨_, rfl⟩
    rw [hpc] at bc bm
    have ck8 : ∀ x : Option Int32, ck (3 : Int32) 8 x = x := fun x => ck_iI (a := 3) (by omega) (by omega) (by omega)
    have ck8' : ∀ x : Option (Grp × Grp × Grp × Grp), ck (3 : Int32) 8 x = x := fun x => ck_iI (a := 3) (by omega) (by omega) (by omega)
    rcases r3 with r0 | r1'
    · rw [r0] at r1 r2
      -- to hold?
      have ht : ∃ y : Int32, f_X6_isToHold F G2 G4 G5' G9 G12 G13 G14 (tl i) v = some y ∧ ((y = 0 ∧ xh = 0 ∧ xu = 0 ∧ pc < iI (f 3)) ∨ (y = 1 ∧ (xh = 1 ∨ (xh = 0 ∧ xu = 1) ∨ (xh = 0 ∧ xu = 0 ∧ ¬ pc < iI (f 3))))) := by
        unfold f_X6_isToHold
        rw [q0', om_s, hc1, ob_s, e7, iI_or, bc, ob_s, h1, ob_s]
        rcases h3 with rfl | rfl
        · rw [if_p rfl, u1, ob_s]
          rcases u3 with rfl | rfl
          · rw [if_p rfl, ck8, z3c, n3.1]
            by_cases c : pc < iI (f 3)
            · exact ⟨0, by rw [if_p c], Or.inl ⟨rfl, rfl, rfl, c⟩⟩
            · exact ⟨1, by rw [if_n c], Or.inr ⟨rfl, Or.inr (Or.inr ⟨rfl, rfl, c⟩)⟩⟩
          · exact ⟨1, by rw [if_n (by decide)], Or.inr ⟨rfl, Or.inr (Or.inl ⟨rfl, rfl⟩)⟩⟩
        · exact ⟨1, by rw [if_n (by decide)], Or.inr ⟨rfl, Or.inl rfl⟩⟩
      obtain ⟨y, y1, y2⟩ := ht
      rcases y2 with ⟨rfl, rfl, rfl, y3⟩ | ⟨rfl, y3⟩
      · -- it passes
        obtain ⟨G3', G9', G12', G13', G25', G32', G36', P', L', X', k1, k2, k3, k4, k5, k6⟩ := pass_both (F := F) h hf hr hh hi (Or.inl h8) z3 z4 z5 z6 hd h23 hF
        refine ⟨G3', G5', G9', G12', G13', G25', G30', G32', G36', P', L', X', ?_, ?_, k3, k4, z7, k5, k6⟩
        · unfold f_X6_readOne
          rw [q0', om_s, ioc, ob_s, if_n (by decide), q6, z1, ob_s, r1, ob_s, if_p rfl, y1, ob_s, if_p rfl, k1]
          rfl
        · unfold f_X12_reads
          rw [ck_iI (by omega) (by omega) (by omega), bn_eq, ic, i132, iom, ob_s, if_n (by decide), z2, ob_s, r2, ob_s, if_p rfl, h2, ob_s, if_p rfl, u2, ob_s, if_p rfl, ck_iI (by omega) (by omega) (by omega), hc2, ob_s, icp, e7', iI_or, bm, ob_s, ck8', z3c, n3.2.1, if_p y3, k2]
          rfl
      · -- it is held
        have em : f_X12_reads F G23 G24 G25 G26 G29 G30 G32 G33 G36 (iI i) = f_X12_reads_b87 F G23 G24 G25 G26 G29 G30' G32 G33 G36 (iI i) := by
          unfold f_X12_reads
          rw [ck_iI (by omega) (by omega) (by omega), bn_eq, ic, i132, iom, ob_s, if_n (by decide), z2, ob_s, r2, ob_s, if_p rfl, h2, ob_s]
          rcases y3 with rfl | ⟨rfl, rfl⟩ | ⟨rfl, rfl, y4⟩
          · rw [if_n (by decide)]
          · rw [if_p rfl, u2, ob_s, if_n (by decide)]
          · rw [if_p rfl, u2, ob_s, if_p rfl, ck_iI (by omega) (by omega) (by omega), hc2, ob_s, icp, e7', iI_or, bm, ob_s, ck8', z3c, n3.2.1, if_n y4]
        refine ⟨G3, G5', G9, G12, _, G25, G30', _, G36, P, _, X, ?_, ?_, hold, hh, z7, rfl, fun _ _ _ => rfl⟩
        · unfold f_X6_readOne
          rw [q0', om_s, ioc, ob_s, if_n (by decide), q6, z1, ob_s, r1, ob_s, if_p rfl, y1, ob_s, if_n (by decide)]
          rfl
        · rw [em]
          unfold f_X12_reads_b87
          have m3 : f_X12_moves F G23 G32 (iI i) 3 = _ := mm 3
          rw [m3]
          rfl
    · rw [r1'] at r1 r2
      refine ⟨G3, G5', G9, G12, _, G25, G30', _, G36, P, _, X, ?_, ?_, back, hh, z7, rfl, fun _ _ _ => rfl⟩
      · unfold f_X6_readOne
        rw [q0', om_s, ioc, ob_s, if_n (by decide), q6, z1, ob_s, r1, ob_s, if_n (by decide)]
        rfl
      · unfold f_X12_reads
        have m7' : f_X12_moves F G23 G32 (iI i) 7 = _ := mm 7
        rw [ck_iI (by omega) (by omega) (by omega), bn_eq, ic, i132, iom, ob_s, if_n (by decide), z2, ob_s, r2, ob_s, if_n (by decide), m7']
        rfl
  · rw [bI_f co] at ioc iom
    refine ⟨G3, G5, G9, G12, _, G25, G30, _, G36, P, _, X, ?_, ?_, back, hh, hlk, rfl, fun _ _ _ => rfl⟩
    · unfold f_X6_readOne
      rw [q0', om_s, ioc, ob_s, if_p rfl]
      rfl
    · unfold f_X12_reads
      have m7' : f_X12_moves F G23 G32 (iI i) 7 = _ := mm 7
      rw [ck_iI (by omega) (by omega) (by omega), bn_eq, ic, i132, iom, ob_s, if_p rfl, m7']
      rfl
theorem call_decide (h : RLet G3 G7 G9 G10 G13 G14 G15 G25 G32 G33 G34 gn cn d n pn ln sn tp tl Ln P L X) (hf : RFolk G6 G24 vn gn cn) (hr : RRul G1 G4 G29 v sp S cnt r gl rt dc) (hh : RHand G12 G36) (hlk : RLook G5 G31) (hd : d < 3600) (h1 : G1.1 0 0 = iI d) (h23 : G23.1 91 0 = iI d) (hF : 200000 ≤ F) (a b : Int32) : ok (f_X11_decide F G1 G3 G4 G5 G6 G9 G10 G12 G13 G14 a b) (fun q => ok (f_X12_decide F G23 G24 G25 G29 G30 G32 G33 G36 a b) fun w => q.1 = w.1 ∧ (∃ P' L' X', RLet q.2.1 G7 q.2.2.2.1 G10 q.2.2.2.2.2 G14 G15 w.2.1 w.2.2.2.1 G33 G34 gn cn d n pn ln sn tp tl Ln P' L' X') ∧ RHand q.2.2.2.2.1 w.2.2.2.2 ∧ RLook q.2.2.1 G31 ∧ q.2.1.2 = G3.2 ∧ ∀ a k, a < 174 → q.2.1.1 a k = G3.1 a k) := by
  obtain ⟨hp, hc, hm, hb, hk, hg, hx, hs, hwt, hn⟩ := id h
  obtain ⟨a, rfl, a1, a2⟩ := iI_ex a
  have hl := hb.1
  have la := letterAt_c (F := F) hc hb.1 a1 a2
  have tm := there_m (F := F) hm hb.1 a1 a2
  by_cases c : 0 ≤ a ∧ a ≤ (ln : Int) - 1
  · obtain ⟨i, rfl⟩ : ∃ i : Nat, a = (i : Int) := ⟨a.toNat, by omega⟩
    have hi : i < ln := by omega
    rw [if_pos c] at la
    rw [bI_t c] at tm
    simp only [Int.toNat_natCast] at la
    obtain ⟨p1, p2, p3, p4, p5, p6⟩ := hb.2 i hi
    obtain ⟨q0, q0', q1, q2, q6, q7, q8, q9, q10, q11⟩ := hc.at hi
    obtain ⟨m0, m1, m2, m6, m7, m8, m9, m10, m11⟩ := hm.at hi
    have ic : (iI (i : Int)).toNatClampNeg = i := by rw [iI_cl (by omega) (by omega)]; rfl
    have mm := fun s => moves_m (F := F) (G32 := G32) hl h23 hi s
    unfold f_X11_decide f_X12_decide
    rw [la, tm, ob_s, om_s, ob_s, if_n (c := (1 : Int32) = 0) (by decide), ck_iI (by omega) (by omega) (by omega), ic, q8, m8]
    by_cases c3 : L i 8 = 3
    · rw [c3, if_p (c := iI 3 = 3) (by decide +kernel), if_p (c := iI 3 = 3) (by decide +kernel)]
      by_cases cb : b = 0
      · have m7' : f_X12_moves F G23 G32 (iI i) 7 = _ := mm 7
        rw [if_p cb, if_p cb, m7', h1]
        exact ⟨rfl, ⟨P, _, X, h.mv7 (s := 7) hi (by omega) (by omega) (by omega)⟩, hh, hlk, rfl, fun _ _ _ => rfl⟩
      · obtain ⟨G5', G30', m, fd, z1, z2, z3, z4, z5, z6, z7⟩ := look_let (F := F) (G30 := G30) h hr hlk hi hF
        obtain ⟨G3', G9', G12', G13', G25', G32', G36', P', L', X', k1, k2, k3, k4, k5, k6⟩ := pass_both (F := F) h hf hr hh hi (Or.inr c3) z3 z4 z5 z6 hd h23 hF
        rw [if_n cb, if_n cb, hr.2.1, om_s, z2, ob_s, k2, h1]
        have ph : f_X6_passHeld F G3 G4 G5 G6 G9 G12 G13 G14 (tl i) v (iI d) = some (G3', G5', G9', G12', G13') := by
          unfold f_X6_passHeld
          rw [q6, z1, ob_s, k1]
          rfl
        rw [ph]
        exact ⟨rfl, ⟨P', L', X', k3⟩, k4, z7, k5, k6⟩
    · rw [if_n (c := iI (L i 8) = 3) (by rw [show (3 : Int32) = iI 3 from rfl, iI_eq (by omega) (by omega) (by omega) (by omega)]; exact c3), if_n (c := iI (L i 8) = 3) (by rw [show (3 : Int32) = iI 3 from rfl, iI_eq (by omega) (by omega) (by omega) (by omega)]; exact c3)]
      exact ⟨rfl, ⟨P, L, X, h⟩, hh, hlk, rfl, fun _ _ _ => rfl⟩
  · rw [if_neg c] at la
    rw [bI_f c] at tm
    unfold f_X11_decide f_X12_decide
    rw [la, tm]
    exact ⟨rfl, ⟨P, L, X, h⟩, hh, hlk, rfl, fun _ _ _ => rfl⟩
end PR
