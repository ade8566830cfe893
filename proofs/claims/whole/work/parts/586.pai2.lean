/-! THE PAIRING: points -/
section PR
variable {F : Nat} {G1 G2 G6 G7 G8 G9 G17 G20 G21 G23 G24 G25 G38 G41 G42 G43 : Grp} {vn gn cn d n pn tn : Nat} {tp : Nat → Nat} {P T A : Nat → Nat → Int}
/-- an open pair of that giver and that child -/
abbrev pGC (P : Nat → Nat → Int) (pn : Nat) (g c : Int) : Prop := ∃ p, p < pn ∧ P p 4 = -1 ∧ P p 1 = g ∧ P p 2 = c
theorem isPaired_c (hp : RPair G7 G9 G25 gn cn d n pn tp P) (hd : d < 3600) (hF : 200000 ≤ F) {g c : Nat} (hg : g < 16) (hc : c < 16) : f_X3_isPaired F G7 G9 (iI g) (iI c) = some (@bI (pGC P pn g c) (clD _)) := by
  have oc := openPairOf_c (F := F) hp hd (by omega) (c := (c : Int)) (by omega) (by omega)
  obtain ⟨h1, h2, h3, h4, h5, h6, h7, h8, h9, h10⟩ := id hp
  unfold f_X3_isPaired
  rw [oc, ob_s]
  cases hx : fst (pOpen P (c : Int)) pn with
  | none =>
    rw [@bI_f _ (clD _) fun z => by
      obtain ⟨p, z1, z2, z3, z4⟩ := z
      exact fst_none.mp hx p z1 ⟨z4, z2⟩]
    rfl
  | some p =>
    obtain ⟨x1, x2, -⟩ := fst_some.mp hx
    have w := (h4 p x1).2.2.1 1 (by omega)
    have b := (h5 p x1).2.1
    show om (some (tp p)) _ _ = _
    rw [om_s, w]
    by_cases c1 : P p 1 = (g : Int)
    · rw [@bI_t (pGC P pn g c) (clD _) ⟨p, x1, x2.2, c1, x2.1⟩, if_p (by rw [c1])]
    · rw [@bI_f _ (clD _) fun z => by
        obtain ⟨q, z1, z2, z3, z4⟩ := z
        have e := h7 q p z1 x1 z2 x2.2 (z4.trans x2.1.symm)
        rw [e] at z3
        exact c1 z3, if_n (by rw [iI_eq (by omega) (by omega) (by omega) (by omega)]; exact c1)]
/-- who is whose sibling -/
def sbl (G24 : Grp) (c : Nat) : Int := (G24.1 98 c).toInt
theorem sbl_v (hf : RFolk G6 G24 vn gn cn) {c : Nat} (hc : c < cn) : G24.1 98 c = iI (sbl G24 c) ∧ G6.1 39 c = iI (sbl G24 c) ∧ -1 ≤ sbl G24 c ∧ sbl G24 c < cn := by
  obtain ⟨v1, v2, v3, v4, v5, v6, v7, v8, v9, va, vb, vc⟩ := id hf
  obtain ⟨-, -, -, u4, -, -, ⟨z, u7, u8, u9⟩⟩ := vc c hc
  have e : sbl G24 c = z := by unfold sbl; rw [u9, iI_toInt (by omega) (by omega)]
  rw [u4, e]
  exact ⟨u9, u9, u7, u8⟩
/-- that giver has a sibling of that child -/
abbrev hSb (G24 : Grp) (P : Nat → Nat → Int) (pn : Nat) (g c : Nat) : Prop := ∃ p, p < pn ∧ P p 4 = -1 ∧ P p 1 = (g : Int) ∧ (sbl G24 c = P p 2 ∨ sbl G24 (P p 2).toNat = (c : Int))
theorem hasSib_c (hf : RFolk G6 G24 vn gn cn) (hp : RPair G7 G9 G25 gn cn d n pn tp P) (hd : d < 3600) (hF : 200000 ≤ F) {g c : Nat} (hg : g < gn) (hc : c < cn) : f_X3_hasSiblingOf F G6 G7 G9 (iI g) (iI c) = some (@bI (hSb G24 P pn g c) (clD _)) := by
  obtain ⟨v1, v2, v3, v4, v5, v6, v7, v8, v9, va, vb, vc⟩ := id hf
  obtain ⟨h1, h2, h3, h4, h5, h6, h7, h8, h9, h10⟩ := id hp
  obtain ⟨s1, s2, s3, s4⟩ := sbl_v hf hc
  have cc : (iI (c : Int)).toNatClampNeg = c := by rw [iI_cl (by omega) (by omega)]; omega
  have o1 : (1 : Int32) = iI 1 := rfl
  -- the loop over those whose sibling it is
  have loop : ¬ (∃ p, p < pn ∧ P p 4 = -1 ∧ P p 1 = (g : Int) ∧ sbl G24 c = P p 2) → f_X3_hasSiblingOf_l31 F F G6 G7 G9 (iI g) (iI c) 0 = some (@bI (hSb G24 P pn g c) (clD _)) := by
    intro hno
    have key := up_ind (n := cn) (Q := fun fu i => (∀ j, j < i → ¬ (sbl G24 j = (c : Int) ∧ pGC P pn g j)) → f_X3_hasSiblingOf_l31 F fu G6 G7 G9 (iI g) (iI c) (iI i) = some (@bI (hSb G24 P pn g c) (clD _))) ?_ ?_
    · exact key 0 F (by omega) (by omega) (fun j hj => absurd hj (Nat.not_lt_zero j))
    · intro fu hall
      rw [@bI_f _ (clD _) fun z => by
        obtain ⟨p, z1, z2, z3, z4⟩ := z
        have b := (h5 p z1).2.2.1
        rcases z4 with z4 | z4
        · exact hno ⟨p, z1, z2, z3, z4⟩
        · exact hall (P p 2).toNat (by omega) ⟨z4, p, z1, z2, z3, by omega⟩]
      show f_X3_hasSiblingOf_l31b F (f_X3_hasSiblingOf_l31 F fu) G6 G7 G9 _ _ _ = _
      unfold f_X3_hasSiblingOf_l31b
      rw [v8, if_p (by rw [iI_le (by omega) (by omega) (by omega) (by omega)]; omega)]
    · intro i fu hi ih hall
      obtain ⟨t1, t2, t3, t4⟩ := sbl_v hf hi
      have ci : (iI (i : Int)).toNatClampNeg = i := by rw [iI_cl (by omega) (by omega)]; omega
      have ip := isPaired_c (F := F) hp hd hF (g := g) (c := i) (by omega) (by omega)
      have nx : ¬ (sbl G24 i = (c : Int) ∧ pGC P pn g i) → f_X3_hasSiblingOf_l31 F fu G6 G7 G9 (iI g) (iI c) (iI ((i : Int) + 1)) = some (@bI (hSb G24 P pn g c) (clD _)) := fun hn => ih (fun j hj => by
        by_cases e : j = i
        · rw [e]; exact hn
        · exact hall j (by omega))
      show f_X3_hasSiblingOf_l31b F (f_X3_hasSiblingOf_l31 F fu) G6 G7 G9 _ _ _ = _
      unfold f_X3_hasSiblingOf_l31b
      rw [v8, if_n (by rw [iI_le (by omega) (by omega) (by omega) (by omega)]; omega), ck_iI (by omega) (by omega) (by omega), ci, t2]
      by_cases c1 : sbl G24 i = (c : Int)
      · rw [if_p (by rw [c1]), ip, ob_s]
        by_cases c2 : pGC P pn g i
        · obtain ⟨p, z1, z2, z3, z4⟩ := id c2
          rw [@bI_t _ (clD _) c2, if_n (by decide), @bI_t (hSb G24 P pn g c) (clD _) ⟨p, z1, z2, z3, Or.inr (by rw [z4, Int.toNat_natCast]; exact c1)⟩]
        · rw [@bI_f _ (clD _) c2, if_p rfl, bn_eq, o1, iI_add]
          exact nx fun z => c2 z.2
      · rw [if_n (by rw [iI_eq (by omega) (by omega) (by omega) (by omega)]; exact c1), bn_eq, o1, iI_add]
        exact nx fun z => c1 z.1
  have hcv := hasChild_v (F := F) hf (a := sbl G24 c) (by omega) (by omega)
  unfold f_X3_hasSiblingOf
  rw [ck_iI (by omega) (by omega) (by omega), cc, s2, hcv, ob_s]
  by_cases c1 : 0 ≤ sbl G24 c ∧ sbl G24 c ≤ (cn : Int) - 1
  · obtain ⟨k, hk⟩ : ∃ k : Nat, sbl G24 c = (k : Int) := ⟨(sbl G24 c).toNat, by omega⟩
    have ip := isPaired_c (F := F) hp hd hF (g := g) (c := k) (by omega) (by omega)
    rw [bI_t c1, if_n (by decide), ck_iI (by omega) (by omega) (by omega), hk, ip, ob_s]
    by_cases c2 : pGC P pn g k
    · obtain ⟨p, z1, z2, z3, z4⟩ := id c2
      rw [@bI_t _ (clD _) c2, if_n (by decide), @bI_t (hSb G24 P pn g c) (clD _) ⟨p, z1, z2, z3, Or.inl (by rw [z4, hk])⟩]
    · rw [@bI_f _ (clD _) c2, if_p rfl]
      refine loop fun z => ?_
      obtain ⟨p, z1, z2, z3, z4⟩ := z
      exact c2 ⟨p, z1, z2, z3, by rw [← z4, hk]⟩
  · rw [bI_f c1, if_p rfl]
    refine loop fun z => ?_
    obtain ⟨p, z1, z2, z3, z4⟩ := z
    have b := (h5 p z1).2.2.1
    omega
/-- the same points -/
theorem points_both (hf : RFolk G6 G24 vn gn cn) (hp : RPair G7 G9 G25 gn cn d n pn tp P) (hwi : RWish G20 G42 gn A) (hd : d < 3600) (hF : 200000 ≤ F) {g c : Nat} (hg : g < gn) (hc : c < cn) : ∃ x : Int, 0 ≤ x ∧ x ≤ 10 ∧ f_X10_pointsOf F G6 G7 G9 G20 (iI g) (iI c) = some (iI x) ∧ f_X12_points F G24 G25 G42 (iI g) (iI c) = some (iI x) := by
  obtain ⟨v1, v2, v3, v4, v5, v6, v7, v8, v9, va, vb, vc⟩ := id hf
  obtain ⟨h1, h2, h3, h4, h5, h6, h7, h8, h9, h10⟩ := id hp
  obtain ⟨-, w1, w2, -, w4, w5⟩ := hwi.2.1 g (by omega)
  obtain ⟨u1, u2, u3, u4, -, -, -⟩ := vc c hc
  obtain ⟨q1, -⟩ := vb g hg
  obtain ⟨s1, s2, s3, s4⟩ := sbl_v hf hc
  have sb := hasSib_c (F := F) hf hp hd hF hg hc
  have cc : (iI (c : Int)).toNatClampNeg = c := by rw [iI_cl (by omega) (by omega)]; omega
  have cg : (iI (g : Int)).toNatClampNeg = g := by rw [iI_cl (by omega) (by omega)]; omega
  have o1 : (1 : Int32) = iI 1 := rfl
  -- the loop of the reference
  have loop : ∀ y : Int, 0 ≤ y → y ≤ 6 → f_X12_points_l58 F F G24 G25 G42 (iI g) (iI c) (iI y) 0 = some (iI (y + @ite _ (hSb G24 P pn g c) (clD _) 4 0)) := by
    intro y y1 y2
    have key := up_ind (n := pn) (Q := fun fu i => (∀ p, p < i → ¬ (P p 4 = -1 ∧ P p 1 = (g : Int) ∧ (sbl G24 c = P p 2 ∨ sbl G24 (P p 2).toNat = (c : Int)))) → f_X12_points_l58 F fu G24 G25 G42 (iI g) (iI c) (iI y) (iI i) = some (iI (y + @ite _ (hSb G24 P pn g c) (clD _) 4 0))) ?_ ?_
    · exact key 0 F (by omega) (by omega) (fun j hj => absurd hj (Nat.not_lt_zero j))
    · intro fu hall
      rw [@if_neg _ (clD _) fun z => by
        obtain ⟨p, z1, z2⟩ := z
        exact hall p z1 z2]
      show f_X12_points_l58b F (f_X12_points_l58 F fu) G24 G25 G42 _ _ _ _ = _
      unfold f_X12_points_l58b
      rw [h3, if_p (by rw [iI_le (by omega) (by omega) (by omega) (by omega)]; omega), Int.add_zero]
    · intro i fu hi ih hall
      have pr := h4 i hi
      have pb := h5 i hi
      have r1 := pr.2.2.2.1
      have r2 := pr.2.2.2.2.1
      have io := isOpen_m (F := F) hp hd hi
      have ci : (iI (i : Int)).toNatClampNeg = i := by rw [iI_cl (by omega) (by omega)]; omega
      obtain ⟨k, hk⟩ : ∃ k : Nat, P i 2 = (k : Int) := ⟨(P i 2).toNat, by omega⟩
      rw [hk] at r2
      have ck' : (iI (k : Int)).toNatClampNeg = k := by rw [iI_cl (by omega) (by omega)]; omega
      obtain ⟨t1, t2, t3, t4⟩ := sbl_v hf (c := k) (by omega)
      have nx : ¬ (P i 4 = -1 ∧ P i 1 = (g : Int) ∧ (sbl G24 c = P i 2 ∨ sbl G24 (P i 2).toNat = (c : Int))) → f_X12_points_l58 F fu G24 G25 G42 (iI g) (iI c) (iI y) (iI ((i : Int) + 1)) = some (iI (y + @ite _ (hSb G24 P pn g c) (clD _) 4 0)) := fun hn => ih (fun p hp' => by
        by_cases e : p = i
        · rw [e]; exact hn
        · exact hall p (by omega))
      have yes : P i 4 = -1 → P i 1 = (g : Int) → (sbl G24 c = P i 2 ∨ sbl G24 (P i 2).toNat = (c : Int)) → some (iI y + 4) = some (iI (y + @ite _ (hSb G24 P pn g c) (clD _) 4 0)) := fun z1 z2 z3 => by
        rw [@if_pos _ (clD _) (show hSb G24 P pn g c from ⟨i, hi, z1, z2, z3⟩), show (4 : Int32) = iI 4 from rfl, iI_add]
      show f_X12_points_l58b F (f_X12_points_l58 F fu) G24 G25 G42 _ _ _ _ = _
      unfold f_X12_points_l58b
      rw [h3, if_n (by rw [iI_le (by omega) (by omega) (by omega) (by omega)]; omega), ck_iI (by omega) (by omega) (by omega), ci, bn_eq, io, ob_s]
      by_cases c1 : P i 4 = -1
      · rw [bI_t c1, if_n (by decide), ck_iI (by omega) (by omega) (by omega), r1]
        by_cases c2 : P i 1 = (g : Int)
        · rw [if_p (by rw [c2]), ck_iI (by omega) (by omega) (by omega), cc, s1, r2]
          by_cases c3 : sbl G24 c = (k : Int)
          · rw [if_p (by rw [c3])]
            exact yes c1 c2 (Or.inl (by rw [c3, hk]))
          · rw [if_n (by rw [iI_eq (by omega) (by omega) (by omega) (by omega)]; exact c3), ck_iI (by omega) (by omega) (by omega), ck', t1]
            by_cases c4 : sbl G24 k = (c : Int)
            · rw [if_p (by rw [c4])]
              exact yes c1 c2 (Or.inr (by rw [hk, Int.toNat_natCast]; exact c4))
            · rw [if_n (by rw [iI_eq (by omega) (by omega) (by omega) (by omega)]; exact c4), bn_eq, o1, iI_add]
              exact nx fun z => by
                rcases z.2.2 with q | q
                · exact c3 (by rw [q, hk])
                · rw [hk, Int.toNat_natCast] at q
                  exact c4 q
        · rw [if_n (by rw [iI_eq (by omega) (by omega) (by omega) (by omega)]; exact c2), bn_eq, o1, iI_add]
          exact nx fun z => c2 z.2.1
      · rw [bI_f c1, if_p rfl, bn_eq, o1, iI_add]
        exact nx fun z => c1 z.1
  -- the parts of the sum
  have xa := and1_01 (G42.1 168 g >>> (G24.1 97 c &&& 31))
  have xb := and1_01 (G42.1 169 g >>> (G24.1 95 c &&& 31))
  have xa : (G42.1 168 g >>> (G24.1 97 c &&& 31)) &&& 1 = 0 ∨ (G42.1 168 g >>> (G24.1 97 c &&& 31)) &&& 1 = 1 := xa
  have xb : (G42.1 169 g >>> (G24.1 95 c &&& 31)) &&& 1 = 0 ∨ (G42.1 169 g >>> (G24.1 95 c &&& 31)) &&& 1 = 1 := xb
  have hs4 : (0 : Int) ≤ @ite _ (hSb G24 P pn g c) (clD _) 4 0 ∧ (@ite Int (hSb G24 P pn g c) (clD _) 4 0) ≤ 4 := by
    by_cases z : hSb G24 P pn g c
    · rw [@if_pos _ (clD _) z]; omega
    · rw [@if_neg _ (clD _) z]; omega
  have last : ∀ y : Int, 0 ≤ y → y ≤ 6 → ∀ a b : Int32, a + b = iI y → f_X10_pointsOf_b81 F G6 G7 G9 G20 (iI g) (iI c) a b = some (iI (y + @ite _ (hSb G24 P pn g c) (clD _) 4 0)) := by
    intro y y1 y2 a b hab
    unfold f_X10_pointsOf_b81
    rw [hab, bn_eq, sb, ob_s]
    by_cases z : hSb G24 P pn g c
    · rw [@bI_t _ (clD _) z, if_n (by decide), bn_eq, @if_pos _ (clD _) z, show (4 : Int32) = iI 4 from rfl, iI_add]
    · rw [@bI_f _ (clD _) z, if_p rfl, bn_eq, @if_neg _ (clD _) z, show (0 : Int32) = iI 0 from rfl, iI_add]
  have tot : ∃ y : Int, 0 ≤ y ∧ y ≤ 6 ∧ f_X10_pointsOf F G6 G7 G9 G20 (iI g) (iI c) = some (iI (y + @ite _ (hSb G24 P pn g c) (clD _) 4 0)) ∧ f_X12_points F G24 G25 G42 (iI g) (iI c) = f_X12_points_l58 F F G24 G25 G42 (iI g) (iI c) (iI y) 0 := by
    have ec : ∀ y : Int, 0 ≤ y → y ≤ 6 → ∀ ea eb et : Int, (G42.1 168 g >>> (G24.1 97 c &&& 31)) &&& 1 = iI ea → (G42.1 169 g >>> (G24.1 95 c &&& 31)) &&& 1 = iI eb → (ea = 0 ∨ ea = 1) → (eb = 0 ∨ eb = 1) → (et = 0 ∧ ¬ G24.1 94 g = G24.1 96 c ∨ et = 2 ∧ G24.1 94 g = G24.1 96 c) → y = ea * 3 + eb + et → f_X10_pointsOf F G6 G7 G9 G20 (iI g) (iI c) = some (iI (y + @ite _ (hSb G24 P pn g c) (clD _) 4 0)) ∧ f_X12_points F G24 G25 G42 (iI g) (iI c) = f_X12_points_l58 F F G24 G25 G42 (iI g) (iI c) (iI y) 0 := by
      intro y y1 y2 ea eb et ha hb ha2 hb2 ht hy
      constructor
      · have k1 : ∀ a b : Int32, a + b = iI (ea * 3 + eb) → f_X10_pointsOf_b56 F G6 G7 G9 G20 (iI g) (iI c) a b = some (iI (y + @ite _ (hSb G24 P pn g c) (clD _) 4 0)) := by
          intro a b hab
          unfold f_X10_pointsOf_b56
          rw [hab, bn_eq, ck_iI (by omega) (by omega) (by omega), ck_iI (by omega) (by omega) (by omega), cg, cc, q1, u2]
          rcases ht with ⟨t1, t2⟩ | ⟨t1, t2⟩
          · rw [if_n t2]
            exact last y y1 y2 _ _ (by rw [show (0 : Int32) = iI 0 from rfl, iI_add]; congr 1; omega)
          · rw [if_p t2]
            exact last y y1 y2 _ _ (by rw [show (2 : Int32) = iI 2 from rfl, iI_add]; congr 1; omega)
        have k2 : ∀ a b : Int32, a + b = iI (ea * 3) → f_X10_pointsOf_b28 F G6 G7 G9 G20 (iI g) (iI c) a b = some (iI (y + @ite _ (hSb G24 P pn g c) (clD _) 4 0)) := by
          intro a b hab
          unfold f_X10_pointsOf_b28
          rw [hab, bn_eq, ck_iI (by omega) (by omega) (by omega), ck_iI (by omega) (by omega) (by omega), cg, cc, w2, w5.symm, u1, hb]
          rcases hb2 with rfl | rfl
          · rw [if_p (c := iI 0 = 0) rfl]
            exact k1 _ _ (by rw [show (0 : Int32) = iI 0 from rfl, iI_add])
          · rw [if_n (c := iI 1 = 0) (by decide +kernel)]
            exact k1 _ _ (by rw [show (1 : Int32) = iI 1 from rfl, iI_add])
        unfold f_X10_pointsOf
        rw [ck_iI (by omega) (by omega) (by omega), ck_iI (by omega) (by omega) (by omega), cg, cc, w1, w4.symm, u3, ha]
        rcases ha2 with rfl | rfl
        · rw [if_p (c := iI 0 = 0) rfl]
          exact k2 _ _ (by decide +kernel)
        · rw [if_n (c := iI 1 = 0) (by decide +kernel)]
          exact k2 _ _ (by decide +kernel)
      · unfold f_X12_points
        rw [ck_iI (by omega) (by omega) (by omega), ck_iI (by omega) (by omega) (by omega), ck_iI (by omega) (by omega) (by omega), ck_iI (by omega) (by omega) (by omega), ck_iI (by omega) (by omega) (by omega), ck_iI (by omega) (by omega) (by omega), cg, cc, ha, hb]
        rcases ht with ⟨t1, t2⟩ | ⟨t1, t2⟩
        · rw [if_n t2, bn_eq, show (0 : Int32) = iI 0 from rfl, show (3 : Int32) = iI 3 from rfl, iI_mul, iI_add, iI_add, hy, t1]
        · rw [if_p t2, bn_eq, show (0 : Int32) = iI 0 from rfl, show (2 : Int32) = iI 2 from rfl, show (3 : Int32) = iI 3 from rfl, iI_mul, iI_add, iI_add, hy, t1]
    have za : ∃ ea : Int, (ea = 0 ∨ ea = 1) ∧ (G42.1 168 g >>> (G24.1 97 c &&& 31)) &&& 1 = iI ea := by
      rcases xa with z | z
      · exact ⟨0, Or.inl rfl, z⟩
      · exact ⟨1, Or.inr rfl, z⟩
    have zb : ∃ eb : Int, (eb = 0 ∨ eb = 1) ∧ (G42.1 169 g >>> (G24.1 95 c &&& 31)) &&& 1 = iI eb := by
      rcases xb with z | z
      · exact ⟨0, Or.inl rfl, z⟩
      · exact ⟨1, Or.inr rfl, z⟩
    obtain ⟨ea, ea1, ea2⟩ := za
    obtain ⟨eb, eb1, eb2⟩ := zb
    by_cases ct : G24.1 94 g = G24.1 96 c
    · exact ⟨ea * 3 + eb + 2, by omega, by omega, ec _ (by omega) (by omega) ea eb 2 ea2 eb2 ea1 eb1 (Or.inr ⟨rfl, ct⟩) rfl⟩
    · exact ⟨ea * 3 + eb + 0, by omega, by omega, ec _ (by omega) (by omega) ea eb 0 ea2 eb2 ea1 eb1 (Or.inl ⟨rfl, ct⟩) rfl⟩
  obtain ⟨y, y1, y2, y3, y4⟩ := tot
  exact ⟨_, by omega, by omega, y3, by rw [y4]; exact loop y y1 y2⟩
end PR
