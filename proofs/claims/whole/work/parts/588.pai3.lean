/-! THE PAIRING: what the class allows; the reference's codes -/
section PR
variable {F : Nat} {G1 G2 G6 G7 G8 G9 G17 G20 G21 G23 G24 G25 G38 G41 G42 G43 : Grp} {vn gn cn d n pn tn R K : Nat} {tp gs cs : Nat → Nat} {P T A : Nat → Nat → Int} {pt : Nat → Nat → Int}
/-- the points of the rows and columns, of both -/
def PO (F : Nat) (G6 G7 G9 G20 G24 G25 G42 : Grp) (R K : Nat) (gs cs : Nat → Nat) (pt : Nat → Nat → Int) : Prop := ∀ i c, i < R → c < K → 0 ≤ pt i c ∧ pt i c ≤ 10 ∧ f_X10_pointsOf F G6 G7 G9 G20 (iI (gs i : Nat)) (iI (cs c : Nat)) = some (iI (pt i c)) ∧ f_X12_points F G24 G25 G42 (iI (gs i : Nat)) (iI (cs c : Nat)) = some (iI (pt i c))
abbrev stP2 (pt : Nat → Nat → Int) (R c i : Nat) : Nat → Nat → Int := fun j e => if (e < c ∧ j < R) ∨ (e = c ∧ j < i) then pt j e else -1
abbrev rmP (c : Nat) : Nat → Nat := fun e => if e < c then 1 else 0
theorem row_c (hR : R ≤ 6) (hK : K ≤ 6) (hpo : PO F G6 G7 G9 G20 G24 G25 G42 R K gs cs pt) (hgs : ∀ i, i < R → G21.1 82 i = iI (gs i : Nat)) (hcs : ∀ c, c < K → G21.1 83 c = iI (cs c : Nat)) (hF : 200000 ≤ F) {c : Nat} (hc : c < K) {RM : Nat → Nat} (k25 : Nat → Grp → Grp → Grp → Grp → Grp → Grp → Grp → Int32 → Int32 → Int32 → Int32 → Option (Int32 × Nat × Grp × Grp × Grp × Grp × Grp)) (G17 : Grp) (Mx : Int) (hA : AL G17 84 R Mx RM (stP2 pt R c 0)) (hM : 0 ≤ Mx ∧ Mx ≤ 10) (hP : ∀ j e, j < 6 → e < 6 → stP2 pt R c 0 j e ≤ Mx) : ∃ G17' Mx', f_X10_makePairs_l46 F k25 F n G6 G7 G8 G9 G17 G20 G21 (iI d) (iI R) (iI K) (iI c) 0 = k25 n G6 G7 G8 G9 G17' G20 G21 (iI d) (iI R) (iI K) (iI ((c : Int) + 1)) ∧ AL G17' 84 R Mx' RM (stP2 pt R c R) ∧ (0 ≤ Mx' ∧ Mx' ≤ 10) ∧ (∀ j e, j < 6 → e < 6 → stP2 pt R c R j e ≤ Mx') := by
  have o1 : (1 : Int32) = iI 1 := rfl
  have key := up_ind (n := R) (Q := fun fu i => ∀ G17 (Mx : Int), AL G17 84 R Mx RM (stP2 pt R c i) → (0 ≤ Mx ∧ Mx ≤ 10) → (∀ j e, j < 6 → e < 6 → stP2 pt R c i j e ≤ Mx) → ∃ G17' Mx', f_X10_makePairs_l46 F k25 fu n G6 G7 G8 G9 G17 G20 G21 (iI d) (iI R) (iI K) (iI c) (iI i) = k25 n G6 G7 G8 G9 G17' G20 G21 (iI d) (iI R) (iI K) (iI ((c : Int) + 1)) ∧ AL G17' 84 R Mx' RM (stP2 pt R c R) ∧ (0 ≤ Mx' ∧ Mx' ≤ 10) ∧ (∀ j e, j < 6 → e < 6 → stP2 pt R c R j e ≤ Mx')) ?_ ?_
  · exact key 0 F (by omega) (by omega) G17 Mx hA hM hP
  · intro fu G17 Mx hA hM hP
    refine ⟨G17, Mx, ?_, hA, hM, hP⟩
    show f_X10_makePairs_l46b F k25 (f_X10_makePairs_l46 F k25 fu) n G6 G7 G8 G9 G17 G20 G21 _ _ _ _ _ = _
    unfold f_X10_makePairs_l46b
    rw [if_p (by rw [iI_le (by omega) (by omega) (by omega) (by omega)]; omega), bn_eq, o1, iI_add]
  · intro i fu hi ih G17 Mx hA hM hP
    obtain ⟨p1, p2, p3, -⟩ := hpo i c hi hc
    have ci : (iI (i : Int)).toNatClampNeg = i := by rw [iI_cl (by omega) (by omega)]; omega
    have cc : (iI (c : Int)).toNatClampNeg = c := by rw [iI_cl (by omega) (by omega)]; omega
    obtain ⟨G17a, Mxa, a1, a2, -, a4, a5, a6⟩ := allow_c (F := F) hA (i := i) (c := c) (x := pt i c) (by omega) (by omega) ⟨p1, p2⟩ hM
    have eq : ∀ j e, stP2 pt R c (i + 1) j e = upP2 (stP2 pt R c i) i c (pt i c) j e := by
      intro j e
      unfold upP2
      by_cases q : j = i ∧ e = c
      · rw [if_pos q, q.1, q.2]
        exact if_pos (Or.inr ⟨rfl, Nat.lt_succ_self i⟩)
      · rw [if_neg q]
        exact ite_cg ⟨fun z => by omega, fun z => by omega⟩
    obtain ⟨G17', Mx', r1, r2⟩ := ih G17a Mxa (a2.cg (fun _ _ => rfl) (fun j e _ _ => eq j e)) (by omega) (fun j e hj he => by
      rw [eq]
      unfold upP2
      split
      · exact a5
      · exact Int.le_trans (hP j e hj he) a4)
    have r1 : f_X10_makePairs_l46 F k25 fu n G6 G7 G8 G9 G17a G20 G21 (iI d) (iI R) (iI K) (iI c) (iI ((i : Int) + 1)) = _ := r1
    refine ⟨G17', Mx', ?_, r2⟩
    show f_X10_makePairs_l46b F k25 (f_X10_makePairs_l46 F k25 fu) n G6 G7 G8 G9 G17 G20 G21 _ _ _ _ _ = _
    unfold f_X10_makePairs_l46b
    rw [if_n (by rw [iI_le (by omega) (by omega) (by omega) (by omega)]; omega), ck_iI (by omega) (by omega) (by omega), ck_iI (by omega) (by omega) (by omega), ci, cc, hgs i hi, hcs c hc, p3, ob_s, a1, ob_s, bn_eq, o1, iI_add]
    exact r1
theorem rows_c (hR : R ≤ 6) (hK : K ≤ 6) (hpo : PO F G6 G7 G9 G20 G24 G25 G42 R K gs cs pt) (hgs : ∀ i, i < R → G21.1 82 i = iI (gs i : Nat)) (hcs : ∀ c, c < K → G21.1 83 c = iI (cs c : Nat)) (hF : 200000 ≤ F) (hA0 : AL G17 84 R 0 (fun _ => 0) (fun _ _ => -1)) : ∃ G17' Mx', f_X10_makePairs_l25 F F n G6 G7 G8 G9 G17 G20 G21 (iI d) (iI R) (iI K) 0 = ob (f_X0_solve F G17' 84) (fun q_98 => f_X10_makePairs_l107 F F n G6 G7 G8 G9 q_98 G20 G21 (iI d) (iI R) (iI K) 0 0) ∧ AL G17' 84 R Mx' (rmP K) (stP2 pt R K 0) ∧ (0 ≤ Mx' ∧ Mx' ≤ 10) ∧ (∀ j e, j < 6 → e < 6 → stP2 pt R K 0 j e ≤ Mx') := by
  have o1 : (1 : Int32) = iI 1 := rfl
  have key := up_ind (n := K) (Q := fun fu c => ∀ G17 (Mx : Int), AL G17 84 R Mx (rmP c) (stP2 pt R c 0) → (0 ≤ Mx ∧ Mx ≤ 10) → (∀ j e, j < 6 → e < 6 → stP2 pt R c 0 j e ≤ Mx) → ∃ G17' Mx', f_X10_makePairs_l25 F fu n G6 G7 G8 G9 G17 G20 G21 (iI d) (iI R) (iI K) (iI c) = ob (f_X0_solve F G17' 84) (fun q_98 => f_X10_makePairs_l107 F F n G6 G7 G8 G9 q_98 G20 G21 (iI d) (iI R) (iI K) 0 0) ∧ AL G17' 84 R Mx' (rmP K) (stP2 pt R K 0) ∧ (0 ≤ Mx' ∧ Mx' ≤ 10) ∧ (∀ j e, j < 6 → e < 6 → stP2 pt R K 0 j e ≤ Mx')) ?_ ?_
  · have s0 : ∀ j e, stP2 pt R 0 0 j e = -1 := fun j e => if_neg fun z => by omega
    exact key 0 F (by omega) (by omega) G17 0 (hA0.cg (fun c hc => if_neg (Nat.not_lt_zero c)) (fun j e _ _ => s0 j e)) (by omega) (fun j e _ _ => by rw [s0]; omega)
  · intro fu G17 Mx hA hM hP
    refine ⟨G17, Mx, ?_, hA, hM, hP⟩
    show f_X10_makePairs_l25b F (f_X10_makePairs_l25 F fu) n G6 G7 G8 G9 G17 G20 G21 _ _ _ _ = _
    unfold f_X10_makePairs_l25b
    rw [if_p (by rw [iI_le (by omega) (by omega) (by omega) (by omega)]; omega)]
  · intro c fu hc ih G17 Mx hA hM hP
    have cc : (iI (c : Int)).toNatClampNeg = c := by rw [iI_cl (by omega) (by omega)]; omega
    have nx : ∀ j e, stP2 pt R (c + 1) 0 j e = stP2 pt R c R j e := fun j e => ite_cg ⟨fun z => by omega, fun z => by omega⟩
    have hA1 : AL (gI G17 85 c (iI 1)) 84 R Mx (rmP (c + 1)) (stP2 pt R c 0) := by
      refine (hA.room (c := c) 1).cg (fun e he => ?_) (fun _ _ _ _ => rfl)
      by_cases et : e = c
      · rw [et]
        exact (if_pos (Nat.lt_succ_self c)).trans (if_pos rfl).symm
      · exact (ite_cg ⟨fun z => by omega, fun z => by omega⟩).trans (if_neg et).symm
    obtain ⟨G17a, Mxa, a1, a2, a3, a4⟩ := row_c (F := F) (G8 := G8) (n := n) (d := d) hR hK hpo hgs hcs hF hc (f_X10_makePairs_l25 F fu) _ Mx hA1 hM hP
    obtain ⟨G17', Mx', r1, r2⟩ := ih G17a Mxa (a2.cg (fun _ _ => rfl) (fun j e _ _ => nx j e)) a3 (fun j e hj he => by rw [nx]; exact a4 j e hj he)
    have r1 : f_X10_makePairs_l25 F fu n G6 G7 G8 G9 G17a G20 G21 (iI d) (iI R) (iI K) (iI ((c : Int) + 1)) = _ := r1
    refine ⟨G17', Mx', ?_, r2⟩
    show f_X10_makePairs_l25b F (f_X10_makePairs_l25 F fu) n G6 G7 G8 G9 G17 G20 G21 _ _ _ _ = _
    unfold f_X10_makePairs_l25b
    rw [if_n (by rw [iI_le (by omega) (by omega) (by omega) (by omega)]; omega), ck_iI (by omega) (by omega) (by omega), bn_eq, cc, ← r1]
    exact a1
/-- the rows and columns in the reference -/
def QP (G43 : Grp) (R K : Nat) (gs cs : Nat → Nat) : Prop := G43.1 91 107 = iI R ∧ G43.1 91 108 = iI K ∧ (∀ i, i < R → G43.1 170 i = iI (gs i : Nat)) ∧ ∀ c, c < K → G43.1 171 c = iI (cs c : Nat)
theorem isRow_l (hR : R ≤ 6) (hK : K ≤ 6) (hq : QP G43 R K gs cs) (hF : 200000 ≤ F) {k : Nat} : ∀ i fu, i < fu → i ≤ R → ∀ (c s : Nat) (G38 : Grp), c < 200000 → s < 64 → (∀ j, j < i → dg (K + 1) R k j = dg (K + 1) i c j) → (∀ j, i ≤ j → j < R → G38.1 153 j = iI (dg (K + 1) R k j : Nat)) → (∀ x, x < K → (s.testBit x = true ↔ 0 < ck' (dg (K + 1) R k) x i (R - i))) → tlw K (fun _ _ => True) (fun _ => 1) R (dg (K + 1) R k) i → ∃ G38' x, f_X12_isRow_l12 F fu G38 G43 (iI c) (iI s) (iI ((i : Int) - 1)) = some (x, G38') ∧ (∀ a q, a ≠ 153 → G38'.1 a q = G38.1 a q) ∧ ((x = 1 ∧ tlw K (fun _ _ => True) (fun _ => 1) R (dg (K + 1) R k) 0 ∧ ∀ j, j < R → G38'.1 153 j = iI (dg (K + 1) R k j : Nat)) ∨ (x = 0 ∧ ¬ tlw K (fun _ _ => True) (fun _ => 1) R (dg (K + 1) R k) 0)) := by
  obtain ⟨h1, h2, h3, h4⟩ := id hq
  refine dn_ind (Q := fun fu i => i ≤ R → ∀ (c s : Nat) (G38 : Grp), c < 200000 → s < 64 → (∀ j, j < i → dg (K + 1) R k j = dg (K + 1) i c j) → (∀ j, i ≤ j → j < R → G38.1 153 j = iI (dg (K + 1) R k j : Nat)) → (∀ x, x < K → (s.testBit x = true ↔ 0 < ck' (dg (K + 1) R k) x i (R - i))) → tlw K (fun _ _ => True) (fun _ => 1) R (dg (K + 1) R k) i → ∃ G38' x, f_X12_isRow_l12 F fu G38 G43 (iI c) (iI s) (iI ((i : Int) - 1)) = some (x, G38') ∧ (∀ a q, a ≠ 153 → G38'.1 a q = G38.1 a q) ∧ ((x = 1 ∧ tlw K (fun _ _ => True) (fun _ => 1) R (dg (K + 1) R k) 0 ∧ ∀ j, j < R → G38'.1 153 j = iI (dg (K + 1) R k j : Nat)) ∨ (x = 0 ∧ ¬ tlw K (fun _ _ => True) (fun _ => 1) R (dg (K + 1) R k) 0))) ?_ ?_
  · intro fu hi c s G38 hc hs hdg hrow hsn htl
    refine ⟨G38, 1, ?_, fun _ _ _ => rfl, Or.inl ⟨rfl, htl, fun j hj => hrow j (Nat.zero_le j) hj⟩⟩
    show f_X12_isRow_l12b F (f_X12_isRow_l12 F fu) G38 G43 _ _ _ = _
    unfold f_X12_isRow_l12b
    rw [if_p (by rw [show (0 : Int32) = iI 0 from rfl, iI_lt (by omega) (by omega) (by omega) (by omega)]; omega)]
  · intro i fu ih hi c s G38 hc hs hdg hrow hsn htl
    obtain ⟨d1, d2⟩ := dg_at (B := K + 1) (by omega) hdg
    obtain ⟨m1, m2⟩ := mul_div0 (c := c) (B := K + 1) (by omega) (by omega) hc
    have dB : dg (K + 1) R k i < K + 1 := dg_lt (by omega) R k i (by omega)
    generalize hw' : dg (K + 1) R k = w at *
    have ei : iI (((i + 1 : Nat) : Int) - 1) = iI (i : Int) := by congr 1; omega
    have ci : (iI (i : Int)).toNatClampNeg = i := by rw [iI_cl (by omega) (by omega)]; omega
    have eB : iI (K : Int) + 1 = iI ((K + 1 : Nat) : Int) := by rw [show (1 : Int32) = iI 1 from rfl, iI_add]; rfl
    have nB : ¬ iI ((K + 1 : Nat) : Int) = 0 := by rw [show (0 : Int32) = iI 0 from rfl, iI_eq (by omega) (by omega) (by omega) (by omega)]; omega
    have em : iI (i : Int) + (-1) = iI ((i : Int) - 1) := by rw [m1_iI, iI_add]; congr 1
    rw [← d1] at m1
    have row : ∀ j, i ≤ j → j < R → (gI G38 153 i (iI (w i : Nat))).1 153 j = iI (w j : Nat) := fun j z1 z2 => by
      rw [gI_g]
      by_cases e : j = i
      · rw [if_pos ⟨rfl, e⟩, e]
      · rw [if_neg fun z => e z.2]; exact hrow j (by omega) z2
    have hc2 : c / (K + 1) < 200000 := Nat.lt_of_le_of_lt (Nat.div_le_self _ _) hc
    have cks : ∀ t, ck' w t i (R - i) = (if w i = t then 1 else 0) + ck' w t (i + 1) (R - (i + 1)) := fun t => by
      rw [show R - i = (R - (i + 1)) + 1 by omega, ck_s]
    have fr : ∀ a q, a ≠ 153 → (gI G38 153 i (iI (w i : Nat))).1 a q = G38.1 a q := fun a q a1 => by rw [gI_g, if_neg (fun z => a1 z.1)]
    show ∃ G38' x, f_X12_isRow_l12b F (f_X12_isRow_l12 F fu) G38 G43 (iI c) (iI s) (iI (((i + 1 : Nat) : Int) - 1)) = some (x, G38') ∧ _
    unfold f_X12_isRow_l12b
    rw [ei, if_n (by rw [show (0 : Int32) = iI 0 from rfl, iI_lt (by omega) (by omega) (by omega) (by omega)]; omega), h2, eB, cz_ok nB, ck_iI (by omega) (by omega) (by omega), ci, m1, bn_eq, cz_ok nB, m2, bn_eq, ck_iI (by omega) (by omega) (by omega), row i (Nat.le_refl _) (by omega), em]
    by_cases cw : w i = K
    · rw [if_p (by rw [cw]), bn_eq]
      have htl' : tlw K (fun _ _ => True) (fun _ => 1) R w i := (tlw_s (by omega)).mpr ⟨htl, by omega, fun z => absurd z (by omega)⟩
      obtain ⟨G38', x, r1, r2, r3⟩ := ih (by omega) (c / (K + 1)) s (gI G38 153 i (iI (w i : Nat))) hc2 hs d2 row (fun x hx => by
        rw [cks, if_neg (by omega), Nat.zero_add]; exact hsn x hx) htl'
      exact ⟨G38', x, r1, fun a q a1 => by rw [r2 a q a1, fr a q a1], r3⟩
    · have ht : w i < K := by omega
      have bt : (iI (s : Int) >>> (iI ((w i : Nat) : Int) &&& 31)) &&& 1 = bI (s.testBit (w i) = true) := iI_bit (by omega) (by omega)
      rw [if_n (by rw [iI_eq (by omega) (by omega) (by omega) (by omega)]; omega), ck_iI (by omega) (by omega) (by omega), bt]
      have fail : ¬ tlw K (fun _ _ => True) (fun _ => 1) R w i → ¬ tlw K (fun _ _ => True) (fun _ => 1) R w 0 := fun z y => z (tlw_up y (by omega))
      by_cases cb : s.testBit (w i) = true
      · have := (hsn (w i) ht).mp cb
        rw [bI_t cb, if_p rfl]
        exact ⟨_, _, rfl, fr, Or.inr ⟨rfl, fail fun z => by
          have := (((tlw_s (by omega)).mp z).2.2 ht).2
          omega⟩⟩
      · have c0 : ck' w (w i) (i + 1) (R - (i + 1)) = 0 := by
          by_cases q : 0 < ck' w (w i) (i + 1) (R - (i + 1))
          · exact absurd ((hsn (w i) ht).mpr q) cb
          · omega
        have ep : (1 : Int32) <<< (iI ((w i : Nat) : Int) &&& 31) = iI ((2 ^ (w i) : Nat) : Int) := iI_pow (by omega)
        have p64 : 2 ^ (w i) < 64 := Nat.lt_of_lt_of_le (Nat.pow_lt_pow_right (by omega) (show w i < 6 by omega)) (by decide)
        have hs2 : s ||| 2 ^ (w i) < 64 := Nat.or_lt_two_pow (n := 6) hs p64
        rw [bI_f cb, if_n (by decide), ck_iI (by omega) (by omega) (by omega), ep, iI_or, bn_eq, bn_eq]
        have htl' : tlw K (fun _ _ => True) (fun _ => 1) R w i := (tlw_s (by omega)).mpr ⟨htl, by omega, fun _ => ⟨trivial, by rw [c0]; omega⟩⟩
        obtain ⟨G38', x, r1, r2, r3⟩ := ih (by omega) (c / (K + 1)) (s ||| 2 ^ (w i)) (gI G38 153 i (iI (w i : Nat))) hc2 hs2 d2 row (fun x hx => by
          rw [cks, Nat.testBit_or, Nat.testBit_two_pow, Bool.or_eq_true, decide_eq_true_eq]
          by_cases ex : w i = x
          · rw [if_pos ex]
            exact ⟨fun _ => by omega, fun _ => Or.inr ex⟩
          · rw [if_neg ex, Nat.zero_add]
            exact ⟨fun z => (hsn x hx).mp (z.resolve_right ex), fun z => Or.inl ((hsn x hx).mpr z)⟩) htl'
        exact ⟨G38', x, r1, fun a q a1 => by rw [r2 a q a1, fr a q a1], r3⟩
theorem isRow_m (hR : R ≤ 6) (hK : K ≤ 6) (hq : QP G43 R K gs cs) (hF : 200000 ≤ F) {k : Nat} (hk : k < 200000) : ∃ G38' x, f_X12_isRow F G38 G43 (iI k) = some (x, G38') ∧ (∀ a q, a ≠ 153 → G38'.1 a q = G38.1 a q) ∧ ((x = 1 ∧ cpl K (fun _ _ => True) (fun _ => 1) (fun _ => 0) 0 R (dg (K + 1) R k) ∧ ∀ j, j < R → G38'.1 153 j = iI (dg (K + 1) R k j : Nat)) ∨ (x = 0 ∧ ¬ cpl K (fun _ _ => True) (fun _ => 1) (fun _ => 0) 0 R (dg (K + 1) R k))) := by
  obtain ⟨G38', x, r1, r2, r3⟩ := isRow_l (F := F) (k := k) hR hK hq hF R F (by omega) (Nat.le_refl _) k 0 G38 hk (by omega) (fun _ _ => rfl) (fun j a b => absurd a (by omega)) (fun x hx => by
    rw [Nat.zero_testBit, Nat.sub_self]
    exact ⟨fun z => (by cases z), fun z => absurd z (Nat.lt_irrefl 0)⟩) tlw_R
  refine ⟨G38', x, ?_, r2, ?_⟩
  · unfold f_X12_isRow
    rw [hq.1, bn_eq, show (1 : Int32) = iI 1 from rfl, iI_sub]
    exact r1
  · rw [tlw_0]
    exact r3
end PR
