/-! THE PAIRING: both -/
theorem cnt_pos {p : Nat → Prop} [DecidablePred p] {i : Nat} (hi : p i) : ∀ n, i < n → 1 ≤ cnt p n := by
  intro n
  induction n with
  | zero => intro h; omega
  | succ n ih =>
    intro h
    by_cases e : i = n
    · subst e
      rw [cnt_t (p := p) hi]
      omega
    · have := ih (by omega)
      rw [cnt_s]
      omega
theorem cnt_two {p : Nat → Prop} [DecidablePred p] {i j : Nat} (hi : p i) (hj : p j) (hij : i < j) : ∀ n, j < n → 2 ≤ cnt p n := by
  intro n
  induction n with
  | zero => intro h; omega
  | succ n ih =>
    intro h
    by_cases e : j = n
    · subst e
      have := cnt_pos hi j hij
      rw [cnt_t (p := p) hj]
      omega
    · have := ih (by omega)
      rw [cnt_s]
      omega
theorem cpl_inj {K R : Nat} {y w : Wy} (h : cpl K (fun _ _ => True) (fun _ => 1) y 0 R w) {i j : Nat} (hi : i < R) (hj : j < R) (hw : w i < K) (e : w i = w j) : i = j := by
  have c : ck' w (w i) 0 R ≤ 1 := h.2.2 _ hw
  unfold ck' at c
  have pi : w (0 + i) = w i := by rw [Nat.zero_add]
  have pj : w (0 + j) = w i := by rw [Nat.zero_add]; exact e.symm
  by_cases l : i < j
  · have := cnt_two (p := fun k => w (0 + k) = w i) pi pj l R hj
    omega
  · by_cases l2 : j < i
    · have := cnt_two (p := fun k => w (0 + k) = w i) pj pi l2 R hi
      omega
    · omega
theorem PExt.tr {pn pn1 pn2 : Nat} {tp tp1 tp2 : Nat → Nat} {P P1 P2 : Nat → Nat → Int} (h : PExt pn tp P pn1 tp1 P1) (h2 : PExt pn1 tp1 P1 pn2 tp2 P2) : PExt pn tp P pn2 tp2 P2 := by
  obtain ⟨a1, a2, a3⟩ := h
  obtain ⟨b1, b2, b3⟩ := h2
  refine ⟨by omega, fun i hi => ⟨(b2 i (by omega)).1.trans (a2 i hi).1, fun k hk => ((b2 i (by omega)).2 k hk).trans ((a2 i hi).2 k hk)⟩, fun i h1 h2 => ?_⟩
  by_cases c : i < pn1
  · rw [(b2 i c).2 6 (by omega), (b2 i c).2 8 (by omega)]
    exact a3 i h1 c
  · exact b3 i (by omega) h2
def offA (A : Nat → Nat → Int) (g : Nat) : Nat → Nat → Int := fun j k => if j = g ∧ k = 0 then 0 else A j k
theorem RWish.off {G20 G42 : Grp} {gn : Nat} {A : Nat → Nat → Int} (h : RWish G20 G42 gn A) (g : Nat) : RWish (gI G20 79 g (iI 0)) (gI G42 172 g (iI 0)) gn (offA A g) := by
  obtain ⟨h1, h2, h3⟩ := h
  refine ⟨h1, fun j hj => ?_, fun j hj => ?_⟩
  · obtain ⟨a1, a2, a3, a4, a5, a6⟩ := h2 j hj
    unfold offA
    rw [gI_g, gI_g, gI_g, gI_g, gI_g, gI_g, if_neg (show ¬ (80 = 79 ∧ j = g) by omega), if_neg (show ¬ (81 = 79 ∧ j = g) by omega), if_neg (show ¬ (168 = 172 ∧ j = g) by omega), if_neg (show ¬ (169 = 172 ∧ j = g) by omega), if_neg (show ¬ (j = g ∧ 1 = 0) by omega), if_neg (show ¬ (j = g ∧ 2 = 0) by omega)]
    by_cases e : j = g
    · rw [if_pos ⟨rfl, e⟩, if_pos ⟨e, rfl⟩, if_pos ⟨rfl, e⟩]
      exact ⟨rfl, a2, a3, rfl, a5, a6⟩
    · rw [if_neg fun z => e z.2, if_neg fun z => e z.1, if_neg fun z => e z.2]
      exact ⟨a1, a2, a3, a4, a5, a6⟩
  · obtain ⟨a1, a2, a3, a4⟩ := h3 j hj
    unfold offA
    rw [if_neg (show ¬ (j = g ∧ 1 = 0) by omega), if_neg (show ¬ (j = g ∧ 2 = 0) by omega)]
    by_cases e : j = g
    · rw [if_pos ⟨e, rfl⟩]
      exact ⟨Or.inl rfl, a2, a3, fun _ => rfl⟩
    · rw [if_neg fun z => e z.1]
      exact ⟨a1, a2, a3, a4⟩
section PR
variable {F : Nat} {G1 G2 G6 G7 G8 G9 G17 G20 G21 G23 G24 G25 G38 G41 G42 G43 : Grp} {vn gn cn d n pn tn R K : Nat} {tp gs cs : Nat → Nat} {P T A : Nat → Nat → Int} {pt : Nat → Nat → Int} {w1 w2 : Wy}
/-- no room for a further pair: nothing more is made -/
theorem full_c (hp : RPair G7 G9 G25 gn cn d n pn tp P) (h40 : ¬ pn < 40) (hR : R ≤ 6) (hK : K ≤ 6) (hF : 200000 ≤ F) (hb1 : ∀ i, i < R → w1 i ≤ 6 ∧ G17.1 86 i = iI (w1 i : Nat)) (m : Int32) : ∀ i fu, i ≤ R → R - i < fu → f_X10_makePairs_l107 F fu n G6 G7 G8 G9 G17 G20 G21 (iI d) (iI R) (iI K) m (iI i) = some (m, n, G7, G9, G17, G20, G21) := by
  refine up_ind (n := R) (Q := fun fu i => f_X10_makePairs_l107 F fu n G6 G7 G8 G9 G17 G20 G21 (iI d) (iI R) (iI K) m (iI i) = some (m, n, G7, G9, G17, G20, G21)) ?_ ?_
  · intro fu
    show f_X10_makePairs_l107b F (f_X10_makePairs_l107 F fu) n G6 G7 G8 G9 G17 G20 G21 _ _ _ _ _ = _
    unfold f_X10_makePairs_l107b
    rw [if_p (by rw [iI_le (by omega) (by omega) (by omega) (by omega)]; omega)]
  · intro i fu hi ih
    have o1 : (1 : Int32) = iI 1 := rfl
    have ih : f_X10_makePairs_l107 F fu n G6 G7 G8 G9 G17 G20 G21 (iI d) (iI R) (iI K) m (iI ((i : Int) + 1)) = _ := ih
    obtain ⟨b1, b2⟩ := hb1 i hi
    have ci : (iI (i : Int)).toNatClampNeg = i := by rw [iI_cl (by omega) (by omega)]; omega
    show f_X10_makePairs_l107b F (f_X10_makePairs_l107 F fu) n G6 G7 G8 G9 G17 G20 G21 _ _ _ _ _ = _
    unfold f_X10_makePairs_l107b
    rw [if_n (by rw [iI_le (by omega) (by omega) (by omega) (by omega)]; omega), ck_iI (by omega) (by omega) (by omega), ci, b2, bn_eq]
    by_cases c : K ≤ w1 i
    · rw [if_p (by rw [iI_le (by omega) (by omega) (by omega) (by omega)]; omega), bn_eq, o1, iI_add]
      exact ih
    · rw [if_n (by rw [iI_le (by omega) (by omega) (by omega) (by omega)]; omega), ck_iI (by omega) (by omega) (by omega), ck_iI (by omega) (by omega) (by omega), no_pair hp h40, ob_s]
      dsimp only
      rw [if_p (by decide +kernel), bn_eq, o1, iI_add]
      exact ih
theorem make_both (hR : R ≤ 6) (hK : K ≤ 6) (hq : QP G43 R K gs cs) (hg1 : ∀ i, i < R → G21.1 82 i = iI (gs i : Nat) ∧ gs i < gn) (hc1 : ∀ c, c < K → G21.1 83 c = iI (cs c : Nat) ∧ cs c < cn) (hci : ∀ j e, j < K → e < K → cs j = cs e → j = e) (hd : d < 3600) (h23 : G23.1 91 0 = iI d) (hF : 200000 ≤ F) (hb1 : ∀ i, i < R → G17.1 86 i = iI (w1 i : Nat)) (hb2 : ∀ i, i < R → G38.1 154 i = iI (w2 i : Nat)) (hmw : ∀ i, i < R → (w2 i < K ∧ w1 i = w2 i) ∨ (w2 i = K ∧ w1 i = 6)) (hinj : ∀ i j, i < R → j < R → w2 i < K → w2 i = w2 j → i = j) : ∀ i fu, i ≤ R → R - i < fu → R - i < fu → ∀ (n : Nat) (G7 G9 G20 G25 G42 : Grp) (pn : Nat) (tp : Nat → Nat) (P A : Nat → Nat → Int) (m : Nat), RPair G7 G9 G25 gn cn d n pn tp P → RWish G20 G42 gn A → (∀ j, i ≤ j → j < R → w2 j < K → ∀ q, q < pn → ¬ pOpen P (cs (w2 j) : Nat) q) → m ≤ i → ∃ (n' : Nat) (G7' G9' G20' G25' G42' : Grp) (m' : Nat), f_X10_makePairs_l107 F fu n G6 G7 G8 G9 G17 G20 G21 (iI d) (iI R) (iI K) (iI m) (iI i) = some (iI m', n', G7', G9', G17, G20', G21) ∧ f_X12_pairing_l202 F fu G23 G24 G25 G38 G41 G42 G43 (iI m) (iI i) = some (iI m', G25', G38, G42', G43) ∧ n ≤ n' ∧ (∃ pn' tp' P', RPair G7' G9' G25' gn cn d n' pn' tp' P' ∧ PExt pn tp P pn' tp' P') ∧ ∃ A', RWish G20' G42' gn A' := by
  obtain ⟨q1, q2, q3, q4⟩ := id hq
  refine up_ind (n := R) (Q := fun fu i => R - i < fu → ∀ (n : Nat) (G7 G9 G20 G25 G42 : Grp) (pn : Nat) (tp : Nat → Nat) (P A : Nat → Nat → Int) (m : Nat), RPair G7 G9 G25 gn cn d n pn tp P → RWish G20 G42 gn A → (∀ j, i ≤ j → j < R → w2 j < K → ∀ q, q < pn → ¬ pOpen P (cs (w2 j) : Nat) q) → m ≤ i → ∃ (n' : Nat) (G7' G9' G20' G25' G42' : Grp) (m' : Nat), f_X10_makePairs_l107 F fu n G6 G7 G8 G9 G17 G20 G21 (iI d) (iI R) (iI K) (iI m) (iI i) = some (iI m', n', G7', G9', G17, G20', G21) ∧ f_X12_pairing_l202 F fu G23 G24 G25 G38 G41 G42 G43 (iI m) (iI i) = some (iI m', G25', G38, G42', G43) ∧ n ≤ n' ∧ (∃ pn' tp' P', RPair G7' G9' G25' gn cn d n' pn' tp' P' ∧ PExt pn tp P pn' tp' P') ∧ ∃ A', RWish G20' G42' gn A') ?_ ?_
  · intro fu hfu n G7 G9 G20 G25 G42 pn tp P A m hp hwi hfr hm
    refine ⟨n, G7, G9, G20, G25, G42, m, ?_, ?_, Nat.le_refl _, ⟨pn, tp, P, hp, PExt.rf _ _ _⟩, A, hwi⟩
    · show f_X10_makePairs_l107b F (f_X10_makePairs_l107 F fu) n G6 G7 G8 G9 G17 G20 G21 _ _ _ _ _ = _
      unfold f_X10_makePairs_l107b
      rw [if_p (by rw [iI_le (by omega) (by omega) (by omega) (by omega)]; omega)]
    · show f_X12_pairing_l202b F (f_X12_pairing_l202 F fu) G23 G24 G25 G38 G41 G42 G43 _ _ = _
      unfold f_X12_pairing_l202b
      rw [q1, if_p (by rw [iI_le (by omega) (by omega) (by omega) (by omega)]; omega)]
  · intro i fu hi ih hfu n G7 G9 G20 G25 G42 pn tp P A m hp hwi hfr hm
    have o1 : (1 : Int32) = iI 1 := rfl
    have nR : ¬ iI (R : Int) ≤ iI (i : Int) := by rw [iI_le (by omega) (by omega) (by omega) (by omega)]; omega
    have ci : (iI (i : Int)).toNatClampNeg = i := by rw [iI_cl (by omega) (by omega)]; omega
    obtain ⟨p1, p2, p3, p4, p5, p6, p7, p8, p9, p10⟩ := id hp
    have b1 := hb1 i hi
    have b2 := hb2 i hi
    obtain ⟨g1, g2⟩ := hg1 i hi
    by_cases c40 : pn < 40
    · have n40 : ¬ 40 ≤ iI (pn : Int) := by rw [show (40 : Int32) = iI 40 from rfl, iI_le (by omega) (by omega) (by omega) (by omega)]; omega
      rcases hmw i hi with ⟨u1, u2⟩ | ⟨u1, u2⟩
      · -- a pair is made
        rw [u2] at b1
        obtain ⟨c1, c2⟩ := hc1 _ u1
        obtain ⟨G7a, G9a, G25a, a1, a2, a3⟩ := add_pair (F := F) hp hd h23 (g := (gs i : Nat)) (c := (cs (w2 i) : Nat)) (by omega) (by omega) (hfr i (Nat.le_refl _) hi u1) c40
        obtain ⟨n', G7', G9', G20', G25', G42', m', r1, r2, r3, ⟨pn', tp', P', r4, r5⟩, r6⟩ := ih (by omega) (n + 1) G7a G9a (gI G20 79 (gs i) (iI 0)) G25a (gI G42 172 (gs i) (iI 0)) (pn + 1) _ _ _ (m + 1) a3 (hwi.off (gs i)) (fun j z1 z2 z3 q z4 => by
          unfold pOpen adP
          by_cases eq : q = pn
          · rw [if_pos eq, if_pos eq]
            intro z
            have z5 : ((cs (w2 i) : Nat) : Int) = (cs (w2 j) : Nat) := z.1
            have z6 := hci _ _ u1 z3 (by omega)
            have z7 := hinj i j hi z2 u1 z6
            omega
          · rw [if_neg eq, if_neg eq]
            exact hfr j (by omega) z2 z3 q (by omega)) (by omega)
        have r1 : f_X10_makePairs_l107 F fu (n + 1) G6 G7a G8 G9a G17 (gI G20 79 (gs i) (iI 0)) G21 (iI d) (iI R) (iI K) (iI ((m : Int) + 1)) (iI ((i : Int) + 1)) = _ := r1
        have r2 : f_X12_pairing_l202 F fu G23 G24 G25a G38 G41 (gI G42 172 (gs i) (iI 0)) G43 (iI ((m : Int) + 1)) (iI ((i : Int) + 1)) = _ := r2
        have cg : (iI (gs i : Int)).toNatClampNeg = gs i := by rw [iI_cl (by omega) (by omega)]; omega
        have cw : (iI (w2 i : Int)).toNatClampNeg = w2 i := by rw [iI_cl (by omega) (by omega)]; omega
        refine ⟨n', G7', G9', G20', G25', G42', m', ?_, ?_, by omega, ⟨pn', tp', P', r4, adP_ext.tr r5⟩, r6⟩
        · show f_X10_makePairs_l107b F (f_X10_makePairs_l107 F fu) n G6 G7 G8 G9 G17 G20 G21 _ _ _ _ _ = _
          unfold f_X10_makePairs_l107b
          rw [if_n nR, ck_iI (by omega) (by omega) (by omega), ci, b1, bn_eq, if_n (by rw [iI_le (by omega) (by omega) (by omega) (by omega)]; omega), ck_iI (by omega) (by omega) (by omega), ck_iI (by omega) (by omega) (by omega), cw, g1, c1, a1, ob_s]
          dsimp only
          rw [if_n (by rw [m1_iI, iI_eq (by omega) (by omega) (by omega) (by omega)]; omega), ck_iI (by omega) (by omega) (by omega), ck_iI (by omega) (by omega) (by omega), bn_eq, bn_eq, bn_eq, cg, nar_b0, o1, iI_add, iI_add]
          exact r1
        · show f_X12_pairing_l202b F (f_X12_pairing_l202 F fu) G23 G24 G25 G38 G41 G42 G43 _ _ = _
          unfold f_X12_pairing_l202b
          rw [q1, if_n nR, p3, if_n n40, ck_iI (by omega) (by omega) (by omega), ci, b2, q2, if_n (by rw [iI_eq (by omega) (by omega) (by omega) (by omega)]; omega), ck_iI (by omega) (by omega) (by omega), ck_iI (by omega) (by omega) (by omega), ck_iI (by omega) (by omega) (by omega), cw, q3 i hi, q4 _ u1, a2, ob_s]
          dsimp only
          rw [ck_iI (by omega) (by omega) (by omega), ck_iI (by omega) (by omega) (by omega), bn_eq, bn_eq, bn_eq, cg, nar_b0, o1, iI_add, iI_add]
          exact r2
      · rw [u2] at b1
        rw [u1] at b2
        obtain ⟨n', G7', G9', G20', G25', G42', m', r1, r2, r3⟩ := ih (by omega) n G7 G9 G20 G25 G42 pn tp P A m hp hwi (fun j z1 z2 z3 => hfr j (by omega) z2 z3) (by omega)
        have r1 : f_X10_makePairs_l107 F fu n G6 G7 G8 G9 G17 G20 G21 (iI d) (iI R) (iI K) (iI m) (iI ((i : Int) + 1)) = _ := r1
        have r2 : f_X12_pairing_l202 F fu G23 G24 G25 G38 G41 G42 G43 (iI m) (iI ((i : Int) + 1)) = _ := r2
        refine ⟨n', G7', G9', G20', G25', G42', m', ?_, ?_, r3⟩
        · show f_X10_makePairs_l107b F (f_X10_makePairs_l107 F fu) n G6 G7 G8 G9 G17 G20 G21 _ _ _ _ _ = _
          unfold f_X10_makePairs_l107b
          rw [if_n nR, ck_iI (by omega) (by omega) (by omega), ci, b1, bn_eq, if_p (by rw [iI_le (by omega) (by omega) (by omega) (by omega)]; omega), bn_eq, o1, iI_add]
          exact r1
        · show f_X12_pairing_l202b F (f_X12_pairing_l202 F fu) G23 G24 G25 G38 G41 G42 G43 _ _ = _
          unfold f_X12_pairing_l202b
          rw [q1, if_n nR, p3, if_n n40, ck_iI (by omega) (by omega) (by omega), ci, b2, q2, if_p rfl, bn_eq, o1, iI_add]
          exact r2
    · refine ⟨n, G7, G9, G20, G25, G42, m, full_c hp c40 hR hK hF (fun j hj => ⟨by
        rcases hmw j hj with z | z <;> omega, hb1 j hj⟩) (iI m) i _ (by omega) hfu, ?_, Nat.le_refl _, ⟨pn, tp, P, hp, PExt.rf _ _ _⟩, A, hwi⟩
      show f_X12_pairing_l202b F (f_X12_pairing_l202 F fu) G23 G24 G25 G38 G41 G42 G43 _ _ = _
      unfold f_X12_pairing_l202b
      rw [q1, if_n nR, p3, if_p (by rw [show (40 : Int32) = iI 40 from rfl, iI_le (by omega) (by omega) (by omega) (by omega)]; omega)]
theorem call_pairing (hf : RFolk G6 G24 vn gn cn) (hp : RPair G7 G9 G25 gn cn d n pn tp P) (ht : RTell G8 G41 cn d tn T) (hwi : RWish G20 G42 gn A) (hd : d < 3600) (h1 : G1.1 0 0 = iI d) (h23 : G23.1 91 0 = iI d) (hF : 200000 ≤ F) : ok (f_X11_pairing F n G1 G6 G7 G8 G9 G17 G20 G21) (fun q => ok (f_X12_pairing F G23 G24 G25 G38 G41 G42 G43) fun r => q.1 = r.1 ∧ n ≤ q.2.1 ∧ (∃ pn' tp' P', RPair q.2.2.1 q.2.2.2.1 r.2.1 gn cn d q.2.1 pn' tp' P' ∧ PExt pn tp P pn' tp' P') ∧ ∃ A', RWish q.2.2.2.2.2.1 r.2.2.2.1 gn A') := by
  -- the lists
  obtain ⟨R, gs, G21a, G43a, a1, a2, a3, a4, a5⟩ := givers_both (F := F) (G23 := G23) (G41 := G41) hf hp hwi hd hF 0 F (by omega) (by have := hf.2.1; omega) (by have := hf.2.1; omega) 0 (fun _ => 0) G21 (gI (gI G43 91 107 0) 91 108 0) ⟨by omega, by rw [gI_g, if_neg (by omega), gI_g, if_pos ⟨rfl, rfl⟩]; rfl, fun j hj => absurd hj (Nat.not_lt_zero j)⟩ (fun j hj => absurd hj (Nat.not_lt_zero j)) (by rw [gI_g, if_pos ⟨rfl, rfl⟩]; rfl)
  obtain ⟨K, cs, G21b, G43b, b1, b2, b3, b4, b5, b6, b7, b8⟩ := children_both (F := F) (G42 := G42) hf hp ht hd h23 hF 0 F (by omega) (by have := hf.2.2.1; omega) (by have := hf.2.2.1; omega) 0 (fun _ => 0) G21a G43a ⟨by omega, a5, fun j hj => absurd hj (Nat.not_lt_zero j)⟩ (fun j hj => absurd hj (Nat.not_lt_zero j)) (fun j e hj => absurd hj (Nat.not_lt_zero j))
  obtain ⟨hR, a7, a8⟩ := a3
  obtain ⟨hK, b9, b10⟩ := b3
  have hq : QP G43b R K gs cs := ⟨by rw [b8]; exact a7, b9, fun i hi => by rw [b7]; exact (a8 i hi).2, fun c hc => (b10 c hc).2⟩
  have hg1 : ∀ i, i < R → G21b.1 82 i = iI (gs i : Nat) := fun i hi => by rw [b6]; exact (a8 i hi).1
  have hc1 : ∀ c, c < K → G21b.1 83 c = iI (cs c : Nat) := fun c hc => (b10 c hc).1
  have e1 : f_X10_pickGivers F G6 G7 G9 G20 G21 = some (iI R, G21a) := a1
  have e2 : f_X10_pickChildren F G6 G7 G8 G9 G21a (iI d) = some (iI K, G21b) := b1
  have e3 : f_X12_gathers F G23 G24 G25 G41 G42 G43 = some G43b := by
    unfold f_X12_gathers
    rw [bn_eq, bn_eq]
    exact a2.trans b2
  -- the points
  have pb := fun (i c : Nat) (hi : i < R) (hc : c < K) => points_both (F := F) hf hp hwi hd hF (a4 i hi) (b4 c hc).1
  obtain ⟨pt, hpt⟩ : ∃ pt : Nat → Nat → Int, PO F G6 G7 G9 G20 G24 G25 G42 R K gs cs pt := by
    refine ⟨fun i c => @dite _ (i < R ∧ c < K) (Classical.propDecidable _) (fun h => Classical.choose (pb i c h.1 h.2)) (fun _ => 0), fun i c hi hc => ?_⟩
    have e : (@dite _ (i < R ∧ c < K) (Classical.propDecidable _) (fun h => Classical.choose (pb i c h.1 h.2)) (fun _ => 0)) = Classical.choose (pb i c hi hc) := @dif_pos _ (Classical.propDecidable _) ⟨hi, hc⟩ _ _ _
    simp only [e]
    exact Classical.choose_spec (pb i c hi hc)
  obtain ⟨G17a, z1, z2, -⟩ := clear_c (F := F) (v := 84) hR hF G17
  obtain ⟨G17b, Mx, c1, c2, c3, c4⟩ := rows_c (F := F) (G8 := G8) (n := n) (d := d) hR hK hpt hg1 hc1 hF z2
  obtain ⟨G17c, w1, s1, -, s2, s3⟩ := solve_c (F := F) c2 hR c3 (fun i c hi hc => ⟨by
    by_cases q : (c < K ∧ i < R) ∨ (c = K ∧ i < 0)
    · have := hpt i c (by omega) (by omega)
      exact Int.le_trans (by omega) (Int.le_of_eq (if_pos q).symm)
    · exact Int.le_of_eq (if_neg q).symm, c4 i c hi hc⟩) (fun c hc => ite_l (fun _ => by omega) (by omega)) hF
  obtain ⟨G38a, w2, t1, t2, t3⟩ := best_p (F := F) (G23 := G23) (G38 := G38) (G41 := G41) hR hK hq hpt hF
  have mw := match_w (T := K) (R := R) (al := fun _ _ => True) (P := stP2 pt R K 0) (PR := pt) (M := fun _ => 1) (M6 := rmP K) (y := fun _ => 0) hK (fun i hi c hc => by
    constructor
    · intro z
      by_cases q : (c < K ∧ i < R) ∨ (c = K ∧ i < 0)
      · exact ⟨by omega, trivial⟩
      · exact absurd (if_neg q) z
    · rintro ⟨y1, -⟩
      intro z
      have e : stP2 pt R K 0 i c = pt i c := if_pos (Or.inl ⟨y1, hi⟩)
      have z3 := e.symm.trans z
      have := (hpt i c hi y1).1
      omega) (fun i hi c hc _ => if_pos (Or.inl ⟨hc, hi⟩)) (fun c hc _ => if_pos hc) s3 _ t3 (fun w z => z.2) (fun w z => by
    obtain ⟨k, k1, k2⟩ := dg_all (B := K + 1) (by omega) R w (fun i hi => by have := (z.2.1 i (by omega) (by omega)).1; omega)
    exact ⟨dg (K + 1) R k, ⟨⟨k, k1, rfl⟩, cpl_cg z k2⟩, k2⟩)
  obtain ⟨n', G7', G9', G20', G25', G42', m', r1, r2, r3, r4, r5⟩ := make_both (F := F) (G6 := G6) (G8 := G8) (G17 := G17c) (G24 := G24) (G38 := G38a) (G41 := G41) hR hK hq (fun i hi => ⟨hg1 i hi, a4 i hi⟩) (fun c hc => ⟨hc1 c hc, (b4 c hc).1⟩) b5 hd h23 hF s2 t2 mw (fun i j hi hj hw e => cpl_inj t3.1.2 hi hj hw e) 0 F (by omega) (by omega) (by omega) n G7 G9 G20 G25 G42 pn tp P A 0 hp hwi (fun j _ hj hw => fst_none.mp (b4 _ hw).2.1) (Nat.le_refl 0)
  have r1 : f_X10_makePairs_l107 F F n G6 G7 G8 G9 G17c G20 G21b (iI d) (iI R) (iI K) 0 0 = _ := r1
  have r2 : f_X12_pairing_l202 F F G23 G24 G25 G38a G41 G42 G43b 0 0 = _ := r2
  have ec : f_X11_pairing F n G1 G6 G7 G8 G9 G17 G20 G21 = some (iI m', n', G7', G9', G17c, G20', G21b) := by
    unfold f_X11_pairing f_X10_makePairs
    rw [h1, e1, ob_s, bn_eq]
    dsimp only
    rw [e2, ob_s, bn_eq]
    dsimp only
    rw [z1, ob_s, c1, s1, ob_s, r1, ob_s]
  have em : f_X12_pairing F G23 G24 G25 G38 G41 G42 G43 = some (iI m', G25', G38a, G42', G43b) := by
    unfold f_X12_pairing
    rw [e3, ob_s, t1, r2]
  rw [ec, em]
  exact ⟨rfl, r3, r4, r5⟩
end PR
