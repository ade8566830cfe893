/-! THE TURN: the best of the codes -/
section PR
variable {F : Nat} {G1 G2 G3 G4 G5 G6 G7 G8 G9 G10 G11 G12 G13 G14 G15 G16 G17 G23 G24 G25 G26 G29 G30 G31 G32 G33 G34 G35 G36 G37 G38 G41 : Grp} {vn gn cn d n pn ln tn sn wn R : Nat} {tp tl Ln qs bt : Nat → Nat} {kq : Nat → Int} {P L T : Nat → Nat → Int} {X W : Nat → Nat → Nat}
/-- the codes below k that are ways -/
def cdW (wn : Nat) (al : Nat → Nat → Prop) (M : Nat → Nat) (R k : Nat) (w : Wy) : Prop := (∃ j, j < k ∧ w = dg (wn + 1) R j) ∧ cpl wn al M (fun _ => 0) 0 R w
/-- row and best row copied -/
theorem copy_m (hqr : QR G38 R qs) (hR : R ≤ 6) (hF : 200000 ≤ F) {w : Wy} (hw : ∀ j, j < R → G38.1 153 j = iI (w j : Nat)) (k91 : Grp → Grp → Grp → Grp → Grp → Grp → Int32 → Int32 → Int32 → Int32 → Option (Grp × Grp × Grp)) (v2 v3 v4 : Int32) (c : Nat) : ∃ G38', f_X12_turns_l153 F k91 F G23 G24 G25 G32 G37 G38 v2 v3 v4 (iI c) 0 = k91 G23 G24 G25 G32 G37 G38' v2 v3 v4 (iI ((c : Int) + 1)) ∧ QR G38' R qs ∧ ∀ j, j < R → G38'.1 154 j = iI (w j : Nat) := by
  have key := up_ind (n := R) (Q := fun fu i => ∀ G38 : Grp, QR G38 R qs → (∀ j, j < R → G38.1 153 j = iI (w j : Nat)) → (∀ j, j < i → G38.1 154 j = iI (w j : Nat)) → ∃ G38', f_X12_turns_l153 F k91 fu G23 G24 G25 G32 G37 G38 v2 v3 v4 (iI c) (iI i) = k91 G23 G24 G25 G32 G37 G38' v2 v3 v4 (iI ((c : Int) + 1)) ∧ QR G38' R qs ∧ ∀ j, j < R → G38'.1 154 j = iI (w j : Nat)) ?_ ?_
  · exact key 0 F (by omega) (by omega) G38 hqr hw (fun j hj => absurd hj (Nat.not_lt_zero j))
  · intro fu G38 hqr hw hb
    refine ⟨G38, ?_, hqr, hb⟩
    show f_X12_turns_l153b F k91 (f_X12_turns_l153 F k91 fu) G23 G24 G25 G32 G37 G38 _ _ _ _ _ = _
    unfold f_X12_turns_l153b
    rw [hqr.1, if_p (by rw [iI_le (by omega) (by omega) (by omega) (by omega)]; omega), bn_eq, show (1 : Int32) = iI 1 from rfl, iI_add]
  · intro i fu hi ih G38 hqr hw hb
    have ci : (iI (i : Int)).toNatClampNeg = i := by rw [iI_cl (by omega) (by omega)]; omega
    obtain ⟨G38', r1, r2⟩ := ih (gI G38 154 i (iI (w i : Nat))) ⟨by rw [gI_g, if_neg (by omega)]; exact hqr.1, fun j hj => by rw [gI_g, if_neg (by omega)]; exact hqr.2 j hj⟩ (fun j hj => by rw [gI_g, if_neg (by omega)]; exact hw j hj) (fun j hj => by
      rw [gI_g]
      by_cases e : j = i
      · rw [if_pos ⟨rfl, e⟩, e]
      · rw [if_neg fun z => e z.2]; exact hb j (by omega))
    have r1 : f_X12_turns_l153 F k91 fu G23 G24 G25 G32 G37 (gI G38 154 i (iI (w i : Nat))) v2 v3 v4 (iI c) (iI ((i : Int) + 1)) = _ := r1
    refine ⟨G38', ?_, r2⟩
    show f_X12_turns_l153b F k91 (f_X12_turns_l153 F k91 fu) G23 G24 G25 G32 G37 G38 _ _ _ _ _ = _
    unfold f_X12_turns_l153b
    rw [hqr.1, if_n (by rw [iI_le (by omega) (by omega) (by omega) (by omega)]; omega), ck_iI (by omega) (by omega) (by omega), ck_iI (by omega) (by omega) (by omega), ci, hw i hi, bn_eq, bn_eq, show (1 : Int32) = iI 1 from rfl, iI_add]
    exact r1
theorem codes_m (hw : RTr G16 G37 wn W) (hv : QM F G24 G25 G32 G37 W wn R qs bt kq) (h23 : G23.1 91 0 = iI d) (hF : 200000 ≤ F) {N : Nat} (hN : N = (wn + 1) ^ R) : ∀ k fu, k ≤ N → N - k < fu → ∀ (G38 : Grp) (b0 b : Wy) (bg bp : Int), QR G38 R qs → (∀ j, j < R → G38.1 154 j = iI (b j : Nat)) → (-1 ≤ bg ∧ bg ≤ 6 ∧ 0 ≤ bp ∧ bp ≤ 6) → SP R (cdW wn (alT W d bt) (fun t => W t 2) R k) (fun w => (gk wn w 0 R : Int)) (fun w => pk' wn (ptT kq) w 0 R) (-1) 0 b0 bg bp b → ∃ G38' b' bg' bp', f_X12_turns_l91 F fu G23 G24 G25 G32 G37 G38 (iI N) (iI bg) (iI bp) (iI k) = f_X12_turns_l191 F F G23 G24 G25 G32 G37 G38' 0 ∧ QR G38' R qs ∧ (∀ j, j < R → G38'.1 154 j = iI (b' j : Nat)) ∧ SP R (cdW wn (alT W d bt) (fun t => W t 2) R N) (fun w => (gk wn w 0 R : Int)) (fun w => pk' wn (ptT kq) w 0 R) (-1) 0 b0 bg' bp' b' := by
  obtain ⟨hR, hq⟩ := id hv
  obtain ⟨h1, h2, h3, h4, h5⟩ := id hw
  have N7 : N ≤ 117649 := by rw [hN]; exact pow7 (by omega) hR
  refine up_ind (n := N) (Q := fun fu k => ∀ (G38 : Grp) (b0 b : Wy) (bg bp : Int), QR G38 R qs → (∀ j, j < R → G38.1 154 j = iI (b j : Nat)) → (-1 ≤ bg ∧ bg ≤ 6 ∧ 0 ≤ bp ∧ bp ≤ 6) → SP R (cdW wn (alT W d bt) (fun t => W t 2) R k) (fun w => (gk wn w 0 R : Int)) (fun w => pk' wn (ptT kq) w 0 R) (-1) 0 b0 bg bp b → ∃ G38' b' bg' bp', f_X12_turns_l91 F fu G23 G24 G25 G32 G37 G38 (iI N) (iI bg) (iI bp) (iI k) = f_X12_turns_l191 F F G23 G24 G25 G32 G37 G38' 0 ∧ QR G38' R qs ∧ (∀ j, j < R → G38'.1 154 j = iI (b' j : Nat)) ∧ SP R (cdW wn (alT W d bt) (fun t => W t 2) R N) (fun w => (gk wn w 0 R : Int)) (fun w => pk' wn (ptT kq) w 0 R) (-1) 0 b0 bg' bp' b') ?_ ?_
  · intro fu G38 b0 b bg bp hqr hb hbb hsp
    refine ⟨G38, b, bg, bp, ?_, hqr, hb, hsp⟩
    show f_X12_turns_l91b F (f_X12_turns_l91 F fu) G23 G24 G25 G32 G37 G38 _ _ _ _ = _
    unfold f_X12_turns_l91b
    rw [if_p (by rw [iI_le (by omega) (by omega) (by omega) (by omega)]; omega)]
  · intro k fu hk ih G38 b0 b bg bp hqr hb hbb hsp
    obtain ⟨G38a, x, a1, a2, a3, a4⟩ := isTurn_m (F := F) (k := k) hw hv h23 hF (by omega) hqr
    have ih' : ∀ (G38 : Grp) (b : Wy) (bg bp : Int), QR G38 R qs → (∀ j, j < R → G38.1 154 j = iI (b j : Nat)) → (-1 ≤ bg ∧ bg ≤ 6 ∧ 0 ≤ bp ∧ bp ≤ 6) → SP R (cdW wn (alT W d bt) (fun t => W t 2) R (k + 1)) (fun w => (gk wn w 0 R : Int)) (fun w => pk' wn (ptT kq) w 0 R) (-1) 0 b0 bg bp b → ∃ G38' b' bg' bp', f_X12_turns_l91 F fu G23 G24 G25 G32 G37 G38 (iI N) (iI bg) (iI bp) (iI ((k : Int) + 1)) = f_X12_turns_l191 F F G23 G24 G25 G32 G37 G38' 0 ∧ QR G38' R qs ∧ (∀ j, j < R → G38'.1 154 j = iI (b' j : Nat)) ∧ SP R (cdW wn (alT W d bt) (fun t => W t 2) R N) (fun w => (gk wn w 0 R : Int)) (fun w => pk' wn (ptT kq) w 0 R) (-1) 0 b0 bg' bp' b' := fun G38 b bg bp => ih G38 b0 b bg bp
    have nk : ¬ iI (N : Int) ≤ iI (k : Int) := by rw [iI_le (by omega) (by omega) (by omega) (by omega)]; omega
    have o1 : (1 : Int32) = iI 1 := rfl
    rcases a4 with ⟨rfl, c1, c2⟩ | ⟨rfl, c1⟩
    · -- a way
      have wl : ∀ j, j < R → dg (wn + 1) R k j ≤ wn ∧ G38a.1 153 j = iI (dg (wn + 1) R k j : Nat) := fun j hj => ⟨by have := dg_lt (B := wn + 1) (by omega) R k j hj; omega, c2 j hj⟩
      have t1 := turnedIn_m (F := F) h3 h1 hR a2 hF wl
      have t2 := keptIn_m (F := F) h3 h1 hv a2 hF wl
      have gb := gk_le wn (dg (wn + 1) R k) 0 R
      have pb : 0 ≤ pk' wn (ptT kq) (dg (wn + 1) R k) 0 R ∧ pk' wn (ptT kq) (dg (wn + 1) R k) 0 R ≤ R := sumI_01 (fun i => by
        unfold ptT
        split
        · split <;> omega
        · omega) R
      have hWx : ∀ x, cdW wn (alT W d bt) (fun t => W t 2) R (k + 1) x ↔ (cdW wn (alT W d bt) (fun t => W t 2) R k x ∨ x = dg (wn + 1) R k) := fun x => by
        constructor
        · rintro ⟨⟨j, j1, j2⟩, j3⟩
          by_cases e : j = k
          · exact Or.inr (by rw [j2, e])
          · exact Or.inl ⟨⟨j, by omega, j2⟩, j3⟩
        · rintro (⟨⟨j, j1, j2⟩, j3⟩ | rfl)
          · exact ⟨⟨j, by omega, j2⟩, j3⟩
          · exact ⟨⟨k, by omega, rfl⟩, c1⟩
      have ho : ∀ x, cdW wn (alT W d bt) (fun t => W t 2) R k x → leR R x (dg (wn + 1) R k) := fun x hx => by
        obtain ⟨⟨j, j1, rfl⟩, -⟩ := hx
        obtain ⟨q, q1, q2, q3⟩ := dg_lex (B := wn + 1) (by omega) R j k j1 (by omega)
        exact Or.inr ⟨q, q1, q2, q3⟩
      have s1 : btr (gk wn (dg (wn + 1) R k) 0 R : Int) (pk' wn (ptT kq) (dg (wn + 1) R k) 0 R) bg bp → SP R (cdW wn (alT W d bt) (fun t => W t 2) R (k + 1)) (fun w => (gk wn w 0 R : Int)) (fun w => pk' wn (ptT kq) w 0 R) (-1) 0 b0 (gk wn (dg (wn + 1) R k) 0 R : Int) (pk' wn (ptT kq) (dg (wn + 1) R k) 0 R) (dg (wn + 1) R k) := (SP_add hsp (dg (wn + 1) R k) hWx ho).1
      have s2 : ¬ btr (gk wn (dg (wn + 1) R k) 0 R : Int) (pk' wn (ptT kq) (dg (wn + 1) R k) 0 R) bg bp → SP R (cdW wn (alT W d bt) (fun t => W t 2) R (k + 1)) (fun w => (gk wn w 0 R : Int)) (fun w => pk' wn (ptT kq) w 0 R) (-1) 0 b0 bg bp b := (SP_add hsp (dg (wn + 1) R k) hWx ho).2
      generalize hg : gk wn (dg (wn + 1) R k) 0 R = g at *
      generalize hp : pk' wn (ptT kq) (dg (wn + 1) R k) 0 R = p at *
      have skip : ¬ btr (g : Int) p bg bp → ∃ G38' b' bg' bp', f_X12_turns_l91 F fu G23 G24 G25 G32 G37 G38a (iI N) (iI bg) (iI bp) (iI ((k : Int) + 1)) = f_X12_turns_l191 F F G23 G24 G25 G32 G37 G38' 0 ∧ QR G38' R qs ∧ (∀ j, j < R → G38'.1 154 j = iI (b' j : Nat)) ∧ SP R (cdW wn (alT W d bt) (fun t => W t 2) R N) (fun w => (gk wn w 0 R : Int)) (fun w => pk' wn (ptT kq) w 0 R) (-1) 0 b0 bg' bp' b' := fun nb => ih' G38a b bg bp a2 (fun j hj => by rw [a3 154 j (by omega) (by omega)]; exact hb j hj) hbb (s2 nb)
      have take : btr (g : Int) p bg bp → ∃ G38' b' bg' bp', f_X12_turns_l153 F (f_X12_turns_l91 F fu) F G23 G24 G25 G32 G37 G38a (iI N) (iI (g : Int)) (iI p) (iI k) 0 = f_X12_turns_l191 F F G23 G24 G25 G32 G37 G38' 0 ∧ QR G38' R qs ∧ (∀ j, j < R → G38'.1 154 j = iI (b' j : Nat)) ∧ SP R (cdW wn (alT W d bt) (fun t => W t 2) R N) (fun w => (gk wn w 0 R : Int)) (fun w => pk' wn (ptT kq) w 0 R) (-1) 0 b0 bg' bp' b' := fun nb => by
        obtain ⟨G38b, z1, z2, z3⟩ := copy_m (F := F) (G23 := G23) (G24 := G24) (G25 := G25) (G32 := G32) (G37 := G37) a2 hR hF c2 (f_X12_turns_l91 F fu) (iI N) (iI (g : Int)) (iI p) k
        obtain ⟨G38', b', bg', bp', y1, y2⟩ := ih' G38b (dg (wn + 1) R k) g p z2 z3 (by omega) (s1 nb)
        exact ⟨G38', b', bg', bp', z1.trans y1, y2⟩
      have head : f_X12_turns_l91 F (fu + 1) G23 G24 G25 G32 G37 G38 (iI N) (iI bg) (iI bp) (iI k) = if iI (g : Int) < iI bg then f_X12_turns_l91 F fu G23 G24 G25 G32 G37 G38a (iI N) (iI bg) (iI bp) (iI ((k : Int) + 1)) else if iI (g : Int) = iI bg then if iI bp < iI p then f_X12_turns_l153 F (f_X12_turns_l91 F fu) F G23 G24 G25 G32 G37 G38a (iI N) (iI (g : Int)) (iI p) (iI k) 0 else f_X12_turns_l91 F fu G23 G24 G25 G32 G37 G38a (iI N) (iI bg) (iI bp) (iI ((k : Int) + 1)) else f_X12_turns_l153 F (f_X12_turns_l91 F fu) F G23 G24 G25 G32 G37 G38a (iI N) (iI (g : Int)) (iI p) (iI k) 0 := by
        show f_X12_turns_l91b F (f_X12_turns_l91 F fu) G23 G24 G25 G32 G37 G38 _ _ _ _ = _
        unfold f_X12_turns_l91b
        rw [if_n nk, a1, ob_s]
        dsimp only
        rw [if_n (by decide), t1, ob_s, t2, ob_s, bn_eq, o1, iI_add]
      rw [head]
      by_cases e1 : (g : Int) < bg
      · rw [if_p (by rw [iI_lt (by omega) (by omega) (by omega) (by omega)]; exact e1)]
        exact skip (by unfold btr; omega)
      · rw [if_n (by rw [iI_lt (by omega) (by omega) (by omega) (by omega)]; exact e1)]
        by_cases e2 : (g : Int) = bg
        · rw [if_p (by rw [e2])]
          by_cases e3 : bp < p
          · rw [if_p (by rw [iI_lt (by omega) (by omega) (by omega) (by omega)]; exact e3)]
            exact take (by unfold btr; omega)
          · rw [if_n (by rw [iI_lt (by omega) (by omega) (by omega) (by omega)]; exact e3)]
            exact skip (by unfold btr; omega)
        · rw [if_n (by rw [iI_eq (by omega) (by omega) (by omega) (by omega)]; exact e2)]
          exact take (by unfold btr; omega)
    · -- no way
      obtain ⟨G38', b', bg', bp', r1, r2⟩ := ih' G38a b bg bp a2 (fun j hj => by rw [a3 154 j (by omega) (by omega)]; exact hb j hj) hbb (SP_congr hsp (fun w => by
        constructor
        · rintro ⟨⟨j, j1, j2⟩, j3⟩
          by_cases e : j = k
          · rw [e] at j2
            rw [j2] at j3
            exact absurd j3 c1
          · exact ⟨⟨j, by omega, j2⟩, j3⟩
        · rintro ⟨⟨j, j1, j2⟩, j3⟩
          exact ⟨⟨j, by omega, j2⟩, j3⟩) (fun w _ => ⟨rfl, rfl⟩))
      refine ⟨G38', b', bg', bp', ?_, r2⟩
      show f_X12_turns_l91b F (f_X12_turns_l91 F fu) G23 G24 G25 G32 G37 G38 _ _ _ _ = _
      unfold f_X12_turns_l91b
      rw [if_n nk, a1, ob_s]
      dsimp only
      rw [if_p rfl, bn_eq, o1, iI_add]
      exact r1
theorem all_m (hw : RTr G16 G37 wn W) (hqr : QR G38 R qs) (hR : R ≤ 6) (hF : 200000 ≤ F) : f_X12_turns_l60 F F G23 G24 G25 G32 G37 G38 1 0 = f_X12_turns_l91 F F G23 G24 G25 G32 G37 G38 (iI ((wn + 1) ^ R : Nat)) (iI (-1)) (iI 0) (iI 0) := by
  obtain ⟨h1, h2, h3, h4, h5⟩ := id hw
  have key := up_ind (n := R) (Q := fun fu i => f_X12_turns_l60 F fu G23 G24 G25 G32 G37 G38 (iI ((wn + 1) ^ i : Nat)) (iI i) = f_X12_turns_l91 F F G23 G24 G25 G32 G37 G38 (iI ((wn + 1) ^ R : Nat)) (iI (-1)) (iI 0) (iI 0)) ?_ ?_
  · exact key 0 F (by omega) (by omega)
  · intro fu
    show f_X12_turns_l60b F (f_X12_turns_l60 F fu) G23 G24 G25 G32 G37 G38 _ _ = _
    unfold f_X12_turns_l60b
    rw [hqr.1, if_p (by rw [iI_le (by omega) (by omega) (by omega) (by omega)]; omega), m1_iI]
    rfl
  · intro i fu hi ih
    have p7 := pow7 (B := wn + 1) (i := i) (by omega) (by omega)
    have ih : f_X12_turns_l60 F fu G23 G24 G25 G32 G37 G38 (iI ((wn + 1) ^ (i + 1) : Nat)) (iI ((i : Int) + 1)) = _ := ih
    have e : iI (((wn + 1) ^ (i + 1) : Nat) : Int) = iI ((((wn + 1) ^ i : Nat) : Int) * ((wn : Int) + 1)) := by rw [Nat.pow_succ, Int.natCast_mul]; rfl
    rw [e] at ih
    show f_X12_turns_l60b F (f_X12_turns_l60 F fu) G23 G24 G25 G32 G37 G38 _ _ = _
    unfold f_X12_turns_l60b
    rw [hqr.1, if_n (by rw [iI_le (by omega) (by omega) (by omega) (by omega)]; omega), h3, bn_eq, bn_eq, show (1 : Int32) = iI 1 from rfl, iI_add, iI_mul, iI_add]
    exact ih
/-- the best of the reference -/
theorem best_m (hw : RTr G16 G37 wn W) (hv : QM F G24 G25 G32 G37 W wn R qs bt kq) (h23 : G23.1 91 0 = iI d) (hF : 200000 ≤ F) (hqr : QR G38 R qs) : ∃ G38' w, f_X12_turns_l60 F F G23 G24 G25 G32 G37 G38 1 0 = f_X12_turns_l191 F F G23 G24 G25 G32 G37 G38' 0 ∧ QR G38' R qs ∧ (∀ j, j < R → G38'.1 154 j = iI (w j : Nat)) ∧ BST R (cdW wn (alT W d bt) (fun t => W t 2) R ((wn + 1) ^ R)) (fun w => (gk wn w 0 R : Int)) (fun w => pk' wn (ptT kq) w 0 R) w := by
  obtain ⟨hR, hq⟩ := id hv
  have h1 := hw.1
  have N7 : (wn + 1) ^ R ≤ 117649 := pow7 (by omega) hR
  obtain ⟨b0, hb0⟩ : ∃ b0 : Wy, ∀ i, G38.1 154 i = iI (b0 i : Nat) := by
    refine ⟨fun i => Classical.choose (iI_nat (G38.1 154 i)), fun i => ?_⟩
    exact (Classical.choose_spec (iI_nat (G38.1 154 i))).2
  obtain ⟨G38', b', bg', bp', r1, r2, r3, r4⟩ := codes_m (F := F) (N := (wn + 1) ^ R) hw hv h23 hF rfl 0 F (by omega) (by omega) G38 b0 b0 (-1) 0 hqr (fun j _ => hb0 j) (by omega) (SP_nil fun w hw' => by
    obtain ⟨⟨j, j1, -⟩, -⟩ := hw'
    exact absurd j1 (Nat.not_lt_zero j))
  obtain ⟨k, k1, k2⟩ := dg_all (B := wn + 1) (by omega) R (fun _ => wn) (fun i _ => by omega)
  obtain ⟨w, s1, s2, s3, s4⟩ := r4.best (w0 := dg (wn + 1) R k) ⟨⟨k, k1, rfl⟩, cpl_cg (y := fun _ => 0) (w := fun _ => wn) ⟨fun i hi => absurd hi (Nat.not_lt_zero i), fun i _ _ => ⟨Nat.le_refl _, fun h => absurd h (Nat.lt_irrefl _)⟩, fun c hc => by
    rw [ck_0]
    · exact Nat.zero_le _
    · intro i _ e
      have e : wn = c := e
      omega⟩ k2⟩ (fun w _ => Int.natCast_nonneg _)
  refine ⟨G38', w, ?_, r2, fun j hj => by rw [r3 j hj, s4 j hj], s1⟩
  rw [all_m hw hqr hR hF]
  exact r1
end PR
