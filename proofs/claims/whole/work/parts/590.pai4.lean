/-! THE PAIRING: the best of the codes -/
section PR
variable {F : Nat} {G1 G2 G6 G7 G8 G9 G17 G20 G21 G23 G24 G25 G38 G41 G42 G43 : Grp} {vn gn cn d n pn tn R K : Nat} {tp gs cs : Nat → Nat} {P T A : Nat → Nat → Int} {pt : Nat → Nat → Int}
theorem copy_p (hR : R ≤ 6) (h1 : G43.1 91 107 = iI R) (hF : 200000 ≤ F) {w : Wy} (hw : ∀ j, j < R → G38.1 153 j = iI (w j : Nat)) (k38 : Grp → Grp → Grp → Grp → Grp → Grp → Grp → Int32 → Int32 → Int32 → Int32 → Option (Int32 × Grp × Grp × Grp × Grp)) (v1 v2 v3 : Int32) (c : Nat) : ∃ G38', f_X12_pairing_l161 F k38 F G23 G24 G25 G38 G41 G42 G43 v1 v2 v3 (iI c) 0 = k38 G23 G24 G25 G38' G41 G42 G43 v1 v2 v3 (iI ((c : Int) + 1)) ∧ ∀ j, j < R → G38'.1 154 j = iI (w j : Nat) := by
  have o1 : (1 : Int32) = iI 1 := rfl
  have key := up_ind (n := R) (Q := fun fu i => ∀ G38 : Grp, (∀ j, j < R → G38.1 153 j = iI (w j : Nat)) → (∀ j, j < i → G38.1 154 j = iI (w j : Nat)) → ∃ G38', f_X12_pairing_l161 F k38 fu G23 G24 G25 G38 G41 G42 G43 v1 v2 v3 (iI c) (iI i) = k38 G23 G24 G25 G38' G41 G42 G43 v1 v2 v3 (iI ((c : Int) + 1)) ∧ ∀ j, j < R → G38'.1 154 j = iI (w j : Nat)) ?_ ?_
  · exact key 0 F (by omega) (by omega) G38 hw (fun j hj => absurd hj (Nat.not_lt_zero j))
  · intro fu G38 hw hb
    refine ⟨G38, ?_, hb⟩
    show f_X12_pairing_l161b F k38 (f_X12_pairing_l161 F k38 fu) G23 G24 G25 G38 G41 G42 G43 _ _ _ _ _ = _
    unfold f_X12_pairing_l161b
    rw [h1, if_p (by rw [iI_le (by omega) (by omega) (by omega) (by omega)]; omega), bn_eq, o1, iI_add]
  · intro i fu hi ih G38 hw hb
    have ci : (iI (i : Int)).toNatClampNeg = i := by rw [iI_cl (by omega) (by omega)]; omega
    obtain ⟨G38', r1, r2⟩ := ih (gI G38 154 i (iI (w i : Nat))) (fun j hj => by rw [gI_g, if_neg (by omega)]; exact hw j hj) (fun j hj => by
      rw [gI_g]
      by_cases e : j = i
      · rw [if_pos ⟨rfl, e⟩, e]
      · rw [if_neg fun z => e z.2]; exact hb j (by omega))
    have r1 : f_X12_pairing_l161 F k38 fu G23 G24 G25 (gI G38 154 i (iI (w i : Nat))) G41 G42 G43 v1 v2 v3 (iI c) (iI ((i : Int) + 1)) = _ := r1
    refine ⟨G38', ?_, r2⟩
    show f_X12_pairing_l161b F k38 (f_X12_pairing_l161 F k38 fu) G23 G24 G25 G38 G41 G42 G43 _ _ _ _ _ = _
    unfold f_X12_pairing_l161b
    rw [h1, if_n (by rw [iI_le (by omega) (by omega) (by omega) (by omega)]; omega), ck_iI (by omega) (by omega) (by omega), ck_iI (by omega) (by omega) (by omega), ci, hw i hi, bn_eq, bn_eq, o1, iI_add]
    exact r1
theorem sumI_b {f : Nat → Int} {n : Nat} (h : ∀ i, i < n → 0 ≤ f i ∧ f i ≤ 10) : 0 ≤ sumI f n ∧ sumI f n ≤ 10 * n := by
  induction n with
  | zero => exact ⟨Int.le_refl _, Int.le_refl _⟩
  | succ n ih =>
    have a := ih fun i hi => h i (by omega)
    have b := h n (by omega)
    show 0 ≤ sumI f n + f n ∧ sumI f n + f n ≤ 10 * ((n + 1 : Nat) : Int)
    omega
/-- what the reference does with a way that it has counted -/
noncomputable def endP (F : Nat) (k38 : Grp → Grp → Grp → Grp → Grp → Grp → Grp → Int32 → Int32 → Int32 → Int32 → Option (Int32 × Grp × Grp × Grp × Grp)) (G23 G24 G25 G38 G41 G42 G43 : Grp) (v1 v2 v3 v4 v5 v6 : Int32) : Option (Int32 × Grp × Grp × Grp × Grp) := if v5 < v2 then k38 G23 G24 G25 G38 G41 G42 G43 v1 v2 v3 (v4 + 1) else if v5 = v2 then if v3 < v6 then f_X12_pairing_l161 F k38 F G23 G24 G25 G38 G41 G42 G43 v1 v5 v6 v4 0 else k38 G23 G24 G25 G38 G41 G42 G43 v1 v2 v3 (v4 + 1) else f_X12_pairing_l161 F k38 F G23 G24 G25 G38 G41 G42 G43 v1 v5 v6 v4 0
theorem sums_p (hR : R ≤ 6) (hK : K ≤ 6) (hq : QP G43 R K gs cs) (hpo : PO F G6 G7 G9 G20 G24 G25 G42 R K gs cs pt) (hF : 200000 ≤ F) {w : Wy} (hw : ∀ j, j < R → w j ≤ K ∧ G38.1 153 j = iI (w j : Nat)) (k38 : Grp → Grp → Grp → Grp → Grp → Grp → Grp → Int32 → Int32 → Int32 → Int32 → Option (Int32 × Grp × Grp × Grp × Grp)) (v1 v2 v3 v4 : Int32) : f_X12_pairing_l65 F k38 F G23 G24 G25 G38 G41 G42 G43 v1 v2 v3 v4 0 0 0 = endP F k38 G23 G24 G25 G38 G41 G42 G43 v1 v2 v3 v4 (iI (gk K w 0 R : Nat)) (iI (pk' K pt w 0 R)) := by
  obtain ⟨h1, h2, h3, h4⟩ := id hq
  have o1 : (1 : Int32) = iI 1 := rfl
  have key := up_ind (n := R) (Q := fun fu i => f_X12_pairing_l65 F k38 fu G23 G24 G25 G38 G41 G42 G43 v1 v2 v3 v4 (iI (cnt (fun i => w (0 + i) < K) i : Nat)) (iI (sumI (fun i => if w (0 + i) < K then pt (0 + i) (w (0 + i)) else 0) i)) (iI i) = endP F k38 G23 G24 G25 G38 G41 G42 G43 v1 v2 v3 v4 (iI (gk K w 0 R : Nat)) (iI (pk' K pt w 0 R))) ?_ ?_
  · exact key 0 F (by omega) (by omega)
  · intro fu
    show f_X12_pairing_l65b F k38 (f_X12_pairing_l65 F k38 fu) G23 G24 G25 G38 G41 G42 G43 _ _ _ _ _ _ _ = _
    unfold f_X12_pairing_l65b
    rw [h1, if_p (by rw [iI_le (by omega) (by omega) (by omega) (by omega)]; omega)]
    rfl
  · intro i fu hi ih
    obtain ⟨w1, w2⟩ := hw i hi
    have ci : (iI (i : Int)).toNatClampNeg = i := by rw [iI_cl (by omega) (by omega)]; omega
    have cw : (iI ((w i : Nat) : Int)).toNatClampNeg = w i := by rw [iI_cl (by omega) (by omega)]; omega
    have ih : f_X12_pairing_l65 F k38 fu G23 G24 G25 G38 G41 G42 G43 v1 v2 v3 v4 (iI (cnt (fun i => w (0 + i) < K) (i + 1) : Nat)) (iI (sumI (fun i => if w (0 + i) < K then pt (0 + i) (w (0 + i)) else 0) i + (if w (0 + i) < K then pt (0 + i) (w (0 + i)) else 0))) (iI ((i : Int) + 1)) = _ := ih
    rw [Nat.zero_add] at ih
    show f_X12_pairing_l65b F k38 (f_X12_pairing_l65 F k38 fu) G23 G24 G25 G38 G41 G42 G43 _ _ _ _ _ _ _ = _
    unfold f_X12_pairing_l65b
    rw [h1, if_n (by rw [iI_le (by omega) (by omega) (by omega) (by omega)]; omega), ck_iI (by omega) (by omega) (by omega), ci, w2, h2]
    by_cases c : w i < K
    · obtain ⟨-, -, -, p4⟩ := hpo i (w i) hi c
      rw [if_pos c, cnt_t (p := fun i => w (0 + i) < K) (by rw [Nat.zero_add]; exact c)] at ih
      have ih : f_X12_pairing_l65 F k38 fu G23 G24 G25 G38 G41 G42 G43 v1 v2 v3 v4 (iI (((cnt (fun i => w (0 + i) < K) i : Nat) : Int) + 1)) (iI (sumI (fun i => if w (0 + i) < K then pt (0 + i) (w (0 + i)) else 0) i + pt i (w i))) (iI ((i : Int) + 1)) = _ := ih
      rw [if_n (by rw [iI_eq (by omega) (by omega) (by omega) (by omega)]; omega), bn_eq, ck_iI (by omega) (by omega) (by omega), ck_iI (by omega) (by omega) (by omega), ck_iI (by omega) (by omega) (by omega), cw, h3 i hi, h4 _ c, p4, ob_s, bn_eq, bn_eq, o1, iI_add, iI_add, iI_add]
      exact ih
    · rw [if_neg c, Int.add_zero, cnt_f (p := fun i => w (0 + i) < K) (by rw [Nat.zero_add]; exact c)] at ih
      rw [if_p (by rw [show w i = K by omega]), bn_eq, o1, iI_add]
      exact ih
/-- the codes below k that are ways -/
def cdP (K R k : Nat) (w : Wy) : Prop := (∃ j, j < k ∧ w = dg (K + 1) R j) ∧ cpl K (fun _ _ => True) (fun _ => 1) (fun _ => 0) 0 R w
theorem codes_p (hR : R ≤ 6) (hK : K ≤ 6) (hq : QP G43 R K gs cs) (hpo : PO F G6 G7 G9 G20 G24 G25 G42 R K gs cs pt) (hF : 200000 ≤ F) {N : Nat} (hN : N = (K + 1) ^ R) : ∀ k fu, k ≤ N → N - k < fu → ∀ (G38 : Grp) (b0 b : Wy) (bg bp : Int), (∀ j, j < R → G38.1 154 j = iI (b j : Nat)) → (-1 ≤ bg ∧ bg ≤ 6 ∧ 0 ≤ bp ∧ bp ≤ 60) → SP R (cdP K R k) (fun w => (gk K w 0 R : Int)) (fun w => pk' K pt w 0 R) (-1) 0 b0 bg bp b → ∃ G38' b' bg' bp', f_X12_pairing_l38 F fu G23 G24 G25 G38 G41 G42 G43 (iI N) (iI bg) (iI bp) (iI k) = f_X12_pairing_l202 F F G23 G24 G25 G38' G41 G42 G43 0 0 ∧ (∀ j, j < R → G38'.1 154 j = iI (b' j : Nat)) ∧ SP R (cdP K R N) (fun w => (gk K w 0 R : Int)) (fun w => pk' K pt w 0 R) (-1) 0 b0 bg' bp' b' := by
  have N7 : N ≤ 117649 := by rw [hN]; exact pow7 (by omega) hR
  refine up_ind (n := N) (Q := fun fu k => ∀ (G38 : Grp) (b0 b : Wy) (bg bp : Int), (∀ j, j < R → G38.1 154 j = iI (b j : Nat)) → (-1 ≤ bg ∧ bg ≤ 6 ∧ 0 ≤ bp ∧ bp ≤ 60) → SP R (cdP K R k) (fun w => (gk K w 0 R : Int)) (fun w => pk' K pt w 0 R) (-1) 0 b0 bg bp b → ∃ G38' b' bg' bp', f_X12_pairing_l38 F fu G23 G24 G25 G38 G41 G42 G43 (iI N) (iI bg) (iI bp) (iI k) = f_X12_pairing_l202 F F G23 G24 G25 G38' G41 G42 G43 0 0 ∧ (∀ j, j < R → G38'.1 154 j = iI (b' j : Nat)) ∧ SP R (cdP K R N) (fun w => (gk K w 0 R : Int)) (fun w => pk' K pt w 0 R) (-1) 0 b0 bg' bp' b') ?_ ?_
  · intro fu G38 b0 b bg bp hb hbb hsp
    refine ⟨G38, b, bg, bp, ?_, hb, hsp⟩
    show f_X12_pairing_l38b F (f_X12_pairing_l38 F fu) G23 G24 G25 G38 G41 G42 G43 _ _ _ _ = _
    unfold f_X12_pairing_l38b
    rw [if_p (by rw [iI_le (by omega) (by omega) (by omega) (by omega)]; omega)]
  · intro k fu hk ih G38 b0 b bg bp hb hbb hsp
    obtain ⟨G38a, x, a1, a3, a4⟩ := isRow_m (F := F) (G38 := G38) (k := k) hR hK hq hF (by omega)
    have ih' : ∀ (G38 : Grp) (b : Wy) (bg bp : Int), (∀ j, j < R → G38.1 154 j = iI (b j : Nat)) → (-1 ≤ bg ∧ bg ≤ 6 ∧ 0 ≤ bp ∧ bp ≤ 60) → SP R (cdP K R (k + 1)) (fun w => (gk K w 0 R : Int)) (fun w => pk' K pt w 0 R) (-1) 0 b0 bg bp b → ∃ G38' b' bg' bp', f_X12_pairing_l38 F fu G23 G24 G25 G38 G41 G42 G43 (iI N) (iI bg) (iI bp) (iI ((k : Int) + 1)) = f_X12_pairing_l202 F F G23 G24 G25 G38' G41 G42 G43 0 0 ∧ (∀ j, j < R → G38'.1 154 j = iI (b' j : Nat)) ∧ SP R (cdP K R N) (fun w => (gk K w 0 R : Int)) (fun w => pk' K pt w 0 R) (-1) 0 b0 bg' bp' b' := fun G38 b bg bp => ih G38 b0 b bg bp
    have nk : ¬ iI (N : Int) ≤ iI (k : Int) := by rw [iI_le (by omega) (by omega) (by omega) (by omega)]; omega
    have o1 : (1 : Int32) = iI 1 := rfl
    rcases a4 with ⟨rfl, c1, c2⟩ | ⟨rfl, c1⟩
    · have wl : ∀ j, j < R → dg (K + 1) R k j ≤ K ∧ G38a.1 153 j = iI (dg (K + 1) R k j : Nat) := fun j hj => ⟨by have := dg_lt (B := K + 1) (by omega) R k j hj; omega, c2 j hj⟩
      have t1 := sums_p (F := F) (G23 := G23) (G41 := G41) hR hK hq hpo hF wl (f_X12_pairing_l38 F fu) (iI N) (iI bg) (iI bp) (iI k)
      have gb := gk_le K (dg (K + 1) R k) 0 R
      have pb : 0 ≤ pk' K pt (dg (K + 1) R k) 0 R ∧ pk' K pt (dg (K + 1) R k) 0 R ≤ 10 * R := sumI_b (fun i hi => by
        split
        · rename_i z
          have := hpo (0 + i) (dg (K + 1) R k (0 + i)) (by omega) z
          exact ⟨this.1, this.2.1⟩
        · omega)
      have hWx : ∀ x, cdP K R (k + 1) x ↔ (cdP K R k x ∨ x = dg (K + 1) R k) := fun x => by
        constructor
        · rintro ⟨⟨j, j1, j2⟩, j3⟩
          by_cases e : j = k
          · exact Or.inr (by rw [j2, e])
          · exact Or.inl ⟨⟨j, by omega, j2⟩, j3⟩
        · rintro (⟨⟨j, j1, j2⟩, j3⟩ | rfl)
          · exact ⟨⟨j, by omega, j2⟩, j3⟩
          · exact ⟨⟨k, by omega, rfl⟩, c1⟩
      have ho : ∀ x, cdP K R k x → leR R x (dg (K + 1) R k) := fun x hx => by
        obtain ⟨⟨j, j1, rfl⟩, -⟩ := hx
        obtain ⟨q, q1, q2, q3⟩ := dg_lex (B := K + 1) (by omega) R j k j1 (by omega)
        exact Or.inr ⟨q, q1, q2, q3⟩
      have s1 : btr (gk K (dg (K + 1) R k) 0 R : Int) (pk' K pt (dg (K + 1) R k) 0 R) bg bp → SP R (cdP K R (k + 1)) (fun w => (gk K w 0 R : Int)) (fun w => pk' K pt w 0 R) (-1) 0 b0 (gk K (dg (K + 1) R k) 0 R : Int) (pk' K pt (dg (K + 1) R k) 0 R) (dg (K + 1) R k) := (SP_add hsp (dg (K + 1) R k) hWx ho).1
      have s2 : ¬ btr (gk K (dg (K + 1) R k) 0 R : Int) (pk' K pt (dg (K + 1) R k) 0 R) bg bp → SP R (cdP K R (k + 1)) (fun w => (gk K w 0 R : Int)) (fun w => pk' K pt w 0 R) (-1) 0 b0 bg bp b := (SP_add hsp (dg (K + 1) R k) hWx ho).2
      generalize hg : gk K (dg (K + 1) R k) 0 R = g at *
      generalize hp : pk' K pt (dg (K + 1) R k) 0 R = p at *
      have skip : ¬ btr (g : Int) p bg bp → ∃ G38' b' bg' bp', f_X12_pairing_l38 F fu G23 G24 G25 G38a G41 G42 G43 (iI N) (iI bg) (iI bp) (iI ((k : Int) + 1)) = f_X12_pairing_l202 F F G23 G24 G25 G38' G41 G42 G43 0 0 ∧ (∀ j, j < R → G38'.1 154 j = iI (b' j : Nat)) ∧ SP R (cdP K R N) (fun w => (gk K w 0 R : Int)) (fun w => pk' K pt w 0 R) (-1) 0 b0 bg' bp' b' := fun nb => ih' G38a b bg bp (fun j hj => by rw [a3 154 j (by omega)]; exact hb j hj) hbb (s2 nb)
      have take : btr (g : Int) p bg bp → ∃ G38' b' bg' bp', f_X12_pairing_l161 F (f_X12_pairing_l38 F fu) F G23 G24 G25 G38a G41 G42 G43 (iI N) (iI (g : Int)) (iI p) (iI k) 0 = f_X12_pairing_l202 F F G23 G24 G25 G38' G41 G42 G43 0 0 ∧ (∀ j, j < R → G38'.1 154 j = iI (b' j : Nat)) ∧ SP R (cdP K R N) (fun w => (gk K w 0 R : Int)) (fun w => pk' K pt w 0 R) (-1) 0 b0 bg' bp' b' := fun nb => by
        obtain ⟨G38b, z1, z3⟩ := copy_p (F := F) (G23 := G23) (G24 := G24) (G25 := G25) (G41 := G41) (G42 := G42) hR hq.1 hF c2 (f_X12_pairing_l38 F fu) (iI N) (iI (g : Int)) (iI p) k
        obtain ⟨G38', b', bg', bp', y1, y2⟩ := ih' G38b (dg (K + 1) R k) g p z3 (by omega) (s1 nb)
        exact ⟨G38', b', bg', bp', z1.trans y1, y2⟩
      have head : f_X12_pairing_l38 F (fu + 1) G23 G24 G25 G38 G41 G42 G43 (iI N) (iI bg) (iI bp) (iI k) = endP F (f_X12_pairing_l38 F fu) G23 G24 G25 G38a G41 G42 G43 (iI N) (iI bg) (iI bp) (iI k) (iI (g : Int)) (iI p) := by
        show f_X12_pairing_l38b F (f_X12_pairing_l38 F fu) G23 G24 G25 G38 G41 G42 G43 _ _ _ _ = _
        unfold f_X12_pairing_l38b
        rw [if_n nk, a1, ob_s]
        dsimp only
        rw [if_n (by decide)]
        exact t1
      rw [head]
      unfold endP
      rw [o1, iI_add]
      by_cases e1 : (g : Int) < bg
      · rw [if_p (by rw [iI_lt (by omega) (by omega) (by omega) (by omega)]; exact e1)]
        exact skip (by unfold btr; omega)
      · rw [if_n (by rw [iI_lt (by omega) (by omega) (by omega) (by omega)]; exact e1)]
        by_cases e2 : (g : Int) = bg
        · rw [if_p (by rw [e2])]
          by_cases e3 : bp < p
          · rw [if_p (by rw [iI_lt (by omega) (by omega) (by omega) (by omega)]; exact e3)]
            exact take (by unfold btr; omega)
          · rw [if_n (by rw [iI_lt (by omega) (by omega) (by omega) (by omega)]; exact e3)]
            exact skip (by unfold btr; omega)
        · rw [if_n (by rw [iI_eq (by omega) (by omega) (by omega) (by omega)]; exact e2)]
          exact take (by unfold btr; omega)
    · obtain ⟨G38', b', bg', bp', r1, r2⟩ := ih' G38a b bg bp (fun j hj => by rw [a3 154 j (by omega)]; exact hb j hj) hbb (SP_congr hsp (fun w => by
        constructor
        · rintro ⟨⟨j, j1, j2⟩, j3⟩
          by_cases e : j = k
          · rw [e] at j2
            rw [j2] at j3
            exact absurd j3 c1
          · exact ⟨⟨j, by omega, j2⟩, j3⟩
        · rintro ⟨⟨j, j1, j2⟩, j3⟩
          exact ⟨⟨j, by omega, j2⟩, j3⟩) (fun w _ => ⟨rfl, rfl⟩))
      refine ⟨G38', b', bg', bp', ?_, r2⟩
      show f_X12_pairing_l38b F (f_X12_pairing_l38 F fu) G23 G24 G25 G38 G41 G42 G43 _ _ _ _ = _
      unfold f_X12_pairing_l38b
      rw [if_n nk, a1, ob_s]
      dsimp only
      rw [if_p rfl, bn_eq, o1, iI_add]
      exact r1
theorem all_p (hR : R ≤ 6) (hK : K ≤ 6) (hq : QP G43 R K gs cs) (hF : 200000 ≤ F) : f_X12_pairing_l8 F F G23 G24 G25 G38 G41 G42 G43 1 0 = f_X12_pairing_l38 F F G23 G24 G25 G38 G41 G42 G43 (iI ((K + 1) ^ R : Nat)) (iI (-1)) (iI 0) (iI 0) := by
  obtain ⟨h1, h2, h3, h4⟩ := id hq
  have key := up_ind (n := R) (Q := fun fu i => f_X12_pairing_l8 F fu G23 G24 G25 G38 G41 G42 G43 (iI ((K + 1) ^ i : Nat)) (iI i) = f_X12_pairing_l38 F F G23 G24 G25 G38 G41 G42 G43 (iI ((K + 1) ^ R : Nat)) (iI (-1)) (iI 0) (iI 0)) ?_ ?_
  · exact key 0 F (by omega) (by omega)
  · intro fu
    show f_X12_pairing_l8b F (f_X12_pairing_l8 F fu) G23 G24 G25 G38 G41 G42 G43 _ _ = _
    unfold f_X12_pairing_l8b
    rw [h1, if_p (by rw [iI_le (by omega) (by omega) (by omega) (by omega)]; omega), m1_iI]
    rfl
  · intro i fu hi ih
    have p7 := pow7 (B := K + 1) (i := i) (by omega) (by omega)
    have ih : f_X12_pairing_l8 F fu G23 G24 G25 G38 G41 G42 G43 (iI ((K + 1) ^ (i + 1) : Nat)) (iI ((i : Int) + 1)) = _ := ih
    have e : iI (((K + 1) ^ (i + 1) : Nat) : Int) = iI ((((K + 1) ^ i : Nat) : Int) * ((K : Int) + 1)) := by rw [Nat.pow_succ, Int.natCast_mul]; rfl
    rw [e] at ih
    show f_X12_pairing_l8b F (f_X12_pairing_l8 F fu) G23 G24 G25 G38 G41 G42 G43 _ _ = _
    unfold f_X12_pairing_l8b
    rw [h1, if_n (by rw [iI_le (by omega) (by omega) (by omega) (by omega)]; omega), h2, bn_eq, bn_eq, show (1 : Int32) = iI 1 from rfl, iI_add, iI_mul, iI_add]
    exact ih
theorem best_p (hR : R ≤ 6) (hK : K ≤ 6) (hq : QP G43 R K gs cs) (hpo : PO F G6 G7 G9 G20 G24 G25 G42 R K gs cs pt) (hF : 200000 ≤ F) : ∃ G38' w, f_X12_pairing_l8 F F G23 G24 G25 G38 G41 G42 G43 1 0 = f_X12_pairing_l202 F F G23 G24 G25 G38' G41 G42 G43 0 0 ∧ (∀ j, j < R → G38'.1 154 j = iI (w j : Nat)) ∧ BST R (cdP K R ((K + 1) ^ R)) (fun w => (gk K w 0 R : Int)) (fun w => pk' K pt w 0 R) w := by
  have N7 : (K + 1) ^ R ≤ 117649 := pow7 (by omega) hR
  obtain ⟨b0, hb0⟩ : ∃ b0 : Wy, ∀ i, G38.1 154 i = iI (b0 i : Nat) := by
    refine ⟨fun i => Classical.choose (iI_nat (G38.1 154 i)), fun i => ?_⟩
    exact (Classical.choose_spec (iI_nat (G38.1 154 i))).2
  obtain ⟨G38', b', bg', bp', r1, r3, r4⟩ := codes_p (F := F) (G23 := G23) (G41 := G41) (N := (K + 1) ^ R) hR hK hq hpo hF rfl 0 F (by omega) (by omega) G38 b0 b0 (-1) 0 (fun j _ => hb0 j) (by omega) (SP_nil fun w hw' => by
    obtain ⟨⟨j, j1, -⟩, -⟩ := hw'
    exact absurd j1 (Nat.not_lt_zero j))
  obtain ⟨k, k1, k2⟩ := dg_all (B := K + 1) (by omega) R (fun _ => K) (fun i _ => by omega)
  obtain ⟨w, s1, s2, s3, s4⟩ := r4.best (w0 := dg (K + 1) R k) ⟨⟨k, k1, rfl⟩, cpl_cg (y := fun _ => 0) (w := fun _ => K) ⟨fun i hi => absurd hi (Nat.not_lt_zero i), fun i _ _ => ⟨Nat.le_refl _, fun h => absurd h (Nat.lt_irrefl _)⟩, fun c hc => by
    rw [ck_0]
    · exact Nat.zero_le _
    · intro i _ e
      have e : K = c := e
      omega⟩ k2⟩ (fun w _ => Int.natCast_nonneg _)
  refine ⟨G38', w, ?_, fun j hj => by rw [r3 j hj, s4 j hj], s1⟩
  rw [all_p hR hK hq hF]
  exact r1
end PR
