/-! THE TURN: the reference's codes -/
theorem cpl_cg {T : Nat} {al : Nat → Nat → Prop} {M : Nat → Nat} {y y' w w' : Wy} {R : Nat} (h : cpl T al M y 0 R w) (e : ∀ i, i < R → w' i = w i) : cpl T al M y' 0 R w' := by
  obtain ⟨h1, h2, h3⟩ := h
  refine ⟨fun i hi => absurd hi (Nat.not_lt_zero i), fun i z1 z2 => ?_, fun c hc => ?_⟩
  · rw [e i (by omega)]
    exact h2 i z1 z2
  · have : ck' w' c 0 R = ck' w c 0 R := by
      unfold ck'
      exact cnt_congr fun i hi => by rw [e (0 + i) (by omega)]
    rw [this]
    exact h3 c hc
theorem ck_le0 {w : Wy} {c R : Nat} : ∀ i, i ≤ R → ck' w c i (R - i) ≤ ck' w c 0 R := by
  intro i
  induction i with
  | zero => intro _; exact Nat.le_refl _
  | succ i ih =>
    intro hi
    have h := ih (by omega)
    rw [show R - i = (R - (i + 1)) + 1 by omega, ck_s] at h
    omega
/-- a tail of a way -/
def tlw (T : Nat) (al : Nat → Nat → Prop) (M : Nat → Nat) (R : Nat) (w : Wy) (i : Nat) : Prop := (∀ j, i ≤ j → j < R → w j ≤ T ∧ (w j < T → al j (w j))) ∧ ∀ c, c < T → ck' w c i (R - i) ≤ M c
theorem tlw_0 {T : Nat} {al : Nat → Nat → Prop} {M : Nat → Nat} {R : Nat} {w y : Wy} : cpl T al M y 0 R w ↔ tlw T al M R w 0 := by
  constructor
  · rintro ⟨h1, h2, h3⟩
    exact ⟨fun j a b => h2 j a (by omega), h3⟩
  · rintro ⟨h2, h3⟩
    exact ⟨fun i hi => absurd hi (Nat.not_lt_zero i), fun j a b => h2 j a (by omega), h3⟩
theorem tlw_R {T : Nat} {al : Nat → Nat → Prop} {M : Nat → Nat} {R : Nat} {w : Wy} : tlw T al M R w R := ⟨fun j a b => absurd a (by omega), fun c _ => by rw [Nat.sub_self]; exact Nat.zero_le _⟩
theorem tlw_up {T : Nat} {al : Nat → Nat → Prop} {M : Nat → Nat} {R : Nat} {w : Wy} {i : Nat} (h : tlw T al M R w 0) (hi : i ≤ R) : tlw T al M R w i := ⟨fun j a b => h.1 j (by omega) b, fun c hc => Nat.le_trans (ck_le0 i hi) (h.2 c hc)⟩
theorem tlw_s {T : Nat} {al : Nat → Nat → Prop} {M : Nat → Nat} {R : Nat} {w : Wy} {i : Nat} (hi : i < R) : tlw T al M R w i ↔ (tlw T al M R w (i + 1) ∧ w i ≤ T ∧ (w i < T → al i (w i) ∧ ck' w (w i) (i + 1) (R - (i + 1)) + 1 ≤ M (w i))) := by
  have e : ∀ c, ck' w c i (R - i) = (if w i = c then 1 else 0) + ck' w c (i + 1) (R - (i + 1)) := fun c => by
    rw [show R - i = (R - (i + 1)) + 1 by omega, ck_s]
  constructor
  · rintro ⟨h1, h2⟩
    have a := h1 i (Nat.le_refl _) hi
    refine ⟨⟨fun j z1 z2 => h1 j (by omega) z2, fun c hc => ?_⟩, a.1, fun hw => ⟨a.2 hw, ?_⟩⟩
    · have := h2 c hc
      rw [e] at this
      omega
    · have := h2 _ hw
      rw [e, if_pos rfl] at this
      omega
  · rintro ⟨⟨h1, h2⟩, h3, h4⟩
    refine ⟨fun j z1 z2 => ?_, fun c hc => ?_⟩
    · by_cases ej : j = i
      · rw [ej]; exact ⟨h3, fun z => (h4 z).1⟩
      · exact h1 j (by omega) z2
    · rw [e]
      by_cases ec : w i = c
      · rw [if_pos ec]
        have := (h4 (by omega)).2
        rw [ec] at this
        omega
      · rw [if_neg ec]
        have := h2 c hc
        omega
theorem dg_at {B R k i c : Nat} (hi : i < R) (h : ∀ j, j < i + 1 → dg B R k j = dg B (i + 1) c j) : dg B R k i = c % B ∧ ∀ j, j < i → dg B R k j = dg B i (c / B) j := by
  refine ⟨?_, fun j hj => ?_⟩
  · rw [h i (by omega), dg_s, if_pos rfl]
  · rw [h j (by omega), dg_s, if_neg (by omega)]
section PR
variable {F : Nat} {G1 G2 G3 G4 G5 G6 G7 G8 G9 G10 G11 G12 G13 G14 G15 G16 G17 G23 G24 G25 G26 G29 G30 G31 G32 G33 G34 G35 G36 G37 G38 G41 : Grp} {vn gn cn d n pn ln tn sn wn R : Nat} {tp tl Ln qs bt : Nat → Nat} {kq : Nat → Int} {P L T : Nat → Nat → Int} {X W : Nat → Nat → Nat}
/-- the queue's letters in the reference -/
def QM (F : Nat) (G24 G25 G32 G37 : Grp) (W : Nat → Nat → Nat) (wn R : Nat) (qs bt : Nat → Nat) (kq : Nat → Int) : Prop := R ≤ 6 ∧ ∀ i, i < R → qs i < 200 ∧ (∀ t, t < wn → f_X12_knows F G24 G25 G32 G37 (iI t) (iI (qs i)) = some (bI (knB W t (bt i)))) ∧ (∃ p, p < 40 ∧ G32.1 132 (qs i) = iI (p : Nat) ∧ G25.1 104 p = iI (kq i)) ∧ -1 ≤ kq i ∧ kq i < 6
/-- the queue as the search's rows have it -/
def QR (G38 : Grp) (R : Nat) (qs : Nat → Nat) : Prop := G38.1 91 85 = iI R ∧ ∀ i, i < R → G38.1 155 i = iI (qs i)
theorem works_m (hw : RTr G16 G37 wn W) (h23 : G23.1 91 0 = iI d) {t : Nat} (ht : t < wn) : f_X12_works F G23 G37 (iI t) = some (bI (wkP W d t)) := by
  obtain ⟨h1, h2, h3, h4, h5⟩ := id hw
  obtain ⟨-, -, -, -, -, -, w⟩ := h4 t ht
  have ct : (iI (t : Int)).toNatClampNeg = t := by rw [iI_cl (by omega) (by omega)]; omega
  unfold f_X12_works
  rw [ck_iI (by omega) (by omega) (by omega), ct, w, h23]
  by_cases c : wkP W d t
  · rw [bI_t c]
    exact if_pos c
  · rw [bI_f c]
    exact if_neg c
theorem mul_div0 {c B : Nat} (hB : 1 ≤ B) (hB2 : B ≤ 7) (hc : c < 200000) : (iI (c : Int) - iI (c : Int) / iI (B : Int) * iI (B : Int)) = iI ((c % B : Nat) : Int) ∧ iI (c : Int) / iI (B : Int) = iI ((c / B : Nat) : Int) := by
  have e : iI (c : Int) / iI (B : Int) = iI ((c / B : Nat) : Int) := by
    rw [iI_div (by omega) (by omega) (by omega) (by omega)]
    rfl
  refine ⟨?_, e⟩
  rw [e, iI_mul, iI_sub]
  congr 1
  have d1 := Nat.div_add_mod c B
  have d2 : ((B * (c / B) + c % B : Nat) : Int) = (c : Int) := by rw [d1]
  rw [Int.natCast_add, Int.natCast_mul, Int.mul_comm] at d2
  omega
/-- the loop of isTurn, from row i - 1 down -/
theorem isTurn_l (hw : RTr G16 G37 wn W) (hv : QM F G24 G25 G32 G37 W wn R qs bt kq) (h23 : G23.1 91 0 = iI d) (hF : 200000 ≤ F) {k : Nat} : ∀ i fu, i < fu → i ≤ R → ∀ (c : Nat) (G38 : Grp), c < 200000 → (∀ j, j < i → dg (wn + 1) R k j = dg (wn + 1) i c j) → QR G38 R qs → (∀ j, i ≤ j → j < R → G38.1 153 j = iI (dg (wn + 1) R k j : Nat)) → (∀ t, t < wn → G38.1 156 t = iI (ck' (dg (wn + 1) R k) t i (R - i) : Nat)) → tlw wn (alT W d bt) (fun t => W t 2) R (dg (wn + 1) R k) i → ∃ G38' x, f_X12_isTurn_l32 F fu G23 G24 G25 G32 G37 G38 (iI c) (iI ((i : Int) - 1)) = some (x, G38') ∧ QR G38' R qs ∧ (∀ a q, a ≠ 153 → a ≠ 156 → G38'.1 a q = G38.1 a q) ∧ ((x = 1 ∧ tlw wn (alT W d bt) (fun t => W t 2) R (dg (wn + 1) R k) 0 ∧ ∀ j, j < R → G38'.1 153 j = iI (dg (wn + 1) R k j : Nat)) ∨ (x = 0 ∧ ¬ tlw wn (alT W d bt) (fun t => W t 2) R (dg (wn + 1) R k) 0)) := by
  obtain ⟨hR, hq⟩ := id hv
  obtain ⟨h1, h2, h3, h4, h5⟩ := id hw
  refine dn_ind (Q := fun fu i => i ≤ R → ∀ (c : Nat) (G38 : Grp), c < 200000 → (∀ j, j < i → dg (wn + 1) R k j = dg (wn + 1) i c j) → QR G38 R qs → (∀ j, i ≤ j → j < R → G38.1 153 j = iI (dg (wn + 1) R k j : Nat)) → (∀ t, t < wn → G38.1 156 t = iI (ck' (dg (wn + 1) R k) t i (R - i) : Nat)) → tlw wn (alT W d bt) (fun t => W t 2) R (dg (wn + 1) R k) i → ∃ G38' x, f_X12_isTurn_l32 F fu G23 G24 G25 G32 G37 G38 (iI c) (iI ((i : Int) - 1)) = some (x, G38') ∧ QR G38' R qs ∧ (∀ a q, a ≠ 153 → a ≠ 156 → G38'.1 a q = G38.1 a q) ∧ ((x = 1 ∧ tlw wn (alT W d bt) (fun t => W t 2) R (dg (wn + 1) R k) 0 ∧ ∀ j, j < R → G38'.1 153 j = iI (dg (wn + 1) R k j : Nat)) ∨ (x = 0 ∧ ¬ tlw wn (alT W d bt) (fun t => W t 2) R (dg (wn + 1) R k) 0))) ?_ ?_
  · intro fu hi c G38 hc hdg hqr hrow hld htl
    refine ⟨G38, 1, ?_, hqr, fun _ _ _ _ => rfl, Or.inl ⟨rfl, htl, fun j hj => hrow j (Nat.zero_le j) hj⟩⟩
    show f_X12_isTurn_l32b F (f_X12_isTurn_l32 F fu) G23 G24 G25 G32 G37 G38 _ _ = _
    unfold f_X12_isTurn_l32b
    rw [if_p (by rw [show (0 : Int32) = iI 0 from rfl, iI_lt (by omega) (by omega) (by omega) (by omega)]; omega)]
  · intro i fu ih hi c G38 hc hdg hqr hrow hld htl
    obtain ⟨d1, d2⟩ := dg_at (B := wn + 1) (by omega) hdg
    obtain ⟨m1, m2⟩ := mul_div0 (c := c) (B := wn + 1) (by omega) (by omega) hc
    have dB : dg (wn + 1) R k i < wn + 1 := dg_lt (by omega) R k i (by omega)
    generalize hw' : dg (wn + 1) R k = w at *
    have ei : iI (((i + 1 : Nat) : Int) - 1) = iI (i : Int) := by congr 1; omega
    have ci : (iI (i : Int)).toNatClampNeg = i := by rw [iI_cl (by omega) (by omega)]; omega
    have eB : iI (wn : Int) + 1 = iI ((wn + 1 : Nat) : Int) := by rw [show (1 : Int32) = iI 1 from rfl, iI_add]; rfl
    have nB : ¬ iI ((wn + 1 : Nat) : Int) = 0 := by rw [show (0 : Int32) = iI 0 from rfl, iI_eq (by omega) (by omega) (by omega) (by omega)]; omega
    have wi : (iI ((w i : Nat) : Int)).toNatClampNeg = w i := by rw [iI_cl (by omega) (by omega)]; omega
    have em : iI (i : Int) + (-1) = iI ((i : Int) - 1) := by rw [m1_iI, iI_add]; congr 1
    rw [← d1] at m1
    -- the group with row i
    have row : ∀ j, i ≤ j → j < R → (gI G38 153 i (iI (w i : Nat))).1 153 j = iI (w j : Nat) := fun j z1 z2 => by
      rw [gI_g]
      by_cases e : j = i
      · rw [if_pos ⟨rfl, e⟩, e]
      · rw [if_neg fun z => e z.2]; exact hrow j (by omega) z2
    have hc2 : c / (wn + 1) < 200000 := Nat.lt_of_le_of_lt (Nat.div_le_self _ _) hc
    have cks : ∀ t, ck' w t i (R - i) = (if w i = t then 1 else 0) + ck' w t (i + 1) (R - (i + 1)) := fun t => by
      rw [show R - i = (R - (i + 1)) + 1 by omega, ck_s]
    show ∃ G38' x, f_X12_isTurn_l32b F (f_X12_isTurn_l32 F fu) G23 G24 G25 G32 G37 G38 (iI c) (iI (((i + 1 : Nat) : Int) - 1)) = some (x, G38') ∧ _
    unfold f_X12_isTurn_l32b
    rw [ei, if_n (by rw [show (0 : Int32) = iI 0 from rfl, iI_lt (by omega) (by omega) (by omega) (by omega)]; omega), h3, eB, cz_ok nB, ck_iI (by omega) (by omega) (by omega), ci, m1, bn_eq, cz_ok nB, m2, bn_eq, ck_iI (by omega) (by omega) (by omega), bn_eq, row i (Nat.le_refl _) (by omega), em]
    by_cases cw : w i = wn
    · rw [if_p (by rw [cw]), bn_eq]
      have htl' : tlw wn (alT W d bt) (fun t => W t 2) R w i := (tlw_s (by omega)).mpr ⟨htl, by omega, fun z => absurd z (by omega)⟩
      obtain ⟨G38', x, r1, r2, r3, r4⟩ := ih (by omega) (c / (wn + 1)) (gI G38 153 i (iI (w i : Nat))) hc2 d2 ⟨by rw [gI_g, if_neg (by omega)]; exact hqr.1, fun j hj => by rw [gI_g, if_neg (by omega)]; exact hqr.2 j hj⟩ row (fun t ht => by
        rw [gI_g, if_neg (by omega), hld t ht, cks, if_neg (by omega), Nat.zero_add]) htl'
      exact ⟨G38', x, r1, r2, fun a q a1 a2 => by rw [r3 a q a1 a2, gI_g, if_neg (fun z => a1 z.1)], r4⟩
    · have ht : w i < wn := by omega
      rw [if_n (by rw [iI_eq (by omega) (by omega) (by omega) (by omega)]; omega), ck_iI (by omega) (by omega) (by omega), ck_iI (by omega) (by omega) (by omega), wi, bn_eq, ck_iI (by omega) (by omega) (by omega), ck_iI (by omega) (by omega) (by omega)]
      have l1 : (gI G38 153 i (iI (w i : Nat))).1 156 (w i) = iI (ck' w (w i) (i + 1) (R - (i + 1)) : Nat) := by
        rw [gI_g, if_neg (by omega)]; exact hld _ ht
      have cb : ck' w (w i) (i + 1) (R - (i + 1)) ≤ 6 := Nat.le_trans (cnt_le _ _) (by omega)
      obtain ⟨-, -, -, -, -, w2, -⟩ := h4 _ ht
      obtain ⟨-, -, b2, -⟩ := h5 _ ht
      have e2 : iI (ck' w (w i) (i + 1) (R - (i + 1)) : Nat) + 1 = iI ((ck' w (w i) (i + 1) (R - (i + 1)) + 1 : Nat) : Int) := by rw [show (1 : Int32) = iI 1 from rfl, iI_add]; rfl
      obtain ⟨o1, o2, -⟩ := hq i (by omega)
      have fail : ¬ tlw wn (alT W d bt) (fun t => W t 2) R w i → ¬ tlw wn (alT W d bt) (fun t => W t 2) R w 0 := fun z y => z (tlw_up y (by omega))
      have q38 : QR (gI (gI G38 153 i (iI (w i : Nat))) 156 (w i) (iI ((ck' w (w i) (i + 1) (R - (i + 1)) + 1 : Nat) : Int))) R qs := ⟨by rw [gI_g, gI_g, if_neg (by omega), if_neg (by omega)]; exact hqr.1, fun j hj => by rw [gI_g, gI_g, if_neg (by omega), if_neg (by omega)]; exact hqr.2 j hj⟩
      have fr : ∀ a q, a ≠ 153 → a ≠ 156 → (gI (gI G38 153 i (iI (w i : Nat))) 156 (w i) (iI ((ck' w (w i) (i + 1) (R - (i + 1)) + 1 : Nat) : Int))).1 a q = G38.1 a q := fun a q a1 a2 => by rw [gI_g, gI_g, if_neg (fun z => a2 z.1), if_neg (fun z => a1 z.1)]
      have l2 : (gI (gI G38 153 i (iI (w i : Nat))) 156 (w i) (iI ((ck' w (w i) (i + 1) (R - (i + 1)) + 1 : Nat) : Int))).1 156 (w i) = iI ((ck' w (w i) (i + 1) (R - (i + 1)) + 1 : Nat) : Int) := by rw [gI_g, if_pos ⟨rfl, rfl⟩]
      rw [l1, e2, l2, w2]
      by_cases c1 : W (w i) 2 < ck' w (w i) (i + 1) (R - (i + 1)) + 1
      · rw [if_p (by rw [iI_lt (by omega) (by omega) (by omega) (by omega)]; omega)]
        exact ⟨_, _, rfl, q38, fr, Or.inr ⟨rfl, fail fun z => by
          have := (((tlw_s (by omega)).mp z).2.2 ht).2
          omega⟩⟩
      · rw [if_n (by rw [iI_lt (by omega) (by omega) (by omega) (by omega)]; omega), works_m hw h23 ht, ob_s]
        by_cases c2 : wkP W d (w i)
        · rw [bI_t c2, if_n (by decide), ck_iI (by omega) (by omega) (by omega), fr 155 i (by omega) (by omega), hqr.2 i (by omega), o2 _ ht, ob_s]
          by_cases c3 : knB W (w i) (bt i)
          · rw [bI_t c3, if_n (by decide), bn_eq]
            have htl' : tlw wn (alT W d bt) (fun t => W t 2) R w i := (tlw_s (by omega)).mpr ⟨htl, by omega, fun _ => ⟨⟨c2, c3⟩, by omega⟩⟩
            obtain ⟨G38', x, r1, r2, r3, r4⟩ := ih (by omega) (c / (wn + 1)) (gI (gI G38 153 i (iI (w i : Nat))) 156 (w i) (iI ((ck' w (w i) (i + 1) (R - (i + 1)) + 1 : Nat) : Int))) hc2 d2 q38 (fun j z1 z2 => by
              rw [gI_g, if_neg (by omega)]; exact row j z1 z2) (fun t ht' => by
              rw [gI_g, cks]
              by_cases et : t = w i
              · rw [if_pos ⟨rfl, et⟩, if_pos et.symm, et, Nat.add_comm]
              · rw [if_neg fun z => et z.2, if_neg fun z => et z.symm, Nat.zero_add, gI_g, if_neg (by omega)]; exact hld t ht') htl'
            exact ⟨G38', x, r1, r2, fun a q a1 a2 => by rw [r3 a q a1 a2, fr a q a1 a2], r4⟩
          · rw [bI_f c3, if_p rfl]
            exact ⟨_, _, rfl, q38, fr, Or.inr ⟨rfl, fail fun z => c3 (((tlw_s (by omega)).mp z).2.2 ht).1.2⟩⟩
        · rw [bI_f c2, if_p rfl]
          exact ⟨_, _, rfl, q38, fr, Or.inr ⟨rfl, fail fun z => c2 (((tlw_s (by omega)).mp z).2.2 ht).1.1⟩⟩
theorem isTurn_m (hw : RTr G16 G37 wn W) (hv : QM F G24 G25 G32 G37 W wn R qs bt kq) (h23 : G23.1 91 0 = iI d) (hF : 200000 ≤ F) {k : Nat} (hk : k < 200000) (hqr : QR G38 R qs) : ∃ G38' x, f_X12_isTurn F G23 G24 G25 G32 G37 G38 (iI k) = some (x, G38') ∧ QR G38' R qs ∧ (∀ a q, a ≠ 153 → a ≠ 156 → G38'.1 a q = G38.1 a q) ∧ ((x = 1 ∧ cpl wn (alT W d bt) (fun t => W t 2) (fun _ => 0) 0 R (dg (wn + 1) R k) ∧ ∀ j, j < R → G38'.1 153 j = iI (dg (wn + 1) R k j : Nat)) ∨ (x = 0 ∧ ¬ cpl wn (alT W d bt) (fun t => W t 2) (fun _ => 0) 0 R (dg (wn + 1) R k))) := by
  obtain ⟨hR, hq⟩ := id hv
  obtain ⟨h1, h2, h3, h4, h5⟩ := id hw
  have key := up_ind (n := wn) (Q := fun fu t => ∀ G38 : Grp, QR G38 R qs → (∀ e, e < t → G38.1 156 e = iI 0) → ∃ G38' x, f_X12_isTurn_l4 F fu G23 G24 G25 G32 G37 G38 (iI k) (iI t) = some (x, G38') ∧ QR G38' R qs ∧ (∀ a q, a ≠ 153 → a ≠ 156 → G38'.1 a q = G38.1 a q) ∧ ((x = 1 ∧ cpl wn (alT W d bt) (fun t => W t 2) (fun _ => 0) 0 R (dg (wn + 1) R k) ∧ ∀ j, j < R → G38'.1 153 j = iI (dg (wn + 1) R k j : Nat)) ∨ (x = 0 ∧ ¬ cpl wn (alT W d bt) (fun t => W t 2) (fun _ => 0) 0 R (dg (wn + 1) R k)))) ?_ ?_
  · exact key 0 F (by omega) (by omega) G38 hqr (fun e he => absurd he (Nat.not_lt_zero e))
  · intro fu G38 hqr hz
    obtain ⟨G38', x, r1, r2, r3, r4⟩ := isTurn_l (F := F) (k := k) hw hv h23 hF R F (by omega) (Nat.le_refl _) k G38 hk (fun _ _ => rfl) hqr (fun j a b => absurd a (by omega)) (fun t ht => by rw [hz t ht, Nat.sub_self]; rfl) tlw_R
    refine ⟨G38', x, ?_, r2, r3, ?_⟩
    · show f_X12_isTurn_l4b F (f_X12_isTurn_l4 F fu) G23 G24 G25 G32 G37 G38 _ _ = _
      unfold f_X12_isTurn_l4b
      rw [h3, if_p (by rw [iI_le (by omega) (by omega) (by omega) (by omega)]; omega), hqr.1, bn_eq, iI_lit, iI_sub]
      exact r1
    · rw [tlw_0]
      exact r4
  · intro t fu ht ih G38 hqr hz
    obtain ⟨G38', x, r1, r2, r3, r4⟩ := ih (gI G38 156 t (iI 0)) ⟨by rw [gI_g, if_neg (by omega)]; exact hqr.1, fun j hj => by rw [gI_g, if_neg (by omega)]; exact hqr.2 j hj⟩ (fun e he => by
      rw [gI_g]
      by_cases ee : e = t
      · rw [if_pos ⟨rfl, ee⟩]
      · rw [if_neg fun z => ee z.2]; exact hz e (by omega))
    have r1 : f_X12_isTurn_l4 F fu G23 G24 G25 G32 G37 (gI G38 156 t (iI 0)) (iI k) (iI ((t : Int) + 1)) = _ := r1
    refine ⟨G38', x, ?_, r2, fun a q a1 a2 => by rw [r3 a q a1 a2, gI_g, if_neg (fun z => a2 z.1)], r4⟩
    show f_X12_isTurn_l4b F (f_X12_isTurn_l4 F fu) G23 G24 G25 G32 G37 G38 _ _ = _
    unfold f_X12_isTurn_l4b
    rw [h3, if_n (by rw [iI_le (by omega) (by omega) (by omega) (by omega)]; omega), ck_iI (by omega) (by omega) (by omega), bn_eq, bn_eq, iI_cl (by omega) (by omega), Int.toNat_natCast, show (1 : Int32) = iI 1 from rfl, iI_add]
    exact r1
theorem turnedIn_m (h3 : G37.1 91 76 = iI wn) (h1 : wn ≤ 6) (hR : R ≤ 6) (hqr : QR G38 R qs) (hF : 200000 ≤ F) {w : Wy} (hw : ∀ j, j < R → w j ≤ wn ∧ G38.1 153 j = iI (w j : Nat)) : f_X12_turnedIn F G37 G38 = some (iI (gk wn w 0 R : Nat)) := by
  have key := up_ind (n := R) (Q := fun fu i => f_X12_turnedIn_l4 F fu G37 G38 (iI (cnt (fun i => w (0 + i) < wn) i : Nat)) (iI i) = some (iI (gk wn w 0 R : Nat))) ?_ ?_
  · exact key 0 F (by omega) (by omega)
  · intro fu
    show f_X12_turnedIn_l4b F (f_X12_turnedIn_l4 F fu) G37 G38 _ _ = _
    unfold f_X12_turnedIn_l4b
    rw [hqr.1, if_p (by rw [iI_le (by omega) (by omega) (by omega) (by omega)]; omega)]
    rfl
  · intro i fu hi ih
    obtain ⟨w1, w2⟩ := hw i hi
    have ci : (iI (i : Int)).toNatClampNeg = i := by rw [iI_cl (by omega) (by omega)]; omega
    have cb := cnt_le (fun i => w (0 + i) < wn) i
    have ih : f_X12_turnedIn_l4 F fu G37 G38 (iI (cnt (fun i => w (0 + i) < wn) (i + 1) : Nat)) (iI ((i : Int) + 1)) = _ := ih
    show f_X12_turnedIn_l4b F (f_X12_turnedIn_l4 F fu) G37 G38 _ _ = _
    unfold f_X12_turnedIn_l4b
    rw [hqr.1, if_n (by rw [iI_le (by omega) (by omega) (by omega) (by omega)]; omega), ck_iI (by omega) (by omega) (by omega), ci, w2, h3]
    by_cases c : w i < wn
    · rw [if_n (by rw [iI_le (by omega) (by omega) (by omega) (by omega)]; omega), bn_eq, bn_eq, ← ih, cnt_t (p := fun i => w (0 + i) < wn) (by rw [Nat.zero_add]; exact c), iI_lit, iI_add, iI_add]
      rfl
    · rw [if_p (by rw [iI_le (by omega) (by omega) (by omega) (by omega)]; omega), bn_eq, bn_eq, ← ih, cnt_f (p := fun i => w (0 + i) < wn) (by rw [Nat.zero_add]; exact c), iI_lit, iI_lit, iI_add, iI_add]
      congr 2
theorem sumI_01 {f : Nat → Int} (h : ∀ i, 0 ≤ f i ∧ f i ≤ 1) : ∀ n : Nat, 0 ≤ sumI f n ∧ sumI f n ≤ n := by
  intro n
  induction n with
  | zero => exact ⟨Int.le_refl _, Int.le_refl _⟩
  | succ n ih =>
    have := h n
    show 0 ≤ sumI f n + f n ∧ sumI f n + f n ≤ ((n + 1 : Nat) : Int)
    omega
theorem keptIn_m (h3 : G37.1 91 76 = iI wn) (h1 : wn ≤ 6) (hv : QM F G24 G25 G32 G37 W wn R qs bt kq) (hqr : QR G38 R qs) (hF : 200000 ≤ F) {w : Wy} (hw : ∀ j, j < R → w j ≤ wn ∧ G38.1 153 j = iI (w j : Nat)) : f_X12_keptIn F G25 G32 G37 G38 = some (iI (pk' wn (ptT kq) w 0 R)) := by
  obtain ⟨hR, hq⟩ := id hv
  have p01 : ∀ i, 0 ≤ (if w (0 + i) < wn then ptT kq (0 + i) (w (0 + i)) else 0) ∧ (if w (0 + i) < wn then ptT kq (0 + i) (w (0 + i)) else 0) ≤ 1 := fun i => by
    unfold ptT
    split
    · split <;> omega
    · omega
  have key := up_ind (n := R) (Q := fun fu i => f_X12_keptIn_l4 F fu G25 G32 G37 G38 (iI (sumI (fun i => if w (0 + i) < wn then ptT kq (0 + i) (w (0 + i)) else 0) i)) (iI i) = some (iI (pk' wn (ptT kq) w 0 R))) ?_ ?_
  · exact key 0 F (by omega) (by omega)
  · intro fu
    show f_X12_keptIn_l4b F (f_X12_keptIn_l4 F fu) G25 G32 G37 G38 _ _ = _
    unfold f_X12_keptIn_l4b
    rw [hqr.1, if_p (by rw [iI_le (by omega) (by omega) (by omega) (by omega)]; omega)]
    rfl
  · intro i fu hi ih
    obtain ⟨w1, w2⟩ := hw i hi
    obtain ⟨o1, -, ⟨p, o2, o3, o4⟩, o5, o6⟩ := hq i hi
    have ci : (iI (i : Int)).toNatClampNeg = i := by rw [iI_cl (by omega) (by omega)]; omega
    have cq : (iI (qs i : Int)).toNatClampNeg = qs i := by rw [iI_cl (by omega) (by omega)]; omega
    have cp : (iI (p : Int)).toNatClampNeg = p := by rw [iI_cl (by omega) (by omega)]; omega
    have sb := sumI_01 p01 i
    have ih : f_X12_keptIn_l4 F fu G25 G32 G37 G38 (iI (sumI (fun i => if w (0 + i) < wn then ptT kq (0 + i) (w (0 + i)) else 0) i + (if w (0 + i) < wn then ptT kq (0 + i) (w (0 + i)) else 0))) (iI ((i : Int) + 1)) = _ := ih
    rw [Nat.zero_add] at ih
    show f_X12_keptIn_l4b F (f_X12_keptIn_l4 F fu) G25 G32 G37 G38 _ _ = _
    unfold f_X12_keptIn_l4b
    rw [hqr.1, if_n (by rw [iI_le (by omega) (by omega) (by omega) (by omega)]; omega), ck_iI (by omega) (by omega) (by omega), ci, w2, h3]
    by_cases c : w i < wn
    · rw [if_pos c] at ih
      rw [if_n (by rw [iI_le (by omega) (by omega) (by omega) (by omega)]; omega), ck_iI (by omega) (by omega) (by omega), ck_iI (by omega) (by omega) (by omega), hqr.2 i hi, ck_iI (by omega) (by omega) (by omega), cq, o3, ck_iI (by omega) (by omega) (by omega), cp, o4]
      by_cases c2 : kq i = (w i : Int)
      · unfold ptT at ih
        rw [if_pos c2] at ih
        rw [if_p (by rw [c2]), bn_eq, bn_eq, iI_lit, iI_add, iI_add]
        exact ih
      · unfold ptT at ih
        rw [if_neg c2] at ih
        rw [if_n (by rw [iI_eq (by omega) (by omega) (by omega) (by omega)]; omega), bn_eq, bn_eq, iI_lit, iI_lit, iI_add, iI_add]
        exact ih
    · rw [if_neg c] at ih
      rw [if_p (by rw [iI_le (by omega) (by omega) (by omega) (by omega)]; omega), bn_eq, bn_eq, iI_lit, iI_lit, iI_add, iI_add]
      exact ih
end PR
