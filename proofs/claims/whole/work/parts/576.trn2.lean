/-! THE TURN: what the class allows -/
abbrev wkP (W : Nat → Nat → Nat) (d t : Nat) : Prop := (iI (W t 3 : Int) >>> ((iI (d : Int) - iI (d : Int) / iI 7 * iI 7) &&& iI 31)) &&& iI 1 = iI 0
abbrev alT (W : Nat → Nat → Nat) (d : Nat) (bt : Nat → Nat) (i t : Nat) : Prop := wkP W d t ∧ knB W t (bt i)
abbrev ptT (kq : Nat → Int) (i t : Nat) : Int := if kq i = (t : Int) then 1 else 0
abbrev stT (W : Nat → Nat → Nat) (d : Nat) (bt : Nat → Nat) (kq : Nat → Int) (R t i : Nat) : Nat → Nat → Int := fun j c => if (c < t ∧ j < R ∧ alT W d bt j c) ∨ (c = t ∧ j < i ∧ alT W d bt j c) then ptT kq j c else -1
abbrev rmT (W : Nat → Nat → Nat) (d t : Nat) : Nat → Nat := fun c => if c < t ∧ wkP W d c then W c 2 else 0
theorem ite_cg {α : Type} {c d : Prop} [Decidable c] [Decidable d] {a b : α} (h : c ↔ d) : (if c then a else b) = if d then a else b := by
  by_cases q : c
  · rw [if_pos q, if_pos (h.mp q)]
  · rw [if_neg q, if_neg fun z => q (h.mpr z)]
theorem AL.cg {G : Grp} {v R : Nat} {Mx : Int} {RM RM' : Nat → Nat} {P P' : Nat → Nat → Int} (h : AL G v R Mx RM P) (h1 : ∀ c, c < 6 → RM' c = RM c) (h2 : ∀ i c, i < 6 → c < 6 → P' i c = P i c) : AL G v R Mx RM' P' := ⟨h.1, h.2.1, fun c hc => by rw [h1 c hc]; exact h.2.2.1 c hc, fun i c hi hc => by rw [h2 i c hi hc]; exact h.2.2.2 i c hi hc⟩
section PR
variable {F : Nat} {G1 G2 G3 G4 G5 G6 G7 G8 G9 G10 G11 G12 G13 G14 G15 G16 G17 G23 G24 G25 G26 G29 G30 G31 G32 G33 G34 G35 G36 G37 G38 G41 : Grp} {vn gn cn d n pn ln tn sn wn R : Nat} {tp tl Ln qs bt : Nat → Nat} {kq : Nat → Int} {P L T : Nat → Nat → Int} {X W : Nat → Nat → Nat}
/-- what the queue's letters are to both -/
def QV (G6 G9 G13 G16 : Grp) (R : Nat) (tl qs bt : Nat → Nat) (kq : Nat → Int) : Prop := R ≤ 6 ∧ ∀ i, i < R → G16.2.2 64 i = some (tl (qs i)) ∧ bt i < 36 ∧ f_X3_tonguesBit 200000 G6 G9 G13 (tl (qs i)) = some (iI (bt i)) ∧ (∃ t, G13.2.2 (tl (qs i)) 0 = some t ∧ G9.1 t 5 = iI (kq i)) ∧ -1 ≤ kq i ∧ kq i < 6
theorem tongF (F F' : Nat) (t : Nat) : f_X3_tonguesBit F G6 G9 G13 t = f_X3_tonguesBit F' G6 G9 G13 t := rfl
theorem known_c (hw : RTr G16 G37 wn W) (hv : QV G6 G9 G13 G16 R tl qs bt kq) {t : Nat} (ht : t < wn) (hwk : wkP W d t) (hF : 200000 ≤ F) {RM : Nat → Nat} : ∀ G17 (Mx : Int), AL G17 65 R Mx RM (stT W d bt kq R t 0) → (0 ≤ Mx ∧ Mx ≤ 10) → (∀ j c, j < 6 → c < 6 → stT W d bt kq R t 0 j c ≤ Mx) → ∃ G17' Mx', f_X9_allowKnown F G6 G9 G13 G16 G17 (iI t) (iI R) = some G17' ∧ AL G17' 65 R Mx' RM (stT W d bt kq R t R) ∧ (0 ≤ Mx' ∧ Mx' ≤ 10) ∧ (∀ j c, j < 6 → c < 6 → stT W d bt kq R t R j c ≤ Mx') ∧ OT 65 G17 G17' := by
  obtain ⟨hR, hq⟩ := id hv
  obtain ⟨h1, h2, h3, h4, h5⟩ := id hw
  have key := up_ind (n := R) (Q := fun fu i => ∀ G17 (Mx : Int), AL G17 65 R Mx RM (stT W d bt kq R t i) → (0 ≤ Mx ∧ Mx ≤ 10) → (∀ j c, j < 6 → c < 6 → stT W d bt kq R t i j c ≤ Mx) → ∃ G17' Mx', f_X9_allowKnown_l3 F fu G6 G9 G13 G16 G17 (iI t) (iI R) (iI i) = some G17' ∧ AL G17' 65 R Mx' RM (stT W d bt kq R t R) ∧ (0 ≤ Mx' ∧ Mx' ≤ 10) ∧ (∀ j c, j < 6 → c < 6 → stT W d bt kq R t R j c ≤ Mx') ∧ OT 65 G17 G17') ?_ ?_
  · exact key 0 F (by omega) (by omega)
  · intro fu G17 Mx hA hM hP
    refine ⟨G17, Mx, ?_, hA, hM, hP, rfl, fun _ _ _ => rfl⟩
    show f_X9_allowKnown_l3b F (f_X9_allowKnown_l3 F fu) G6 G9 G13 G16 G17 _ _ _ = _
    unfold f_X9_allowKnown_l3b
    rw [if_p (by rw [iI_le (by omega) (by omega) (by omega) (by omega)]; omega)]
  · intro i fu hi ih G17 Mx hA hM hP
    obtain ⟨e1, e2, e3, ⟨p, e4, e5⟩, e6, e7⟩ := hq i hi
    have e3 : f_X3_tonguesBit F G6 G9 G13 (tl (qs i)) = some (iI (bt i)) := e3
    obtain ⟨w1, -⟩ := h4 t ht
    obtain ⟨b1, b2, -⟩ := h5 t ht
    have lb := lng_bit b1 b2 e2
    have ci : (iI (i : Int)).toNatClampNeg = i := by rw [iI_cl (by omega) (by omega)]; omega
    have ct : (iI (t : Int)).toNatClampNeg = t := by rw [iI_cl (by omega) (by omega)]; omega
    have n1 : ¬ iI (R : Int) ≤ iI (i : Int) := by rw [iI_le (by omega) (by omega) (by omega) (by omega)]; omega
    have lc0 : ∀ x : Int64, (lg_cmp x 0 = 0) ↔ x = 0 := fun x => lg_cmp_eq x 0
    by_cases c : knB W t (bt i)
    · have cz : ¬ lg_cmp ((G16.2.1 61 t >>> ((iI (bt i : Int)).toInt64 &&& 63)) &&& 1) 0 = 0 := by
        rw [lc0, w1, lb]
        exact fun z => z c
      have put : ∀ x : Int, x = ptT kq i t → ∃ G17' Mx', f_X9_allowKnown_b63 F (f_X9_allowKnown_l3 F fu) G6 G9 G13 G16 G17 (iI t) (iI R) (iI i) (iI i) (iI t) (iI x) = some G17' ∧ AL G17' 65 R Mx' RM (stT W d bt kq R t R) ∧ (0 ≤ Mx' ∧ Mx' ≤ 10) ∧ (∀ j c, j < 6 → c < 6 → stT W d bt kq R t R j c ≤ Mx') ∧ OT 65 G17 G17' := by
        intro x hx
        have hx1 : 0 ≤ x ∧ x ≤ 10 := by
          rw [hx]
          unfold ptT
          split <;> omega
        obtain ⟨G17a, Mxa, a1, a2, a3, a4, a5, a6⟩ := allow_c (F := F) hA (i := i) (c := t) (x := x) (by omega) (by omega) hx1 hM
        have eq : ∀ j c, stT W d bt kq R t (i + 1) j c = upP2 (stT W d bt kq R t i) i t x j c := by
          intro j e
          unfold upP2
          by_cases q : j = i ∧ e = t
          · rw [if_pos q, hx, q.1, q.2]
            exact if_pos (Or.inr ⟨rfl, Nat.lt_succ_self i, hwk, c⟩)
          · rw [if_neg q]
            exact ite_cg ⟨fun z => by
              rcases z with z | z
              · exact Or.inl z
              · exact Or.inr ⟨z.1, by omega, z.2.2⟩, fun z => by
              rcases z with z | z
              · exact Or.inl z
              · exact Or.inr ⟨z.1, by omega, z.2.2⟩⟩
        obtain ⟨G17', Mx', r1, r2, r3, r4, r5⟩ := ih G17a Mxa (a2.cg (fun _ _ => rfl) (fun j c _ _ => eq j c)) (by omega) (fun j c hj hc => by
          rw [eq]
          unfold upP2
          split
          · exact a5
          · exact Int.le_trans (hP j c hj hc) a4)
        refine ⟨G17', Mx', ?_, r2, r3, r4, a3.tr r5⟩
        unfold f_X9_allowKnown_b63
        rw [a1, ob_s, bn_eq, iI_lit, iI_add]
        exact r1
      by_cases ck1 : kq i = (t : Int)
      · obtain ⟨G17', Mx', r1, r2⟩ := put 1 (by unfold ptT; rw [if_pos ck1])
        refine ⟨G17', Mx', ?_, r2⟩
        show f_X9_allowKnown_l3b F (f_X9_allowKnown_l3 F fu) G6 G9 G13 G16 G17 _ _ _ = _
        unfold f_X9_allowKnown_l3b
        rw [if_n n1, ck_iI (by omega) (by omega) (by omega), ck_iI (by omega) (by omega) (by omega), ci, e1, om_s, e3, ob_s, ct, if_n cz, ck_iI (by omega) (by omega) (by omega), om_s, e4, om_s, e5, if_p (by rw [ck1])]
        exact r1
      · obtain ⟨G17', Mx', r1, r2⟩ := put 0 (by unfold ptT; rw [if_neg ck1])
        refine ⟨G17', Mx', ?_, r2⟩
        show f_X9_allowKnown_l3b F (f_X9_allowKnown_l3 F fu) G6 G9 G13 G16 G17 _ _ _ = _
        unfold f_X9_allowKnown_l3b
        rw [if_n n1, ck_iI (by omega) (by omega) (by omega), ck_iI (by omega) (by omega) (by omega), ci, e1, om_s, e3, ob_s, ct, if_n cz, ck_iI (by omega) (by omega) (by omega), om_s, e4, om_s, e5, if_n (by rw [iI_eq (by omega) (by omega) (by omega) (by omega)]; exact ck1)]
        exact r1
    · have cz : lg_cmp ((G16.2.1 61 t >>> ((iI (bt i : Int)).toInt64 &&& 63)) &&& 1) 0 = 0 := by
        rw [lc0, w1, lb]
        exact c
      have eq : ∀ j e, stT W d bt kq R t (i + 1) j e = stT W d bt kq R t i j e := by
        intro j e
        exact ite_cg ⟨fun z => by
          rcases z with z | z
          · exact Or.inl z
          · by_cases ej : j = i
            · have w := z.2.2.2
              rw [ej, z.1] at w
              exact absurd w c
            · exact Or.inr ⟨z.1, by omega, z.2.2⟩, fun z => by
          rcases z with z | z
          · exact Or.inl z
          · exact Or.inr ⟨z.1, by omega, z.2.2⟩⟩
      obtain ⟨G17', Mx', r1, r2, r3, r4, r5⟩ := ih G17 Mx (hA.cg (fun _ _ => rfl) (fun j c _ _ => eq j c)) hM (fun j c hj hc => by rw [eq]; exact hP j c hj hc)
      refine ⟨G17', Mx', ?_, r2, r3, r4, r5⟩
      show f_X9_allowKnown_l3b F (f_X9_allowKnown_l3 F fu) G6 G9 G13 G16 G17 _ _ _ = _
      unfold f_X9_allowKnown_l3b
      rw [if_n n1, ck_iI (by omega) (by omega) (by omega), ck_iI (by omega) (by omega) (by omega), ci, e1, om_s, e3, ob_s, ct, if_p cz, bn_eq, iI_lit, iI_add]
      exact r1
theorem allows_c (hw : RTr G16 G37 wn W) (hv : QV G6 G9 G13 G16 R tl qs bt kq) (hF : 200000 ≤ F) (hA0 : AL G17 65 R 0 (fun _ => 0) (fun _ _ => -1)) : ∃ G17' Mx', f_X9_translate_l19 F F G6 G9 G10 G13 G16 G17 (iI d) (iI R) 0 = ob (f_X0_solve F G17' 65) (fun q_93 => f_X9_translate_l99 F F G6 G9 G10 G13 G16 q_93 (iI d) (iI R) 0) ∧ AL G17' 65 R Mx' (rmT W d wn) (stT W d bt kq R wn 0) ∧ (0 ≤ Mx' ∧ Mx' ≤ 10) ∧ (∀ j c, j < 6 → c < 6 → stT W d bt kq R wn 0 j c ≤ Mx') := by
  obtain ⟨hR, hq⟩ := id hv
  obtain ⟨h1, h2, h3, h4, h5⟩ := id hw
  have key := up_ind (n := wn) (Q := fun fu t => ∀ G17 (Mx : Int), AL G17 65 R Mx (rmT W d t) (stT W d bt kq R t 0) → (0 ≤ Mx ∧ Mx ≤ 10) → (∀ j c, j < 6 → c < 6 → stT W d bt kq R t 0 j c ≤ Mx) → ∃ G17' Mx', f_X9_translate_l19 F fu G6 G9 G10 G13 G16 G17 (iI d) (iI R) (iI t) = ob (f_X0_solve F G17' 65) (fun q_93 => f_X9_translate_l99 F F G6 G9 G10 G13 G16 q_93 (iI d) (iI R) 0) ∧ AL G17' 65 R Mx' (rmT W d wn) (stT W d bt kq R wn 0) ∧ (0 ≤ Mx' ∧ Mx' ≤ 10) ∧ (∀ j c, j < 6 → c < 6 → stT W d bt kq R wn 0 j c ≤ Mx')) ?_ ?_
  · have s0 : ∀ j c, stT W d bt kq R 0 0 j c = -1 := fun j c => if_neg fun z => by
      rcases z with z | z
      · exact absurd z.1 (Nat.not_lt_zero c)
      · exact absurd z.2.1 (Nat.not_lt_zero j)
    exact key 0 F (by omega) (by omega) G17 0 (hA0.cg (fun c hc => if_neg fun z => absurd z.1 (Nat.not_lt_zero c)) (fun j c _ _ => s0 j c)) (by omega) (fun j c _ _ => by rw [s0]; omega)
  · intro fu G17 Mx hA hM hP
    refine ⟨G17, Mx, ?_, hA, hM, hP⟩
    show f_X9_translate_l19b F (f_X9_translate_l19 F fu) G6 G9 G10 G13 G16 G17 _ _ _ = _
    unfold f_X9_translate_l19b
    rw [h2, if_p (by rw [iI_le (by omega) (by omega) (by omega) (by omega)]; omega)]
  · intro t fu ht ih G17 Mx hA hM hP
    obtain ⟨w1, w2, w3, -⟩ := h4 t ht
    obtain ⟨b1, b2, b3, -⟩ := h5 t ht
    have ct : (iI (t : Int)).toNatClampNeg = t := by rw [iI_cl (by omega) (by omega)]; omega
    have n1 : ¬ iI (wn : Int) ≤ iI (t : Int) := by rw [iI_le (by omega) (by omega) (by omega) (by omega)]; omega
    have nx : ∀ j c, (wkP W d t → stT W d bt kq R (t + 1) 0 j c = stT W d bt kq R t R j c) ∧ (¬ wkP W d t → stT W d bt kq R (t + 1) 0 j c = stT W d bt kq R t 0 j c) := by
      intro j c
      constructor
      · intro _
        exact ite_cg ⟨fun z => by
          rcases z with z | z
          · by_cases e : c = t
            · exact Or.inr ⟨e, z.2⟩
            · exact Or.inl ⟨by omega, z.2⟩
          · exact absurd z.2.1 (Nat.not_lt_zero j), fun z => by
          rcases z with z | z
          · exact Or.inl ⟨by omega, z.2⟩
          · exact Or.inl ⟨by omega, z.2⟩⟩
      · intro nw
        exact ite_cg ⟨fun z => by
          rcases z with z | z
          · by_cases e : c = t
            · have w := z.2.2.1
              rw [e] at w
              exact absurd w nw
            · exact Or.inl ⟨by omega, z.2⟩
          · exact absurd z.2.1 (Nat.not_lt_zero j), fun z => by
          rcases z with z | z
          · exact Or.inl ⟨by omega, z.2⟩
          · exact absurd z.2.1 (Nat.not_lt_zero j)⟩
    by_cases c : wkP W d t
    · have hA1 : AL (gI G17 66 t (iI (W t 2))) 65 R Mx (rmT W d (t + 1)) (stT W d bt kq R t 0) := by
        refine (hA.room (c := t) (W t 2)).cg (fun e he => ?_) (fun _ _ _ _ => rfl)
        by_cases et : e = t
        · rw [et]
          exact (if_pos ⟨Nat.lt_succ_self t, c⟩).trans (if_pos rfl).symm
        · refine (ite_cg ⟨fun z => ⟨by omega, z.2⟩, fun z => ⟨by omega, z.2⟩⟩).trans (if_neg et).symm
      obtain ⟨G17a, Mxa, a1, a2, a3, a4, -⟩ := known_c (F := F) (d := d) hw hv ht c hF _ Mx hA1 hM hP
      obtain ⟨G17', Mx', r1, r2⟩ := ih G17a Mxa (a2.cg (fun _ _ => rfl) (fun j e _ _ => (nx j e).1 c)) a3 (fun j e hj he => by rw [(nx j e).1 c]; exact a4 j e hj he)
      refine ⟨G17', Mx', ?_, r2⟩
      show f_X9_translate_l19b F (f_X9_translate_l19 F fu) G6 G9 G10 G13 G16 G17 _ _ _ = _
      have c' : (G16.1 63 t >>> ((iI (d : Int) - iI (d : Int) / 7 * 7) &&& 31)) &&& 1 = 0 := by rw [w3]; exact c
      unfold f_X9_translate_l19b f_X9_translate_b50
      rw [h2, if_n n1, ck_iI (by omega) (by omega) (by omega), ct, if_p c', if_n (by decide), ck_iI (by omega) (by omega) (by omega), ck_iI (by omega) (by omega) (by omega), w2, bn_eq, a1, ob_s, bn_eq, iI_lit, iI_add]
      exact r1
    · have hA1 : AL G17 65 R Mx (rmT W d (t + 1)) (stT W d bt kq R (t + 1) 0) := hA.cg (fun e he => by
        exact ite_cg ⟨fun z => ⟨by
          by_cases et : e = t
          · have w := z.2
            rw [et] at w
            exact absurd w c
          · omega, z.2⟩, fun z => ⟨by omega, z.2⟩⟩) (fun j e _ _ => (nx j e).2 c)
      obtain ⟨G17', Mx', r1, r2⟩ := ih G17 Mx hA1 hM (fun j e hj he => by rw [(nx j e).2 c]; exact hP j e hj he)
      refine ⟨G17', Mx', ?_, r2⟩
      show f_X9_translate_l19b F (f_X9_translate_l19 F fu) G6 G9 G10 G13 G16 G17 _ _ _ = _
      have c' : ¬ (G16.1 63 t >>> ((iI (d : Int) - iI (d : Int) / 7 * 7) &&& 31)) &&& 1 = 0 := by rw [w3]; exact c
      unfold f_X9_translate_l19b f_X9_translate_b50
      rw [h2, if_n n1, ck_iI (by omega) (by omega) (by omega), ct, if_n c', if_p rfl, bn_eq, iI_lit, iI_add]
      exact r1
end PR
