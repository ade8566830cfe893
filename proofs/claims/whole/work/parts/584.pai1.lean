/-! THE PAIRING: who wishes, who is free -/
theorem if3 {α : Type} {c e : Prop} [Decidable c] [Decidable e] {a : α} : (if c then (if e then a else a) else a) = a := by
  by_cases h : c
  · rw [if_pos h]
    by_cases h2 : e
    · rw [if_pos h2]
    · rw [if_neg h2]
  · rw [if_neg h]
section PR
variable {F : Nat} {G1 G2 G6 G7 G8 G9 G17 G20 G21 G23 G24 G25 G38 G41 G42 G43 : Grp} {vn gn cn d n pn tn : Nat} {tp : Nat → Nat} {P T A : Nat → Nat → Int}
/-- both lists -/
def PL (G21 G43 : Grp) (a b c k : Nat) (gs : Nat → Nat) : Prop := k ≤ 6 ∧ G43.1 91 c = iI k ∧ ∀ j, j < k → G21.1 a j = iI (gs j : Nat) ∧ G43.1 b j = iI (gs j : Nat)
theorem PL.put {a b c k : Nat} {gs : Nat → Nat} (h : PL G21 G43 a b c k gs) (hk : k < 6) (hb : b ≠ 91) (x : Nat) : PL (gI G21 a k (iI x)) (gI (gI G43 b k (iI x)) 91 c (iI ((k : Int) + 1))) a b c (k + 1) (fun j => if j = k then x else gs j) := by
  obtain ⟨h1, h2, h3⟩ := h
  refine ⟨by omega, by rw [gI_g, if_pos ⟨rfl, rfl⟩]; rfl, fun j hj => ?_⟩
  dsimp only
  rw [gI_g, gI_g, gI_g, if_neg (show ¬ (b = 91 ∧ j = c) from fun z => hb z.1)]
  by_cases e : j = k
  · rw [if_pos e, if_pos ⟨rfl, e⟩, if_pos ⟨rfl, e⟩]
    exact ⟨rfl, rfl⟩
  · rw [if_neg e, if_neg fun z => e z.2, if_neg fun z => e z.2]
    exact h3 j (by omega)
theorem idleG (hf : RFolk G6 G24 vn gn cn) (hp : RPair G7 G9 G25 gn cn d n pn tp P) (hwi : RWish G20 G42 gn A) (hd : d < 3600) (hF : 200000 ≤ F) (h6 : G43.1 91 107 = iI 6) : ∀ i fu, i ≤ gn → gn - i < fu → f_X12_gathers_l12 F fu G23 G24 G25 G41 G42 G43 (iI i) = f_X12_gathers_l78 F F G23 G24 G25 G41 G42 G43 0 := by
  obtain ⟨v1, v2, v3, v4, v5, v6, v7, -⟩ := id hf
  refine up_ind (n := gn) (Q := fun fu i => f_X12_gathers_l12 F fu G23 G24 G25 G41 G42 G43 (iI i) = f_X12_gathers_l78 F F G23 G24 G25 G41 G42 G43 0) ?_ ?_
  · intro fu
    show f_X12_gathers_l12b F (f_X12_gathers_l12 F fu) G23 G24 G25 G41 G42 G43 _ = _
    unfold f_X12_gathers_l12b
    rw [v7, if_p (by rw [iI_le (by omega) (by omega) (by omega) (by omega)]; omega)]
  · intro i fu hi ih
    have ih : f_X12_gathers_l12 F fu G23 G24 G25 G41 G42 G43 (iI ((i : Int) + 1)) = _ := ih
    have o1 : (1 : Int32) = iI 1 := rfl
    have ci : (iI (i : Int)).toNatClampNeg = i := by rw [iI_cl (by omega) (by omega)]; omega
    have po := pairsOf_m (F := F) hp hd (by omega) (c := (i : Int)) (by omega) (by omega)
    obtain ⟨-, -, -, w, -⟩ := hwi.2.1 i (by omega)
    show f_X12_gathers_l12b F (f_X12_gathers_l12 F fu) G23 G24 G25 G41 G42 G43 _ = _
    unfold f_X12_gathers_l12b
    rw [v7, if_n (by rw [iI_le (by omega) (by omega) (by omega) (by omega)]; omega), ck_iI (by omega) (by omega) (by omega), ci, po, ob_s, bn_eq, o1, iI_add, ih]
    by_cases c1 : G42.1 172 i = 0
    · rw [if_p c1]
    · rw [if_n c1]
      by_cases c2 : 2 ≤ iI ((cnt (pOf P i) pn : Nat) : Int)
      · rw [if_p c2]
      · rw [if_n c2, h6, if_p (c := iI 6 = 6) rfl]
theorem givers_both (hf : RFolk G6 G24 vn gn cn) (hp : RPair G7 G9 G25 gn cn d n pn tp P) (hwi : RWish G20 G42 gn A) (hd : d < 3600) (hF : 200000 ≤ F) : ∀ i fu, i ≤ gn → gn - i < fu → gn - i < fu → ∀ k gs G21 G43, PL G21 G43 82 170 107 k gs → (∀ j, j < k → gs j < gn) → G43.1 91 108 = iI 0 → ∃ (R : Nat) (gs' : Nat → Nat) (G21' G43' : Grp), f_X10_pickGivers_l4 F fu G6 G7 G9 G20 G21 (iI k) (iI i) = some (iI R, G21') ∧ f_X12_gathers_l12 F fu G23 G24 G25 G41 G42 G43 (iI i) = f_X12_gathers_l78 F F G23 G24 G25 G41 G42 G43' 0 ∧ PL G21' G43' 82 170 107 R gs' ∧ (∀ j, j < R → gs' j < gn) ∧ G43'.1 91 108 = iI 0 := by
  obtain ⟨v1, v2, v3, v4, v5, v6, v7, -⟩ := id hf
  refine up_ind (n := gn) (Q := fun fu i => gn - i < fu → ∀ k gs G21 G43, PL G21 G43 82 170 107 k gs → (∀ j, j < k → gs j < gn) → G43.1 91 108 = iI 0 → ∃ (R : Nat) (gs' : Nat → Nat) (G21' G43' : Grp), f_X10_pickGivers_l4 F fu G6 G7 G9 G20 G21 (iI k) (iI i) = some (iI R, G21') ∧ f_X12_gathers_l12 F fu G23 G24 G25 G41 G42 G43 (iI i) = f_X12_gathers_l78 F F G23 G24 G25 G41 G42 G43' 0 ∧ PL G21' G43' 82 170 107 R gs' ∧ (∀ j, j < R → gs' j < gn) ∧ G43'.1 91 108 = iI 0) ?_ ?_
  · intro fu hfu k gs G21 G43 hl hg h8
    refine ⟨k, gs, G21, G43, ?_, ?_, hl, hg, h8⟩
    · show f_X10_pickGivers_l4b F (f_X10_pickGivers_l4 F fu) G6 G7 G9 G20 G21 _ _ = _
      unfold f_X10_pickGivers_l4b
      rw [v6, if_p (by rw [iI_le (by omega) (by omega) (by omega) (by omega)]; omega)]
    · show f_X12_gathers_l12b F (f_X12_gathers_l12 F fu) G23 G24 G25 G41 G42 G43 _ = _
      unfold f_X12_gathers_l12b
      rw [v7, if_p (by rw [iI_le (by omega) (by omega) (by omega) (by omega)]; omega)]
  · intro i fu hi ih hfu k gs G21 G43 hl hg h8
    have o1 : (1 : Int32) = iI 1 := rfl
    have o6 : (6 : Int32) = iI 6 := rfl
    have ci : (iI (i : Int)).toNatClampNeg = i := by rw [iI_cl (by omega) (by omega)]; omega
    have n1 : ¬ iI (gn : Int) ≤ iI (i : Int) := by rw [iI_le (by omega) (by omega) (by omega) (by omega)]; omega
    obtain ⟨l1, l2, l3⟩ := id hl
    by_cases k6 : k = 6
    · subst k6
      refine ⟨6, gs, G21, G43, ?_, idleG hf hp hwi hd hF l2 i _ (by omega) hfu, hl, hg, h8⟩
      show f_X10_pickGivers_l4b F (f_X10_pickGivers_l4 F fu) G6 G7 G9 G20 G21 _ _ = _
      unfold f_X10_pickGivers_l4b
      rw [v6, if_n n1, if_p (by decide +kernel)]
    · have hr := hasRoom_c (F := F) hp hd (by omega) (c := (i : Int)) (by omega) (by omega)
      have po := pairsOf_m (F := F) hp hd (by omega) (c := (i : Int)) (by omega) (by omega)
      have cb := cnt_le (pOf P (i : Int)) pn
      have hpn := hp.1
      obtain ⟨w1, -, -, w2, -⟩ := hwi.2.1 i (by omega)
      have wb := (hwi.2.2 i (by omega)).1
      have n6 : ¬ 6 ≤ iI (k : Int) := by rw [o6, iI_le (by omega) (by omega) (by omega) (by omega)]; omega
      have e6 : ¬ iI (k : Int) = 6 := by rw [o6, iI_eq (by omega) (by omega) (by omega) (by omega)]; omega
      have skip : ∃ (R : Nat) (gs' : Nat → Nat) (G21' G43' : Grp), f_X10_pickGivers_l4 F fu G6 G7 G9 G20 G21 (iI k) (iI ((i : Int) + 1)) = some (iI R, G21') ∧ f_X12_gathers_l12 F fu G23 G24 G25 G41 G42 G43 (iI ((i : Int) + 1)) = f_X12_gathers_l78 F F G23 G24 G25 G41 G42 G43' 0 ∧ PL G21' G43' 82 170 107 R gs' ∧ (∀ j, j < R → gs' j < gn) ∧ G43'.1 91 108 = iI 0 := ih (by omega) k gs G21 G43 hl hg h8
      by_cases c1 : A i 0 = 0
      · obtain ⟨R, gs', G21', G43', r1, r2, r3⟩ := skip
        refine ⟨R, gs', G21', G43', ?_, ?_, r3⟩
        · show f_X10_pickGivers_l4b F (f_X10_pickGivers_l4 F fu) G6 G7 G9 G20 G21 _ _ = _
          unfold f_X10_pickGivers_l4b
          rw [v6, if_n n1, if_n n6, ck_iI (by omega) (by omega) (by omega), ci, w1, c1, if_p (c := iI 0 = 0) rfl, bn_eq, o1, iI_add]
          exact r1
        · show f_X12_gathers_l12b F (f_X12_gathers_l12 F fu) G23 G24 G25 G41 G42 G43 _ = _
          unfold f_X12_gathers_l12b
          rw [v7, if_n n1, ck_iI (by omega) (by omega) (by omega), ci, w2, c1, if_p (c := iI 0 = 0) rfl, bn_eq, o1, iI_add]
          exact r2
      · have a1 : ¬ iI (A i 0) = 0 := by rw [show (0 : Int32) = iI 0 from rfl, iI_eq (by omega) (by omega) (by omega) (by omega)]; exact c1
        by_cases c2 : cnt (pOf P (i : Int)) pn < 2
        · rw [bI_t c2] at hr
          obtain ⟨R, gs', G21', G43', r1, r2, r3⟩ := ih (by omega) (k + 1) _ _ _ (hl.put (by omega) (by omega) i) (fun j hj => by
            by_cases e : j = k
            · rw [if_pos e]; exact hi
            · rw [if_neg e]; exact hg j (by omega)) (by rw [gI_g, gI_g, if_neg (by omega), if_neg (by omega)]; exact h8)
          have r1 : f_X10_pickGivers_l4 F fu G6 G7 G9 G20 (gI G21 82 k (iI i)) (iI ((k : Int) + 1)) (iI ((i : Int) + 1)) = _ := r1
          have r2 : f_X12_gathers_l12 F fu G23 G24 G25 G41 G42 (gI (gI G43 170 k (iI i)) 91 107 (iI ((k : Int) + 1))) (iI ((i : Int) + 1)) = _ := r2
          have ck' : (iI (k : Int)).toNatClampNeg = k := by rw [iI_cl (by omega) (by omega)]; omega
          refine ⟨R, gs', G21', G43', ?_, ?_, r3⟩
          · show f_X10_pickGivers_l4b F (f_X10_pickGivers_l4 F fu) G6 G7 G9 G20 G21 _ _ = _
            unfold f_X10_pickGivers_l4b
            rw [v6, if_n n1, if_n n6, ck_iI (by omega) (by omega) (by omega), ci, w1, if_n a1, hr, ob_s, if_n (by decide), ck_iI (by omega) (by omega) (by omega), bn_eq, bn_eq, bn_eq, ck', o1, iI_add, iI_add]
            exact r1
          · show f_X12_gathers_l12b F (f_X12_gathers_l12 F fu) G23 G24 G25 G41 G42 G43 _ = _
            unfold f_X12_gathers_l12b
            rw [v7, if_n n1, ck_iI (by omega) (by omega) (by omega), ci, w2, if_n a1, po, ob_s, if_n (by rw [show (2 : Int32) = iI 2 from rfl, iI_le (by omega) (by omega) (by omega) (by omega)]; omega), l2, if_n e6, ck_iI (by omega) (by omega) (by omega), bn_eq, bn_eq, bn_eq, ck', gI_g, if_neg (by omega), l2, o1, iI_add, iI_add]
            exact r2
        · rw [bI_f c2] at hr
          obtain ⟨R, gs', G21', G43', r1, r2, r3⟩ := skip
          refine ⟨R, gs', G21', G43', ?_, ?_, r3⟩
          · show f_X10_pickGivers_l4b F (f_X10_pickGivers_l4 F fu) G6 G7 G9 G20 G21 _ _ = _
            unfold f_X10_pickGivers_l4b
            rw [v6, if_n n1, if_n n6, ck_iI (by omega) (by omega) (by omega), ci, w1, if_n a1, hr, ob_s, if_p rfl, bn_eq, o1, iI_add]
            exact r1
          · show f_X12_gathers_l12b F (f_X12_gathers_l12 F fu) G23 G24 G25 G41 G42 G43 _ = _
            unfold f_X12_gathers_l12b
            rw [v7, if_n n1, ck_iI (by omega) (by omega) (by omega), ci, w2, if_n a1, po, ob_s, if_p (by rw [show (2 : Int32) = iI 2 from rfl, iI_le (by omega) (by omega) (by omega) (by omega)]; omega), bn_eq, o1, iI_add]
            exact r2
/-- a child that may be given -/
abbrev frK (P T : Nat → Nat → Int) (pn tn d c : Nat) : Prop := fst (pOpen P (c : Int)) pn = none ∧ lft T c d tn = -1
theorem idleC (hf : RFolk G6 G24 vn gn cn) (hp : RPair G7 G9 G25 gn cn d n pn tp P) (ht : RTell G8 G41 cn d tn T) (hd : d < 3600) (h23 : G23.1 91 0 = iI d) (hF : 200000 ≤ F) (h6 : G43.1 91 108 = iI 6) : ∀ i fu, i ≤ cn → cn - i < fu → f_X12_gathers_l78 F fu G23 G24 G25 G41 G42 G43 (iI i) = some G43 := by
  obtain ⟨v1, v2, v3, v4, v5, v6, v7, v8, v9, -⟩ := id hf
  refine up_ind (n := cn) (Q := fun fu i => f_X12_gathers_l78 F fu G23 G24 G25 G41 G42 G43 (iI i) = some G43) ?_ ?_
  · intro fu
    show f_X12_gathers_l78b F (f_X12_gathers_l78 F fu) G23 G24 G25 G41 G42 G43 _ = _
    unfold f_X12_gathers_l78b
    rw [v9, if_p (by rw [iI_le (by omega) (by omega) (by omega) (by omega)]; omega)]
  · intro i fu hi ih
    have ih : f_X12_gathers_l78 F fu G23 G24 G25 G41 G42 G43 (iI ((i : Int) + 1)) = _ := ih
    have o1 : (1 : Int32) = iI 1 := rfl
    have po := pairOf_m (F := F) hp hd (by omega) (c := (i : Int)) (by omega) (by omega)
    have lo := leftOn_m (F := F) ht hd (by omega) (c := (i : Int)) (k := (d : Int)) (by omega) (by omega) (by omega) (by omega)
    show f_X12_gathers_l78b F (f_X12_gathers_l78 F fu) G23 G24 G25 G41 G42 G43 _ = _
    unfold f_X12_gathers_l78b
    rw [v9, if_n (by rw [iI_le (by omega) (by omega) (by omega) (by omega)]; omega), po, ob_s, h23, lo, ob_s, h6, if_p (c := iI 6 = 6) rfl, bn_eq, o1, iI_add, ih]
    exact if3
theorem children_both (hf : RFolk G6 G24 vn gn cn) (hp : RPair G7 G9 G25 gn cn d n pn tp P) (ht : RTell G8 G41 cn d tn T) (hd : d < 3600) (h23 : G23.1 91 0 = iI d) (hF : 200000 ≤ F) : ∀ i fu, i ≤ cn → cn - i < fu → cn - i < fu → ∀ k cs G21 G43, PL G21 G43 83 171 108 k cs → (∀ j, j < k → cs j < i ∧ frK P T pn tn d (cs j)) → (∀ j e, j < k → e < k → cs j = cs e → j = e) → ∃ (K : Nat) (cs' : Nat → Nat) (G21' G43' : Grp), f_X10_pickChildren_l5 F fu G6 G7 G8 G9 G21 (iI d) (iI k) (iI i) = some (iI K, G21') ∧ f_X12_gathers_l78 F fu G23 G24 G25 G41 G42 G43 (iI i) = some G43' ∧ PL G21' G43' 83 171 108 K cs' ∧ (∀ j, j < K → cs' j < cn ∧ frK P T pn tn d (cs' j)) ∧ (∀ j e, j < K → e < K → cs' j = cs' e → j = e) ∧ (∀ j, G21'.1 82 j = G21.1 82 j) ∧ (∀ j, G43'.1 170 j = G43.1 170 j) ∧ G43'.1 91 107 = G43.1 91 107 := by
  obtain ⟨v1, v2, v3, v4, v5, v6, v7, v8, v9, -⟩ := id hf
  refine up_ind (n := cn) (Q := fun fu i => cn - i < fu → ∀ k cs G21 G43, PL G21 G43 83 171 108 k cs → (∀ j, j < k → cs j < i ∧ frK P T pn tn d (cs j)) → (∀ j e, j < k → e < k → cs j = cs e → j = e) → ∃ (K : Nat) (cs' : Nat → Nat) (G21' G43' : Grp), f_X10_pickChildren_l5 F fu G6 G7 G8 G9 G21 (iI d) (iI k) (iI i) = some (iI K, G21') ∧ f_X12_gathers_l78 F fu G23 G24 G25 G41 G42 G43 (iI i) = some G43' ∧ PL G21' G43' 83 171 108 K cs' ∧ (∀ j, j < K → cs' j < cn ∧ frK P T pn tn d (cs' j)) ∧ (∀ j e, j < K → e < K → cs' j = cs' e → j = e) ∧ (∀ j, G21'.1 82 j = G21.1 82 j) ∧ (∀ j, G43'.1 170 j = G43.1 170 j) ∧ G43'.1 91 107 = G43.1 91 107) ?_ ?_
  · intro fu hfu k cs G21 G43 hl hg hi
    refine ⟨k, cs, G21, G43, ?_, ?_, hl, hg, hi, fun _ => rfl, fun _ => rfl, rfl⟩
    · show f_X10_pickChildren_l5b F (f_X10_pickChildren_l5 F fu) G6 G7 G8 G9 G21 _ _ _ = _
      unfold f_X10_pickChildren_l5b
      rw [v8, if_p (by rw [iI_le (by omega) (by omega) (by omega) (by omega)]; omega)]
    · show f_X12_gathers_l78b F (f_X12_gathers_l78 F fu) G23 G24 G25 G41 G42 G43 _ = _
      unfold f_X12_gathers_l78b
      rw [v9, if_p (by rw [iI_le (by omega) (by omega) (by omega) (by omega)]; omega)]
  · intro i fu hi ih hfu k cs G21 G43 hl hg hj
    have o1 : (1 : Int32) = iI 1 := rfl
    have o6 : (6 : Int32) = iI 6 := rfl
    have n1 : ¬ iI (cn : Int) ≤ iI (i : Int) := by rw [iI_le (by omega) (by omega) (by omega) (by omega)]; omega
    obtain ⟨l1, l2, l3⟩ := id hl
    by_cases k6 : k = 6
    · subst k6
      refine ⟨6, cs, G21, G43, ?_, idleC hf hp ht hd h23 hF l2 i _ (by omega) hfu, hl, fun j z => ⟨by have := (hg j z).1; omega, (hg j z).2⟩, hj, fun _ => rfl, fun _ => rfl, rfl⟩
      show f_X10_pickChildren_l5b F (f_X10_pickChildren_l5 F fu) G6 G7 G8 G9 G21 _ _ _ = _
      unfold f_X10_pickChildren_l5b
      rw [v8, if_n n1, if_p (by decide +kernel)]
    · have fr := isFree_c (F := F) hf hp ht hd (by omega) (c := (i : Int)) (k := (d : Int)) (by omega) (by omega) (by omega) (by omega)
      have po := pairOf_m (F := F) hp hd (by omega) (c := (i : Int)) (by omega) (by omega)
      have lo := leftOn_m (F := F) ht hd (by omega) (c := (i : Int)) (k := (d : Int)) (by omega) (by omega) (by omega) (by omega)
      have lr := lft_r ht i d tn (Nat.le_refl _)
      have hpn := hp.1
      have n6 : ¬ 6 ≤ iI (k : Int) := by rw [o6, iI_le (by omega) (by omega) (by omega) (by omega)]; omega
      have e6 : ¬ iI (k : Int) = 6 := by rw [o6, iI_eq (by omega) (by omega) (by omega) (by omega)]; omega
      have skip : ∃ (K : Nat) (cs' : Nat → Nat) (G21' G43' : Grp), f_X10_pickChildren_l5 F fu G6 G7 G8 G9 G21 (iI d) (iI k) (iI ((i : Int) + 1)) = some (iI K, G21') ∧ f_X12_gathers_l78 F fu G23 G24 G25 G41 G42 G43 (iI ((i : Int) + 1)) = some G43' ∧ PL G21' G43' 83 171 108 K cs' ∧ (∀ j, j < K → cs' j < cn ∧ frK P T pn tn d (cs' j)) ∧ (∀ j e, j < K → e < K → cs' j = cs' e → j = e) ∧ (∀ j, G21'.1 82 j = G21.1 82 j) ∧ (∀ j, G43'.1 170 j = G43.1 170 j) ∧ G43'.1 91 107 = G43.1 91 107 := ih (by omega) k cs G21 G43 hl (fun j z => ⟨by have := (hg j z).1; omega, (hg j z).2⟩) hj
      by_cases c1 : frK P T pn tn d i
      · rw [bI_t ⟨by omega, c1.1, c1.2⟩] at fr
        rw [c1.1] at po
        have po : f_X12_pairOf F G25 (iI (i : Int)) = some (iI (-1)) := po
        rw [c1.2] at lo
        obtain ⟨K, cs', G21', G43', r1, r2, r3, r4, r5, r6, r7, r8⟩ := ih (by omega) (k + 1) _ _ _ (hl.put (by omega) (by omega) i) (fun j z => by
          by_cases e : j = k
          · rw [if_pos e]; exact ⟨by omega, c1⟩
          · rw [if_neg e]; exact ⟨by have := (hg j (by omega)).1; omega, (hg j (by omega)).2⟩) (fun j e z1 z2 z3 => by
          by_cases ej : j = k
          · by_cases ee : e = k
            · omega
            · rw [if_pos ej, if_neg ee] at z3
              have := (hg e (by omega)).1
              omega
          · by_cases ee : e = k
            · rw [if_neg ej, if_pos ee] at z3
              have := (hg j (by omega)).1
              omega
            · rw [if_neg ej, if_neg ee] at z3
              exact hj j e (by omega) (by omega) z3)
        have r1 : f_X10_pickChildren_l5 F fu G6 G7 G8 G9 (gI G21 83 k (iI i)) (iI d) (iI ((k : Int) + 1)) (iI ((i : Int) + 1)) = _ := r1
        have r2 : f_X12_gathers_l78 F fu G23 G24 G25 G41 G42 (gI (gI G43 171 k (iI i)) 91 108 (iI ((k : Int) + 1))) (iI ((i : Int) + 1)) = _ := r2
        have ck' : (iI (k : Int)).toNatClampNeg = k := by rw [iI_cl (by omega) (by omega)]; omega
        refine ⟨K, cs', G21', G43', ?_, ?_, r3, r4, r5, fun j => by rw [r6, gI_g, if_neg (by omega)], fun j => by rw [r7, gI_g, gI_g, if_neg (by omega), if_neg (by omega)], by rw [r8, gI_g, gI_g, if_neg (by omega), if_neg (by omega)]⟩
        · show f_X10_pickChildren_l5b F (f_X10_pickChildren_l5 F fu) G6 G7 G8 G9 G21 _ _ _ = _
          unfold f_X10_pickChildren_l5b
          rw [v8, if_n n1, if_n n6, fr, ob_s, if_n (by decide), ck_iI (by omega) (by omega) (by omega), bn_eq, bn_eq, bn_eq, ck', o1, iI_add, iI_add]
          exact r1
        · show f_X12_gathers_l78b F (f_X12_gathers_l78 F fu) G23 G24 G25 G41 G42 G43 _ = _
          unfold f_X12_gathers_l78b
          rw [v9, if_n n1, po, ob_s, if_p (by decide +kernel), h23, lo, ob_s, if_p (by decide +kernel), l2, if_n e6, ck_iI (by omega) (by omega) (by omega), bn_eq, bn_eq, bn_eq, ck', gI_g, if_neg (by omega), l2, o1, iI_add, iI_add]
          exact r2
      · rw [bI_f fun z => c1 ⟨z.2.1, z.2.2⟩] at fr
        obtain ⟨K, cs', G21', G43', r1, r2, r3⟩ := skip
        refine ⟨K, cs', G21', G43', ?_, ?_, r3⟩
        · show f_X10_pickChildren_l5b F (f_X10_pickChildren_l5 F fu) G6 G7 G8 G9 G21 _ _ _ = _
          unfold f_X10_pickChildren_l5b
          rw [v8, if_n n1, if_n n6, fr, ob_s, if_p rfl, bn_eq, o1, iI_add]
          exact r1
        · show f_X12_gathers_l78b F (f_X12_gathers_l78 F fu) G23 G24 G25 G41 G42 G43 _ = _
          unfold f_X12_gathers_l78b
          rw [v9, if_n n1, po, ob_s]
          cases hx : fst (pOpen P (i : Int)) pn with
          | some q =>
            have := (fst_some.mp hx).1
            rw [if_n (by
              show ¬ iI (q : Int) = -1
              rw [m1_iI, iI_eq (by omega) (by omega) (by omega) (by omega)]
              omega), bn_eq, o1, iI_add]
            exact r2
          | none =>
            rw [if_p (by decide +kernel), h23, lo, ob_s, if_n (by
              rw [m1_iI, iI_eq (by omega) (by omega) (by omega) (by omega)]
              exact fun z => c1 ⟨hx, z⟩), bn_eq, o1, iI_add]
            exact r2
end PR
