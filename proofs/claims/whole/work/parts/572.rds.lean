/-! a day: all that is read -/
noncomputable def dayB (F : Nat) (G23 G24 G25 G26 G29 G30 G32 G33 G34 G35 G36 G37 G38 : Grp) : Option (Int32 × Grp × Grp × Grp × Grp × Grp × Grp × Grp × Grp) := ob (f_X12_turns F G23 G24 G25 G32 G37 G38) (fun q_62 => ob (f_X12_lettersCome F G23 G24 (q_62.1) (q_62.2.1)) (fun q_66 => ob (f_X12_sacksGo F G23 G26 q_66 G35) (fun q_70 => f_X12_day_l75 F F G23 G24 (q_62.1) G26 G29 G30 (q_70.1) G33 G34 (q_70.2) G36 G37 (q_62.2.2) 0)))
section PR
variable {F : Nat} {G1 G2 G3 G4 G5 G6 G7 G8 G9 G10 G11 G12 G13 G14 G15 G23 G24 G25 G26 G29 G30 G31 G32 G33 G34 G35 G36 G37 G38 G41 : Grp} {vn gn cn d n pn ln tn sn v sp S cnt r : Nat} {tp tl Ln gl rt : Nat → Nat} {P L T : Nat → Nat → Int} {X : Nat → Nat → Nat} {f : Nat → Int} {dc : Nat → Int}
theorem m1_iI : (-1 : Int32) = iI (-1) := by decide +kernel
theorem ck28 {α : Type} (x : Option α) : ck (2 : Int32) 8 x = x := ck_iI (a := 2) (by omega) (by omega) (by omega)
theorem num2 (hn : RNum G2 G26 f) : ∃ N : Nat, N ≤ 20 ∧ f 2 = (N : Int) ∧ G2.1 2 (2 : Int32).toNatClampNeg = iI N ∧ G26.1 105 (2 : Int32).toNatClampNeg = iI N := by
  obtain ⟨a1, a2, a3, a4⟩ := hn.1 2 (by omega)
  have z2 : ((2 : Int32).toNatClampNeg) = 2 := by decide
  have h1 : nLo 2 = 1 := rfl
  have h2 : nHi 2 = 20 := rfl
  rw [h1] at a3
  rw [h2] at a4
  have e : f 2 = ((f 2).toNat : Nat) := by omega
  rw [z2, a1, a2]
  exact ⟨(f 2).toNat, by omega, e, by rw [← e], by rw [← e]⟩
theorem idle_m (hm : LM G32 ln L) (hb : LB pn d ln L) (hn : RNum G2 G26 f) (hd : d < 3600) (hF : 200000 ≤ F) (hno : nxt L 2 none ln = none) {N : Nat} (hN : G26.1 105 (2 : Int32).toNatClampNeg = iI N) (hN2 : N ≤ 20) : ∀ k fu, k ≤ N → N - k < fu → f_X12_day_l28 F fu G23 G24 G25 G26 G29 G30 G32 G33 G34 G35 G36 G37 G38 (iI k) = dayB F G23 G24 G25 G26 G29 G30 G32 G33 G34 G35 G36 G37 G38 := by
  have nm := next_m (F := F) hm hb hd hF (s := 2) (by omega) (af := none) (fun a h => by cases h)
  rw [hno] at nm
  have nm : f_X12_nextIn F G32 2 (iI (-1)) = some (iI (-1)) := nm
  rw [← m1_iI] at nm
  refine up_ind (n := N) (Q := fun fu k => f_X12_day_l28 F fu G23 G24 G25 G26 G29 G30 G32 G33 G34 G35 G36 G37 G38 (iI k) = dayB F G23 G24 G25 G26 G29 G30 G32 G33 G34 G35 G36 G37 G38) ?_ ?_
  · intro fu
    show f_X12_day_l28b F (f_X12_day_l28 F fu) G23 G24 G25 G26 G29 G30 G32 G33 G34 G35 G36 G37 G38 _ = _
    unfold f_X12_day_l28b
    rw [ck28, hN, if_p (by rw [iI_le (by omega) (by omega) (by omega) (by omega)]; omega)]
    rfl
  · intro k fu hk ih
    show f_X12_day_l28b F (f_X12_day_l28 F fu) G23 G24 G25 G26 G29 G30 G32 G33 G34 G35 G36 G37 G38 _ = _
    have ih : f_X12_day_l28 F fu G23 G24 G25 G26 G29 G30 G32 G33 G34 G35 G36 G37 G38 (iI ((k : Int) + 1)) = _ := ih
    unfold f_X12_day_l28b
    rw [ck28, hN, if_n (by rw [iI_le (by omega) (by omega) (by omega) (by omega)]; omega), nm, ob_s, if_p rfl, bn_eq, iI_lit, iI_add]
    exact ih
theorem reads_both (h : RLet G3 G7 G9 G10 G13 G14 G15 G25 G32 G33 G34 gn cn d n pn ln sn tp tl Ln P L X) (hf : RFolk G6 G24 vn gn cn) (hr : RRul G1 G4 G29 v sp S cnt r gl rt dc) (hh : RHand G12 G36) (hnm : RNum G2 G26 f) (hlk : RLook G5 G31) (hd : d < 3600) (h23 : G23.1 91 0 = iI d) (hF : 200000 ≤ F) : ∃ G3' G5' G9' G12' G13' G25' G30' G32' G36' P' L' X', f_X6_readSome F G2 G3 G4 G5 G6 G9 G10 G12 G13 G14 v (iI d) = some (G3', G5', G9', G12', G13') ∧ f_X12_day_l28 F F G23 G24 G25 G26 G29 G30 G32 G33 G34 G35 G36 G37 G38 0 = dayB F G23 G24 G25' G26 G29 G30' G32' G33 G34 G35 G36' G37 G38 ∧ RLet G3' G7 G9' G10 G13' G14 G15 G25' G32' G33 G34 gn cn d n pn ln sn tp tl Ln P' L' X' ∧ RHand G12' G36' ∧ RLook G5' G31 ∧ G3'.2 = G3.2 ∧ ∀ a k, a < 174 → G3'.1 a k = G3.1 a k := by
  obtain ⟨N, N1, N2, N3, N4⟩ := num2 hnm
  have key := up_ind (n := N) (Q := fun fu k => N - k < fu → ∀ G3 G5 G9 G12 G13 G25 G30 G32 G36 P L X, RLet G3 G7 G9 G10 G13 G14 G15 G25 G32 G33 G34 gn cn d n pn ln sn tp tl Ln P L X → RHand G12 G36 → RLook G5 G31 → ∃ G3' G5' G9' G12' G13' G25' G30' G32' G36' P' L' X', f_X6_readSome_l2 F fu G2 G3 G4 G5 G6 G9 G10 G12 G13 G14 v (iI d) (iI k) = some (G3', G5', G9', G12', G13') ∧ f_X12_day_l28 F fu G23 G24 G25 G26 G29 G30 G32 G33 G34 G35 G36 G37 G38 (iI k) = dayB F G23 G24 G25' G26 G29 G30' G32' G33 G34 G35 G36' G37 G38 ∧ RLet G3' G7 G9' G10 G13' G14 G15 G25' G32' G33 G34 gn cn d n pn ln sn tp tl Ln P' L' X' ∧ RHand G12' G36' ∧ RLook G5' G31 ∧ G3'.2 = G3.2 ∧ ∀ a k, a < 174 → G3'.1 a k = G3.1 a k) ?_ ?_
  · exact key 0 F (by omega) (by omega) (by omega) G3 G5 G9 G12 G13 G25 G30 G32 G36 P L X h hh hlk
  · intro fu hfu G3 G5 G9 G12 G13 G25 G30 G32 G36 P L X h hh hlk
    refine ⟨G3, G5, G9, G12, G13, G25, G30, G32, G36, P, L, X, ?_, ?_, h, hh, hlk, rfl, fun _ _ _ => rfl⟩
    · show f_X6_readSome_l2b F (f_X6_readSome_l2 F fu) G2 G3 G4 G5 G6 G9 G10 G12 G13 G14 v _ _ = _
      unfold f_X6_readSome_l2b
      rw [ck28, N3, if_p (by rw [iI_le (by omega) (by omega) (by omega) (by omega)]; omega)]
    · show f_X12_day_l28b F (f_X12_day_l28 F fu) G23 G24 G25 G26 G29 G30 G32 G33 G34 G35 G36 G37 G38 _ = _
      unfold f_X12_day_l28b
      rw [ck28, N4, if_p (by rw [iI_le (by omega) (by omega) (by omega) (by omega)]; omega)]
      rfl
  · intro k fu hk ih hfu G3 G5 G9 G12 G13 G25 G30 G32 G36 P L X h hh hlk
    obtain ⟨hp, hc, hm, hb, hmk, hg, hx, hsl, hwt, hn⟩ := id h
    have fc := first_c (F := F) hc hb hd hF (s := 2) (by omega) (af := none) (fun a h => by cases h)
    have nm := next_m (F := F) hm hb hd hF (s := 2) (by omega) (af := none) (fun a h => by cases h)
    have fc : f_X6_firstIn F G10 G13 2 none = some ((nxt L 2 none ln).map tl) := fc
    have nm : f_X12_nextIn F G32 2 (iI (-1)) = some (iI (oI (nxt L 2 none ln))) := nm
    rw [← m1_iI] at nm
    cases hx : nxt L 2 none ln with
    | none =>
      rw [hx] at fc
      refine ⟨G3, G5, G9, G12, G13, G25, G30, G32, G36, P, L, X, ?_, idle_m hm hb hnm hd hF hx N4 N1 k _ (by omega) hfu, h, hh, hlk, rfl, fun _ _ _ => rfl⟩
      show f_X6_readSome_l2b F (f_X6_readSome_l2 F fu) G2 G3 G4 G5 G6 G9 G10 G12 G13 G14 v _ _ = _
      unfold f_X6_readSome_l2b
      rw [ck28, N3, if_n (by rw [iI_le (by omega) (by omega) (by omega) (by omega)]; omega), fc, ob_s]
      rfl
    | some i =>
      rw [hx] at fc nm
      obtain ⟨i1, i2, -⟩ := nxt_lt ln i hx
      have hl := hb.1
      obtain ⟨G3a, G5a, G9a, G12a, G13a, G25a, G30a, G32a, G36a, Pa, La, Xa, a1, a2, a3, a4, a5, a6, a7⟩ := read_both (F := F) (G30 := G30) h hf hr hh hnm hlk i1 i2 hd h23 hF
      obtain ⟨G3', G5', G9', G12', G13', G25', G30', G32', G36', P', L', X', b1, b2, b3, b4, b5, b6, b7⟩ := ih (by omega) G3a G5a G9a G12a G13a G25a G30a G32a G36a Pa La Xa a3 a4 a5
      have b1 : f_X6_readSome_l2 F fu G2 G3a G4 G5a G6 G9a G10 G12a G13a G14 v (iI d) (iI ((k : Int) + 1)) = _ := b1
      have b2 : f_X12_day_l28 F fu G23 G24 G25a G26 G29 G30a G32a G33 G34 G35 G36a G37 G38 (iI ((k : Int) + 1)) = _ := b2
      refine ⟨G3', G5', G9', G12', G13', G25', G30', G32', G36', P', L', X', ?_, ?_, b3, b4, b5, b6.trans a6, fun a q ha => (b7 a q ha).trans (a7 a q ha)⟩
      · show f_X6_readSome_l2b F (f_X6_readSome_l2 F fu) G2 G3 G4 G5 G6 G9 G10 G12 G13 G14 v _ _ = _
        unfold f_X6_readSome_l2b
        rw [ck28, N3, if_n (by rw [iI_le (by omega) (by omega) (by omega) (by omega)]; omega), fc, ob_s]
        show om (some (tl i)) _ _ = _
        rw [om_s, a1, ob_s, bn_eq, iI_lit, iI_add]
        exact b1
      · show f_X12_day_l28b F (f_X12_day_l28 F fu) G23 G24 G25 G26 G29 G30 G32 G33 G34 G35 G36 G37 G38 _ = _
        unfold f_X12_day_l28b
        rw [ck28, N4, if_n (by rw [iI_le (by omega) (by omega) (by omega) (by omega)]; omega), nm, ob_s]
        have e1 : ¬ iI (oI (some i)) = -1 := by
          show ¬ iI (i : Int) = -1
          rw [m1_iI, iI_eq (by omega) (by omega) (by omega) (by omega)]
          omega
        have a2 : f_X12_reads F G23 G24 G25 G26 G29 G30 G32 G33 G36 (iI (oI (some i))) = _ := a2
        rw [if_n e1, a2, ob_s, bn_eq, iI_lit, iI_add]
        exact b2
end PR
