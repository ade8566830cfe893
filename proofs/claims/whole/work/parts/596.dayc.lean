/-! a day -/
section PR
variable {F : Nat} {G1 G2 G3 G4 G5 G6 G7 G8 G9 G10 G11 G12 G13 G14 G15 G16 G17 G23 G24 G25 G26 G27 G29 G30 G31 G32 G33 G34 G35 G36 G37 G38 G41 : Grp} {vn gn cn d n pn ln tn sn wn v sp S cnt r z : Nat} {tp tl Ln gl rt b : Nat → Nat} {P L T : Nat → Nat → Int} {X W : Nat → Nat → Nat} {f : Nat → Int} {dc : Nat → Int}
theorem RRul.g1 {G1' : Grp} (h : RRul G1 G4 G29 v sp S cnt r gl rt dc) (e : G1'.2 = G1.2) : RRul G1' G4 G29 v sp S cnt r gl rt dc := by
  obtain ⟨h1, h2, h3, h4⟩ := h
  refine ⟨h1, ?_, ?_, h4⟩
  · rw [e]; exact h2
  · rw [e]; exact h3
theorem RTape.g1 {G1' G3' : Grp} (h : RTape G1 G3 G27 z b) (e : G1'.1 0 2 = G1.1 0 2) (e2 : G3'.2 = G3.2) (e3 : ∀ k, G3'.1 1 k = G3.1 1 k) : RTape G1' G3' G27 z b := by
  obtain ⟨h1, h2, h3, h4, h5, h6⟩ := h
  refine ⟨h1, e.trans h2, h3, ?_, fun i hi => ?_, h6⟩
  · rw [e2]; exact h4
  · rw [e3]; exact h5 i hi
theorem call_day (h : RLet G3 G7 G9 G10 G13 G14 G15 G25 G32 G33 G34 gn cn d n pn ln sn tp tl Ln P L X) (hf : RFolk G6 G24 vn gn cn) (hr : RRul G1 G4 G29 v sp S cnt r gl rt dc) (hh : RHand G12 G36) (hnm : RNum G2 G26 f) (hlk : RLook G5 G31) (hw : RTr G16 G37 wn W) (hk : RSack G11 G35 sn) (ht : RTape G1 G3 G27 z b) (hd : d < 3600) (h1 : G1.1 0 0 = iI d) (h23 : G23.1 91 0 = iI d) (hF : 200000 ≤ F) : ok (f_X11_day F G1 G2 G3 G4 G5 G6 G9 G10 G11 G12 G13 G14 G15 G16 G17) (fun q => ok (f_X12_day F G23 G24 G25 G26 G29 G30 G32 G33 G34 G35 G36 G37 G38) fun w => q.1 = w.1 ∧ ∃ d' sn' P' L' X', d ≤ d' ∧ d' < 3600 ∧ q.2.1.1 0 0 = iI (d' : Nat) ∧ w.2.1.1 91 0 = iI (d' : Nat) ∧ RLet q.2.2.1 G7 q.2.2.2.2.1 G10 q.2.2.2.2.2.2.2.1 G14 q.2.2.2.2.2.2.2.2.1 w.2.2.1 w.2.2.2.2.1 G33 w.2.2.2.2.2.1 gn cn d' n pn ln sn' tp tl Ln P' L' X' ∧ RHand q.2.2.2.2.2.2.1 w.2.2.2.2.2.2.2.1 ∧ RLook q.2.2.2.1 G31 ∧ RSack q.2.2.2.2.2.1 w.2.2.2.2.2.2.1 sn' ∧ RTr q.2.2.2.2.2.2.2.2.2.1 G37 wn W ∧ RRul q.2.1 G4 G29 v sp S cnt r gl rt dc ∧ RTape q.2.1 q.2.2.1 G27 z b) := by
  have o1 : (1 : Int32) = iI 1 := rfl
  have ol : (3599 : Int32) = iI 3599 := rfl
  by_cases c : d = 3599
  · have e1 : f_X11_day F G1 G2 G3 G4 G5 G6 G9 G10 G11 G12 G13 G14 G15 G16 G17 = some (-1, G1, G3, G5, G9, G11, G12, G13, G15, G16, G17) := by
      unfold f_X11_day
      rw [h1, if_n (by rw [ol, iI_lt (by omega) (by omega) (by omega) (by omega)]; omega)]
    have e2 : f_X12_day F G23 G24 G25 G26 G29 G30 G32 G33 G34 G35 G36 G37 G38 = some (-1, G23, G25, G30, G32, G34, G35, G36, G38) := by
      unfold f_X12_day
      rw [h23, if_p (by rw [ol, iI_eq (by omega) (by omega) (by omega) (by omega)]; omega)]
    rw [e1, e2]
    exact ⟨rfl, d, sn, P, L, X, Nat.le_refl _, hd, h1, h23, h, hh, hlk, hk, hw, hr, ht⟩
  · have hd1 : d + 1 < 3600 := by omega
    have ee : iI (d : Int) + 1 = iI ((d + 1 : Nat) : Int) := by rw [o1, iI_add]; rfl
    obtain ⟨G1a, hG1⟩ : ∃ G1a, G1a = gI G1 0 0 (iI ((d + 1 : Nat) : Int)) := ⟨_, rfl⟩
    obtain ⟨G23a, hG23⟩ : ∃ G23a, G23a = gI G23 91 0 (iI ((d + 1 : Nat) : Int)) := ⟨_, rfl⟩
    have g1 : G1a.1 0 0 = iI ((d + 1 : Nat) : Int) := by rw [hG1, gI_g, if_pos ⟨rfl, rfl⟩]
    have g23 : G23a.1 91 0 = iI ((d + 1 : Nat) : Int) := by rw [hG23, gI_g, if_pos ⟨rfl, rfl⟩]
    have hr' : RRul G1a G4 G29 v sp S cnt r gl rt dc := hr.g1 (by rw [hG1]; rfl)
    have ht' : RTape G1a G3 G27 z b := ht.g1 (by rw [hG1, gI_g, if_neg (by omega)]) rfl (fun _ => rfl)
    have hv := hr'.2.1
    obtain ⟨hp, hc, hm, hb, hmk, hg, hx, hs, hwt, hn⟩ := h.day (d' := d + 1) (by omega)
    -- the sacks that come
    obtain ⟨G11b, G13b, G32b, G35b, Lb, b1, b2, b3, b4, b5, b6, b7, b8⟩ := unp_both (F := F) hk hc hm hb hd1 g23 hF
    have hLb : RLet G3 G7 G9 G10 G13b G14 G15 G25 G32b G33 G34 gn cn (d + 1) n pn ln sn tp tl Ln P Lb X := ⟨hp, b4, b5, b6, hmk, hg, hx.fr b8.1 b8.2, hs.kp b7, hwt.kp b7, hn⟩
    -- the reading
    obtain ⟨G3c, G5c, G9c, G12c, G13c, G25c, G30c, G32c, G36c, Pc, Lc, Xc, c1, c2, c3, c4, c5, c6, c7⟩ := reads_both (F := F) (G24 := G24) (G30 := G30) (G34 := G34) (G35 := G35b) (G37 := G37) (G38 := G38) hLb hf hr' hh hnm hlk hd1 g23 hF
    -- the turn
    obtain ⟨G9e, G13e, G16e, G17e, G25e, G32e, G38e, Pe, Le, e1, e2, e3, e4⟩ := turn_both (F := F) (G17 := G17) (G38 := G38) c3 hf hw hd1 g23 hF
    obtain ⟨hp2, hc2, hm2, hb2, hmk2, hg2, hx2, hs2, hwt2, -⟩ := e3
    -- letters that come
    obtain ⟨G9f, G13f, G32f, Pf, Lf, f1, f2, f3, f4, f5, f6, f7, f8, f9⟩ := bring_both (F := F) hf hp2 hc2 hm2 hb2 hs2 hwt2 hd1 g23 hF
    -- sacks that go
    obtain ⟨G11g, G13g, G32g, G35g, sng, Lg, k1, k2, k3, k4, k5, k6, k7, k8, k9⟩ := send_both (F := F) f4 f5 f6 b3 hnm f7 f8 hd1 g23 hF
    -- lags
    obtain ⟨G15h, G34h, l1, l2, l3⟩ := lag_both (F := F) (G23 := G23a) (G24 := G24) (G25 := G25e) (G26 := G26) (G29 := G29) (G30 := G30c) (G33 := G33) (G35 := G35g) (G36 := G36c) (G37 := G37) (G38 := G38e) k4 k5 k6 hg2 hF
    have ec : f_X11_day F G1 G2 G3 G4 G5 G6 G9 G10 G11 G12 G13 G14 G15 G16 G17 = some (iI ((d + 1 : Nat) : Int), G1a, G3c, G5c, G9f, G11g, G12c, G13g, G15h, G16e, G17e) := by
      unfold f_X11_day
      rw [h1, if_p (by rw [ol, iI_lt (by omega) (by omega) (by omega) (by omega)]; omega), ee, bn_eq, ← hG1, g1, b1, ob_s, hv, om_s]
      dsimp only
      rw [c1, ob_s]
      dsimp only
      rw [e1, ob_s]
      dsimp only
      rw [f1, ob_s]
      dsimp only
      rw [k1, ob_s]
      dsimp only
      rw [l1, ob_s]
    have em : f_X12_day F G23 G24 G25 G26 G29 G30 G32 G33 G34 G35 G36 G37 G38 = some (iI ((d + 1 : Nat) : Int), G23a, G25e, G30c, G32g, G34h, G35g, G36c, G38e) := by
      unfold f_X12_day
      rw [h23, if_n (by rw [ol, iI_eq (by omega) (by omega) (by omega) (by omega)]; omega), ee, bn_eq, ← hG23, b2, ob_s]
      dsimp only
      rw [c2]
      unfold dayB
      rw [e2, ob_s]
      dsimp only
      rw [f2, ob_s, k2, ob_s]
      dsimp only
      have l2 : f_X12_day_l75 F F G23a G24 G25e G26 G29 G30c G32g G33 G34 G35g G36c G37 G38e 0 = _ := l2
      rw [l2, g23]
    rw [ec, em]
    refine ⟨rfl, d + 1, sng, Pf, Lg, Xc, by omega, hd1, g1, g23, ⟨f3, k4, k5, k6, hmk2, l3, (hx2.fr f9.1 f9.2).fr k9.1 k9.2, k7, k8, hn⟩, c4, c5, k3, e4, hr', ht'.g1 rfl c6 (fun k => c7 1 k (by omega))⟩
end PR
