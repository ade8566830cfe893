/-! what grows -/
section PR
variable {F : Nat} {G1 G2 G3 G4 G5 G6 G7 G8 G9 G10 G11 G12 G13 G14 G15 G16 G17 G18 G19 G20 G22 G23 G24 G25 G26 G27 G29 G30 G31 G32 G33 G34 G35 G36 G37 G38 G39 G40 G41 G42 G44 : Grp} {vn gn cn d n pn ln tn sn vn' gn' cn' d' n' pn' : Nat} {tp tl Ln tp' : Nat → Nat} {P L T P' : Nat → Nat → Int} {X : Nat → Nat → Nat}
theorem RPair.gc (h : RPair G7 G9 G25 gn cn d n pn tp P) (hg : gn ≤ gn') (hc : cn ≤ cn') (g16 : gn' ≤ 16) (c16 : cn' ≤ 16) : RPair G7 G9 G25 gn' cn' d n pn tp P := by
  obtain ⟨h1, h2, h3, h4, h5, h6, h7, h8, h9, h10⟩ := h
  refine ⟨h1, h2, h3, h4, fun i hi => ?_, h6, h7, h8, g16, c16⟩
  obtain ⟨a1, a2, a3, a4⟩ := h5 i hi
  exact ⟨a1, by omega, by omega, a4⟩
theorem RLet.gc (h : RLet G3 G7 G9 G10 G13 G14 G15 G25 G32 G33 G34 gn cn d n pn ln sn tp tl Ln P L X) (hg : gn ≤ gn') (hc : cn ≤ cn') (g16 : gn' ≤ 16) (c16 : cn' ≤ 16) : RLet G3 G7 G9 G10 G13 G14 G15 G25 G32 G33 G34 gn' cn' d n pn ln sn tp tl Ln P L X := ⟨h.1.gc hg hc g16 c16, h.2⟩
theorem RTell.gc (h : RTell G8 G41 cn d tn T) (hc : cn ≤ cn') (c16 : cn' ≤ 16) (hd : d ≤ d') : RTell G8 G41 cn' d' tn T := by
  obtain ⟨h1, h2, h3, h4, h5, h6⟩ := h
  refine ⟨h1, h2, h3, h4, fun i hi => ?_, c16⟩
  obtain ⟨a1, a2, a3⟩ := h5 i hi
  exact ⟨by omega, by omega, a3⟩
theorem RCoin.gc (h : RCoin G18 G39 vn cn) (hv : vn ≤ vn') (hc : cn ≤ cn') : RCoin G18 G39 vn' cn' := by
  obtain ⟨h1, h2, h3, h4, h5, h6, h7⟩ := h
  exact ⟨h1, h2, h3, h4, fun v a b => h5 v a (by omega), h6, fun c a b => h7 c a (by omega)⟩
theorem RProj.gc {jn bl : Nat} {C : Nat → Nat → Int} (h : RProj G19 G40 vn jn bl C) (hv : vn ≤ vn') (v6 : vn' ≤ 6) : RProj G19 G40 vn' jn bl C := by
  obtain ⟨h1, h2, h3, h4, h5, h6, h7, h8, h9⟩ := h
  refine ⟨h1, h2, h3, h4, h5, h6, h7, fun i hi => ?_, v6⟩
  obtain ⟨a1, a2⟩ := h8 i hi
  exact ⟨by omega, a2⟩
theorem LB.mono (h : LB pn d ln L) (hp : pn ≤ pn') (hd : d ≤ d') : LB pn' d' ln L := by
  refine ⟨h.1, fun i hi => ?_⟩
  obtain ⟨p1, p2, p3, p4, p5, p6⟩ := h.2 i hi
  exact ⟨by omega, p2, p3, p4, by omega, p6⟩
theorem RSil.day (h : RSil pn d ln P L) (hd : d ≤ d') : RSil pn d' ln P L := fun p hp => by
  obtain ⟨a1, a2, a3⟩ := h p hp
  exact ⟨a1, by omega, a3⟩
theorem RLet.day (h : RLet G3 G7 G9 G10 G13 G14 G15 G25 G32 G33 G34 gn cn d n pn ln sn tp tl Ln P L X) (hd : d ≤ d') : RLet G3 G7 G9 G10 G13 G14 G15 G25 G32 G33 G34 gn cn d' n pn ln sn tp tl Ln P L X := by
  obtain ⟨hp, hc, hm, hb, hk, hg, hx, hs, hwt, hn⟩ := h
  exact ⟨hp.mono hd (Nat.le_refl _), hc, hm, hb.mono (Nat.le_refl _) hd, hk, hg, hx, hs.day hd, hwt, hn⟩
theorem lcs_no {p : Nat} {fr : Int} : ∀ k, (∀ i, i < k → ¬ L i 0 = (p : Int)) → lcs L p fr k = fr := by
  intro k
  induction k with
  | zero => intro _; rfl
  | succ k ih =>
    intro h
    rw [lcs_s, if_neg fun z => h k (by omega) z.1]
    exact ih fun i hi => h i (by omega)
theorem RLet.ext (h : RLet G3 G7 G9 G10 G13 G14 G15 G25 G32 G33 G34 gn cn d n pn ln sn tp tl Ln P L X) {G7' G9' G25' : Grp} (hp' : RPair G7' G9' G25' gn cn d n' pn' tp' P') (hn' : n ≤ n') (he : PExt pn tp P pn' tp' P') : RLet G3 G7' G9' G10 G13 G14 G15 G25' G32 G33 G34 gn cn d n' pn' ln sn tp' tl Ln P' L X := by
  obtain ⟨hp, hc, hm, hb, hk, hg, hx, hs, hwt, hn⟩ := h
  obtain ⟨e1, e2, e3⟩ := he
  have hc' : LC G10 G13 n' ln tp' tl L := by
    obtain ⟨c1, c2, c3, c4⟩ := hc.mono hn'
    refine ⟨c1, fun i hi => ?_, c3, c4⟩
    obtain ⟨a1, a2, a3⟩ := c2 i hi
    have b := (hb.2 i hi).1
    refine ⟨a1, ?_, a3⟩
    rw [(e2 (L i 0).toNat (by omega)).1]
    exact a2
  refine ⟨hp', hc', hm, hb.mono e1 (Nat.le_refl _), hk, hg.mono hn', hx, fun p hpp => ?_, hwt, by omega⟩
  by_cases c : p < pn
  · obtain ⟨a1, a2, a3⟩ := hs p c
    rw [(e2 p c).2 6 (by omega), (e2 p c).2 8 (by omega), (e2 p c).2 3 (by omega)]
    exact ⟨a1, a2, a3⟩
  · obtain ⟨a1, a2⟩ := e3 p (by omega) hpp
    have nl : ∀ i, i < ln → ¬ L i 0 = (p : Int) := fun i hi => by
      have b := (hb.2 i hi).1
      omega
    have c0 : cnt (fun i => L i 0 = (p : Int)) ln = 0 := by
      have : ∀ k, k ≤ ln → cnt (fun i => L i 0 = (p : Int)) k = 0 := by
        intro k
        induction k with
        | zero => intro _; rfl
        | succ k ih =>
          intro hk
          rw [cnt_f (p := fun i => L i 0 = (p : Int)) (nl k (by omega))]
          exact ih (by omega)
      exact this ln (Nat.le_refl _)
    rw [a1, a2, c0, lcs_no ln nl, if_pos rfl]
    exact ⟨rfl, by omega, rfl⟩
end PR
