noncomputable def f_X9_allowKnown_b63 (F : Nat) (k3 : Grp → Grp → Grp → Grp → Grp → Int32 → Int32 → Int32 → Option (Grp)) (G6 : Grp) (G9 : Grp) (G13 : Grp) (G16 : Grp) (G17 : Grp) (v1 : Int32) (v2 : Int32) (v4 : Int32) (s1 : Int32) (s2 : Int32) (s3 : Int32) : Option (Grp) :=
  ob (f_X0_allow F G17 65 s1 s2 s3) (fun q_63 => bn (v4 + 1) (fun v4_66 => k3 G6 G9 G13 G16 q_63 v1 v2 v4_66))
noncomputable def f_X9_allowKnown_l3b (F : Nat)  (k3 : Grp → Grp → Grp → Grp → Grp → Int32 → Int32 → Int32 → Option (Grp)) (G6 : Grp) (G9 : Grp) (G13 : Grp) (G16 : Grp) (G17 : Grp) (v1 : Int32) (v2 : Int32) (v4 : Int32) : Option (Grp) :=
  if v2 ≤ v4 then some G17 else ck v1 6 (ck v4 6 (om (G16.2.2 64 v4.toNatClampNeg) (none) (fun t_22 => ob (f_X3_tonguesBit F G6 G9 G13 t_22) (fun q_23 => if (lg_cmp (((G16.2.1 61 v1.toNatClampNeg) >>> (q_23.toInt64 &&& 63)) &&& 1) 0) = 0 then bn (v4 + 1) (fun v4_66 => k3 G6 G9 G13 G16 G17 v1 v2 v4_66) else ck v4 6 (om (G16.2.2 64 v4.toNatClampNeg) (none) (fun t_47 => om (G13.2.2 t_47 0) (none) (fun t_48 => if (G9.1 t_48 5) = v1 then f_X9_allowKnown_b63 F k3 G6 G9 G13 G16 G17 v1 v2 v4 v4 v1 1 else f_X9_allowKnown_b63 F k3 G6 G9 G13 G16 G17 v1 v2 v4 v4 v1 0)))))))
noncomputable def f_X9_allowKnown_l3 (F : Nat)  (fu : Nat) : Grp → Grp → Grp → Grp → Grp → Int32 → Int32 → Int32 → Option (Grp) := Nat.rec (motive := fun _ => Grp → Grp → Grp → Grp → Grp → Int32 → Int32 → Int32 → Option (Grp)) (fun _ _ _ _ _ _ _ _ => none) (fun _ ih => f_X9_allowKnown_l3b F  ih) fu
noncomputable def f_X9_allowKnown (F : Nat) (G6 : Grp) (G9 : Grp) (G13 : Grp) (G16 : Grp) (G17 : Grp) (v1 : Int32) (v2 : Int32) : Option (Grp) :=
  f_X9_allowKnown_l3 F  F G6 G9 G13 G16 G17 v1 v2 0
def RM_X9_allowKnown : Room := { frames := 2, cells := 0, slots := 0, locals := 63 }
abbrev W_X9_allowKnown : List Nat := [17]
abbrev B_X9_allowKnown (HB : Heap) (D : va_G) (y : Nat → ClassId) (n : Nat) (κ : Nat → Nat) (σ0 : St) (q : Grp) : Heap → Prop := fun H => ∃ σ : St, IV HB D y n n κ σ [] H ∧ σ 17 = q ∧ ∀ j, j ∉ W_X9_allowKnown → σ j = σ0 j
set_option maxRecDepth 100000 in
set_option maxHeartbeats 4000000 in
theorem c_X9_allowKnown (l : Launch) (HB : Heap) (D : va_G) (y : Nat → ClassId) (F n : Nat) (κ : Nat → Nat) (σ0 : St) (hN : N0 ≤ n) (v1 : Int32)  (v2 : Int32)  (G6 : Grp) (e6 : σ0 6 = G6) (G9 : Grp) (e9 : σ0 9 = G9) (G13 : Grp) (e13 : σ0 13 = G13) (G16 : Grp) (e16 : σ0 16 = G16) (G17 : Grp) (e17 : σ0 17 = G17) (q : Grp) (h : f_X9_allowKnown F G6 G9 G13 G16 G17 v1 v2 = some q) : MT l HB D y yX9_allowKnown cX9_allowKnown 5 none RM_X9_allowKnown [.ref (HB.size + 60), .int v1, .int v2, .ref (HB.size + 32)] (IV HB D y n n κ σ0 []) none (B_X9_allowKnown HB D y n κ σ0 q) := by
  refine Met.ofW (cc := cX9_allowKnown) (maxL := 5) (ret := none) (by decide) rfl ?_
  intro p e s m args below meth c s₁ BL hml hv
  obtain ⟨rfl, hI, hKK⟩ := hv
  have hx := BL.exec
  have hb := BL.bytes
  have hr := BL.returns
  have hts : ∀ w ∈ gtb, w.before _ s = true := fun w hw => atoms_spec BL.pre w (List.mem_cons_of_mem _ hw)
  have hml : c.maxLocals = 5 := hml
  have hown : s.vm.findClass RX9 = some m.cls := findClass_of_methodNamed BL.named
  have hlocks := BL.notSynchronized
  have hk0 := hI.1.2.2.2.2
  have hl := lv_entry ([.ref (HB.size + 60), .int v1, .int v2, .ref (HB.size + 32)]) (n := 5) (Nat.le_of_ble_eq_true rfl)
  rw [lg_entry_eq]
  generalize (lg_sl ([.ref (HB.size + 60), .int v1, .int v2, .ref (HB.size + 32)]) ++ List.replicate (5 - (lg_sl ([.ref (HB.size + 60), .int v1, .int v2, .ref (HB.size + 32)])).length) Slot.unset).toArray = ls at hl ⊢
  have hl : lv_has ls 5 [(0, .ref (HB.size + 60)), (1, .int v1), (2, .int v2), (3, .ref (HB.size + 32))] := hl
  generalize hargs : ([.ref (HB.size + 60), .int v1, .int v2, .ref (HB.size + 32)] : List Value).toArray = args at *
  have b63 : ∀ (k3 : Grp → Grp → Grp → Grp → Grp → Int32 → Int32 → Int32 → Option (Grp)) (hk3 : ∀ (σ : St) (H : Heap) (locs : List Loc) (ls : Array Slot) (G6 : Grp) (G9 : Grp) (G13 : Grp) (G16 : Grp) (G17 : Grp) (v1 : Int32) (v2 : Int32) (v4 : Int32) , IV HB D y n n κ σ locs H → σ 6 = G6 → σ 9 = G9 → σ 13 = G13 → σ 16 = G16 → σ 17 = G17 → (∀ j, j ∉ W_X9_allowKnown → σ j = σ0 j) → lv_has ls 5 [(0, .ref (HB.size + 60)), (1, .int v1), (2, .int v2), (3, .ref (HB.size + 32)), (4, .int v4)] → k3 G6 G9 G13 G16 G17 v1 v2 v4 = some q → WX RM_X9_allowKnown p l e s m args below meth c HB none (B_X9_allowKnown HB D y n κ σ0 q) H locs (F0 m 3 ls [])) (σ : St) (H : Heap) (locs : List Loc) (ls : Array Slot) (G6 : Grp) (G9 : Grp) (G13 : Grp) (G16 : Grp) (G17 : Grp) (v1 : Int32) (v2 : Int32) (v4 : Int32) (s1 : Int32) (s2 : Int32) (s3 : Int32) , IV HB D y n n κ σ locs H → σ 6 = G6 → σ 9 = G9 → σ 13 = G13 → σ 16 = G16 → σ 17 = G17 → (∀ j, j ∉ W_X9_allowKnown → σ j = σ0 j) → lv_has ls 5 [(0, .ref (HB.size + 60)), (1, .int v1), (2, .int v2), (3, .ref (HB.size + 32)), (4, .int v4)] → f_X9_allowKnown_b63 F k3 G6 G9 G13 G16 G17 v1 v2 v4 s1 s2 s3 = some q → WX RM_X9_allowKnown p l e s m args below meth c HB none (B_X9_allowKnown HB D y n κ σ0 q) H locs (F0 m 63 ls [.int s3, .int s2, .int s1, .ref (HB.size + 65)]) := by
    intro k3 hk3 σ H locs ls G6 G9 G13 G16 G17 v1 v2 v4 s1 s2 s3 hI e6 e9 e13 e16 e17 fr hl h
    unfold f_X9_allowKnown_b63 at h
    obtain ⟨q_63, hq_63, h⟩ := ob_e h
    refine r_callV (As := [.int s1, .int s2, .int s3]) (rest := []) hx hb hml hts hown (c_X0_allow l HB D y F n κ σ hN 65 (lc65 hN) (kc65 hk0) s1 s2 s3 G17 e17 q_63 hq_63) cal_X0_allow im_X0_allow se_X0_allow lm_X9_80 ⟨Nat.le_of_ble_eq_true rfl, Nat.le_of_ble_eq_true rfl⟩ hI.nil hKK (r_recv hKK hI (hE0 HB.size y) rfl (lc65 hN) (kc65 hk0)) rfl hl.1 hI.2.2 rfl (Nat.le_of_ble_eq_true rfl) dX9_allowKnown_63 ⟨Nat.le_of_ble_eq_true rfl, Nat.le_of_ble_eq_true rfl⟩ rfl rfl rfl (fun H locs hB hlo => ?_)
    obtain ⟨σ, hB, en17, ho⟩ := hB
    have hI := hB.re hlo
    have e17 := en17
    have e6 := (ho 6 (ni rfl)).trans e6
    have e9 := (ho 9 (ni rfl)).trans e9
    have e13 := (ho 13 (ni rfl)).trans e13
    have e16 := (ho 16 (ni rfl)).trans e16
    have fr := frc fr ho (by decide)
    obtain ⟨v4_66, qq, h⟩ := bn_e h
    refine lv_iinc (v := v4_66) (lv' := [(4, .int v4_66), (0, .ref (HB.size + 60)), (1, .int v1), (2, .int v2), (3, .ref (HB.size + 32))]) hx hb dX9_allowKnown_66 hl (k := 4) rfl (by rw [qq]; rfl) (by decide) rfl (fun ls hl => ?_)
    refine lv_goto (tgt := 3) hx hb dX9_allowKnown_69 (by decide) ?_
    exact hk3 σ H locs ls G6 G9 G13 G16 q_63 v1 v2 v4_66  hI e6 e9 e13 e16 e17 fr (lv_sub hl [1, 2, 3, 4, 0] rfl) h
  have b3 : ∀ (fu : Nat) (σ : St) (H : Heap) (locs : List Loc) (ls : Array Slot) (G6 : Grp) (G9 : Grp) (G13 : Grp) (G16 : Grp) (G17 : Grp) (v1 : Int32) (v2 : Int32) (v4 : Int32) , IV HB D y n n κ σ locs H → σ 6 = G6 → σ 9 = G9 → σ 13 = G13 → σ 16 = G16 → σ 17 = G17 → (∀ j, j ∉ W_X9_allowKnown → σ j = σ0 j) → lv_has ls 5 [(0, .ref (HB.size + 60)), (1, .int v1), (2, .int v2), (3, .ref (HB.size + 32)), (4, .int v4)] → f_X9_allowKnown_l3 F  fu G6 G9 G13 G16 G17 v1 v2 v4 = some q → WX RM_X9_allowKnown p l e s m args below meth c HB none (B_X9_allowKnown HB D y n κ σ0 q) H locs (F0 m 3 ls []) := by
    intro  fu
    induction fu with
    | zero =>
      intro σ H locs ls G6 G9 G13 G16 G17 v1 v2 v4 hI e6 e9 e13 e16 e17 fr hl h
      exact absurd h (by intro h; cases h)
    | succ fu hk3 =>
      intro σ H locs ls G6 G9 G13 G16 G17 v1 v2 v4 hI e6 e9 e13 e16 e17 fr hl h
      have h : f_X9_allowKnown_l3b F  (f_X9_allowKnown_l3 F  fu) G6 G9 G13 G16 G17 v1 v2 v4 = some q := h
      generalize f_X9_allowKnown_l3 F  fu = k3 at h hk3
      unfold f_X9_allowKnown_l3b at h
      refine lv_iload hx hb dX9_allowKnown_3 (lv_at hl 4 rfl) ?_
      refine lv_iload_n hx hb dX9_allowKnown_5 rfl (lv_at hl 2 rfl) ?_
      refine lv_icmp_ge (tgt := 72) hx hb dX9_allowKnown_6 (by decide) (fun hc => ?_) (fun hc => ?_)
      · replace h := ite_t hc h
        have hq := Option.some.inj h
        exact W.vret hx hb hr (fun t ht hW => qc_mk (rfl) (by rw [ht]; exact ⟨σ, hI.nil, e17.trans (congrArg (fun z => z) hq), fr⟩)) hI.2.2 dX9_allowKnown_72 hlocks
      · replace h := ite_f hc h
        refine lv_aload_n hx hb dX9_allowKnown_9 rfl (lv_at hl 0 rfl) ?_
        refine gf_X9_9 hx hb hts hown hKK hI hN dX9_allowKnown_10 ?_
        refine lv_iload_n hx hb dX9_allowKnown_13 rfl (lv_at hl 1 rfl) ?_
        obtain ⟨hin_, h⟩ := ck_e h
        refine la_29 hx hb hKK hI e16 (lc61 hN) (kc61 hk0) hin_ dX9_allowKnown_14 ?_
        refine lv_aload_n hx hb dX9_allowKnown_15 rfl (lv_at hl 3 rfl) ?_
        refine lv_aload_n hx hb dX9_allowKnown_16 rfl (lv_at hl 0 rfl) ?_
        refine gf_X9_24 hx hb hts hown hKK hI hN dX9_allowKnown_17 ?_
        refine lv_iload hx hb dX9_allowKnown_20 (lv_at hl 4 rfl) ?_
        obtain ⟨hin_, h⟩ := ck_e h
        refine la_31 hx hb hKK hI e16 (lc64 hN) (kc64 hk0) hin_ dX9_allowKnown_22 ?_
        rcases om_e h with ⟨eo, h⟩ | ⟨t_22, eo, h⟩
        · cases h
        · refine topr eo ?_
          obtain ⟨ha_22, hk_22⟩ := tarF hI (lc64 hN) (kc64 hk0) 0 rfl e16 eo
          obtain ⟨q_23, hq_23, h⟩ := ob_e h
          refine r_callV (As := [.ref (HB.size + t_22)]) (rest := [.long (G16.2.1 61 v1.toNatClampNeg)]) hx hb hml hts hown (c_X3_tonguesBit l HB D y F n κ σ hN t_22 ha_22 hk_22 G6 e6 G9 e9 G13 e13 q_23 hq_23) cal_X3_tonguesBit im_X3_tonguesBit se_X3_tonguesBit lm_X9_74 ⟨Nat.le_of_ble_eq_true rfl, Nat.le_of_ble_eq_true rfl⟩ hI.nil hKK (r_recv hKK hI (hE3 HB.size y) rfl (lc32 hN) (kc32 hk0)) rfl hl.1 hI.2.2 rfl (Nat.le_of_ble_eq_true rfl) dX9_allowKnown_23 ⟨Nat.le_of_ble_eq_true rfl, Nat.le_of_ble_eq_true rfl⟩ rfl rfl rfl (fun H locs hB hlo => ?_)
          have hI := hB.re hlo
          refine lv_lshr hx hb dX9_allowKnown_26 rfl ?_
          refine lv_lconst (v := 1) hx hb dX9_allowKnown_27 rfl ?_
          refine lv_land hx hb dX9_allowKnown_28 ?_
          refine lv_lconst (v := 0) hx hb dX9_allowKnown_29 rfl ?_
          refine W.lcmp hx hb dX9_allowKnown_30 ?_
          refine lv_if_eq (tgt := 66) hx hb dX9_allowKnown_31 (by decide) (fun hc => ?_) (fun hc => ?_)
          · replace h := ite_t hc h
            obtain ⟨v4_66, qq, h⟩ := bn_e h
            refine lv_iinc (v := v4_66) (lv' := [(4, .int v4_66), (0, .ref (HB.size + 60)), (1, .int v1), (2, .int v2), (3, .ref (HB.size + 32))]) hx hb dX9_allowKnown_66 hl (k := 4) rfl (by rw [qq]; rfl) (by decide) rfl (fun ls hl => ?_)
            refine lv_goto (tgt := 3) hx hb dX9_allowKnown_69 (by decide) ?_
            exact hk3 σ H locs ls G6 G9 G13 G16 G17 v1 v2 v4_66  hI e6 e9 e13 e16 e17 fr (lv_sub hl [1, 2, 3, 4, 0] rfl) h
          · replace h := ite_f hc h
            refine lv_aload_n hx hb dX9_allowKnown_34 rfl (lv_at hl 0 rfl) ?_
            refine gf_X9_31 hx hb hts hown hKK hI hN dX9_allowKnown_35 ?_
            refine lv_iload hx hb dX9_allowKnown_38 (lv_at hl 4 rfl) ?_
            refine lv_iload_n hx hb dX9_allowKnown_40 rfl (lv_at hl 1 rfl) ?_
            refine lv_aload_n hx hb dX9_allowKnown_41 rfl (lv_at hl 0 rfl) ?_
            refine gf_X9_24 hx hb hts hown hKK hI hN dX9_allowKnown_42 ?_
            refine lv_iload hx hb dX9_allowKnown_45 (lv_at hl 4 rfl) ?_
            obtain ⟨hin_, h⟩ := ck_e h
            refine la_31 hx hb hKK hI e16 (lc64 hN) (kc64 hk0) hin_ dX9_allowKnown_47 ?_
            rcases om_e h with ⟨eo, h⟩ | ⟨t_47, eo, h⟩
            · cases h
            · refine topr eo ?_
              obtain ⟨ha_47, hk_47⟩ := tarF hI (lc64 hN) (kc64 hk0) 0 rfl e16 eo
              refine gt_X9_63 hx hb hts hown hKK hI e13 ha_47 hk_47 dX9_allowKnown_48 ?_
              rcases om_e h with ⟨eo, h⟩ | ⟨t_48, eo, h⟩
              · cases h
              · refine topr eo ?_
                obtain ⟨ha_48, hk_48⟩ := typF hI ha_47 hk_47 0 rfl e13 eo
                refine gt_X9_67 hx hb hts hown hKK hI e9 ha_48 hk_48 dX9_allowKnown_51 ?_
                refine lv_iload_n hx hb dX9_allowKnown_54 rfl (lv_at hl 1 rfl) ?_
                refine lv_icmp_ne (tgt := 62) hx hb dX9_allowKnown_55 (by decide) (fun hc => ?_) (fun hc => ?_)
                · replace h := ite_f hc h
                  refine lv_iconst (v := 0) hx hb dX9_allowKnown_62 (by decide) ?_
                  exact b63 k3 hk3 σ H locs ls G6 G9 G13 G16 G17 v1 v2 v4 v4 v1 0  hI e6 e9 e13 e16 e17 fr (lv_sub hl [0, 1, 2, 3, 4] rfl) h
                · replace h := ite_t hc h
                  refine lv_iconst (v := 1) hx hb dX9_allowKnown_58 (by decide) ?_
                  refine lv_goto (tgt := 63) hx hb dX9_allowKnown_59 (by decide) ?_
                  exact b63 k3 hk3 σ H locs ls G6 G9 G13 G16 G17 v1 v2 v4 v4 v1 1  hI e6 e9 e13 e16 e17 fr (lv_sub hl [0, 1, 2, 3, 4] rfl) h
  obtain ⟨σ, hI, e6, e9, e13, e16, e17, fr⟩ : ∃ σ : St, IV HB D y n n κ σ [] s.heap ∧ σ 6 = G6 ∧ σ 9 = G9 ∧ σ 13 = G13 ∧ σ 16 = G16 ∧ σ 17 = G17 ∧ ∀ j, j ∉ W_X9_allowKnown → σ j = σ0 j := ⟨σ0, hI, e6, e9, e13, e16, e17, fun _ _ => rfl⟩
  show WX RM_X9_allowKnown p l e s m args below meth c HB none (B_X9_allowKnown HB D y n κ σ0 q) s.heap [] (F0 m 0 ls [])
  generalize s.heap = H at hI ⊢
  unfold f_X9_allowKnown at h
  obtain ⟨locs, hlocs⟩ : ∃ x : List Loc, x = [] := ⟨_, rfl⟩
  rw [← hlocs] at hI ⊢
  refine lv_iconst (v := 0) hx hb dX9_allowKnown_0 (by decide) ?_
  refine lv_istore (lv' := [(4, .int 0), (0, .ref (HB.size + 60)), (1, .int v1), (2, .int v2), (3, .ref (HB.size + 32))]) hx hb dX9_allowKnown_1 hl (by decide) rfl (fun ls hl => ?_)
  exact b3  F σ H locs ls G6 G9 G13 G16 G17 v1 v2 0  hI e6 e9 e13 e16 e17 fr (lv_sub hl [1, 2, 3, 4, 0] rfl) h
noncomputable def f_X9_lineUp_l9b (F : Nat)  (k9 : Grp → Grp → Grp → Int32 → Option Nat → Option (Int32 × Grp)) (G10 : Grp) (G13 : Grp) (G16 : Grp) (v2 : Int32) (v3 : Option Nat) : Option (Int32 × Grp) :=
  om v3 (some (v2, G16)) (fun t_9 => if 6 ≤ v2 then some (v2, G16) else ck v2 6 (bn (gR G16 64 v2.toNatClampNeg (some t_9)) (fun G16_25 => bn (v2 + 1) (fun v2_26 => ob (f_X6_firstIn F G10 G13 4 (some t_9)) (fun q_32 => om q_32 (k9 G10 G13 G16_25 v2_26 none) (fun t_32 => k9 G10 G13 G16_25 v2_26 (some t_32)))))))
noncomputable def f_X9_lineUp_l9 (F : Nat)  (fu : Nat) : Grp → Grp → Grp → Int32 → Option Nat → Option (Int32 × Grp) := Nat.rec (motive := fun _ => Grp → Grp → Grp → Int32 → Option Nat → Option (Int32 × Grp)) (fun _ _ _ _ _ => none) (fun _ ih => f_X9_lineUp_l9b F  ih) fu
noncomputable def f_X9_lineUp (F : Nat) (G10 : Grp) (G13 : Grp) (G16 : Grp)  : Option (Int32 × Grp) :=
  ob (f_X6_firstIn F G10 G13 4 none) (fun q_5 => om q_5 (f_X9_lineUp_l9 F  F G10 G13 G16 0 none) (fun t_5 => f_X9_lineUp_l9 F  F G10 G13 G16 0 (some t_5)))
def RM_X9_lineUp : Room := { frames := 1, cells := 0, slots := 0, locals := 27 }
abbrev W_X9_lineUp : List Nat := [16]
abbrev B_X9_lineUp (HB : Heap) (D : va_G) (y : Nat → ClassId) (n : Nat) (κ : Nat → Nat) (σ0 : St) (q : Int32 × Grp) : Heap → Prop := fun H => ∃ σ : St, IV HB D y n n κ σ [] H ∧ σ 16 = q.2 ∧ ∀ j, j ∉ W_X9_lineUp → σ j = σ0 j
set_option maxRecDepth 100000 in
set_option maxHeartbeats 4000000 in
theorem c_X9_lineUp (l : Launch) (HB : Heap) (D : va_G) (y : Nat → ClassId) (F n : Nat) (κ : Nat → Nat) (σ0 : St) (hN : N0 ≤ n)  (G10 : Grp) (e10 : σ0 10 = G10) (G13 : Grp) (e13 : σ0 13 = G13) (G16 : Grp) (e16 : σ0 16 = G16) (q : Int32 × Grp) (h : f_X9_lineUp F G10 G13 G16 = some q) : MT l HB D y yX9_lineUp cX9_lineUp 4 (some .int) RM_X9_lineUp [.ref (HB.size + 60), .ref (HB.size + 44)] (IV HB D y n n κ σ0 []) (some (.int q.1)) (B_X9_lineUp HB D y n κ σ0 q) := by
  refine Met.ofW (cc := cX9_lineUp) (maxL := 4) (ret := (some .int)) (by decide) rfl ?_
  intro p e s m args below meth c s₁ BL hml hv
  obtain ⟨rfl, hI, hKK⟩ := hv
  have hx := BL.exec
  have hb := BL.bytes
  have hr := BL.returns
  have hts : ∀ w ∈ gtb, w.before _ s = true := fun w hw => atoms_spec BL.pre w (List.mem_cons_of_mem _ hw)
  have hml : c.maxLocals = 4 := hml
  have hown : s.vm.findClass RX9 = some m.cls := findClass_of_methodNamed BL.named
  have hlocks := BL.notSynchronized
  have hk0 := hI.1.2.2.2.2
  have hl := lv_entry ([.ref (HB.size + 60), .ref (HB.size + 44)]) (n := 4) (Nat.le_of_ble_eq_true rfl)
  rw [lg_entry_eq]
  generalize (lg_sl ([.ref (HB.size + 60), .ref (HB.size + 44)]) ++ List.replicate (4 - (lg_sl ([.ref (HB.size + 60), .ref (HB.size + 44)])).length) Slot.unset).toArray = ls at hl ⊢
  have hl : lv_has ls 4 [(0, .ref (HB.size + 60)), (1, .ref (HB.size + 44))] := hl
  generalize hargs : ([.ref (HB.size + 60), .ref (HB.size + 44)] : List Value).toArray = args at *
  have b9 : ∀ (fu : Nat) (σ : St) (H : Heap) (locs : List Loc) (ls : Array Slot) (G10 : Grp) (G13 : Grp) (G16 : Grp) (v2 : Int32) (v3 : Option Nat) (hf_v3 : ∀ t : Nat, v3 = some t → t < n ∧ κ t = 4), IV HB D y n n κ σ locs H → σ 10 = G10 → σ 13 = G13 → σ 16 = G16 → (∀ j, j ∉ W_X9_lineUp → σ j = σ0 j) → lv_has ls 4 [(0, .ref (HB.size + 60)), (1, .ref (HB.size + 44)), (2, .int v2), (3, rfv HB.size v3)] → f_X9_lineUp_l9 F  fu G10 G13 G16 v2 v3 = some q → WX RM_X9_lineUp p l e s m args below meth c HB (some (.int q.1)) (B_X9_lineUp HB D y n κ σ0 q) H locs (F0 m 9 ls []) := by
    intro  fu
    induction fu with
    | zero =>
      intro σ H locs ls G10 G13 G16 v2 v3 hf_v3 hI e10 e13 e16 fr hl h
      exact absurd h (by intro h; cases h)
    | succ fu hk9 =>
      intro σ H locs ls G10 G13 G16 v2 v3 hf_v3 hI e10 e13 e16 fr hl h
      have h : f_X9_lineUp_l9b F  (f_X9_lineUp_l9 F  fu) G10 G13 G16 v2 v3 = some q := h
      generalize f_X9_lineUp_l9 F  fu = k9 at h hk9
      unfold f_X9_lineUp_l9b at h
      rcases om_e h with ⟨eo, h8⟩ | ⟨t_9, eo, h8⟩
      · subst eo
        have h := h8
        have hl : lv_has ls 4 [(0, .ref (HB.size + 60)), (1, .ref (HB.size + 44)), (2, .int v2), (3, .null)] := hl
        refine lv_aload_nN hx hb dX9_lineUp_9 rfl (lv_at hl 3 rfl) ?_
        refine lv_ifnullN (tgt := 39) hx hb dX9_lineUp_10 (by decide) ?_
        refine lv_iload_n hx hb dX9_lineUp_39 rfl (lv_at hl 2 rfl) ?_
        have hq := Option.some.inj h
        exact W.iret (v := v2) hx hb hr (fun t ht hW => qc_mk (congrArg (fun z => Outcome.returned (some (Value.int z.1))) hq) (by rw [ht]; exact ⟨σ, hI.nil, e16.trans (congrArg (fun z => z.2) hq), fr⟩)) hI.2.2 dX9_lineUp_40 hlocks
      · obtain ⟨ha_9, hk_9⟩ := hf_v3 _ eo
        subst eo
        have h := h8
        have hl : lv_has ls 4 [(0, .ref (HB.size + 60)), (1, .ref (HB.size + 44)), (2, .int v2), (3, .ref (HB.size + t_9))] := hl
        refine lv_aload_n hx hb dX9_lineUp_9 rfl (lv_at hl 3 rfl) ?_
        refine lv_ifnull hx hb dX9_lineUp_10 ?_
        refine lv_iload_n hx hb dX9_lineUp_13 rfl (lv_at hl 2 rfl) ?_
        refine lv_bipush (v := 6) hx hb dX9_lineUp_14 (by decide) ?_
        refine lv_icmp_ge (tgt := 39) hx hb dX9_lineUp_16 (by decide) (fun hc => ?_) (fun hc => ?_)
        · replace h := ite_t hc h
          refine lv_iload_n hx hb dX9_lineUp_39 rfl (lv_at hl 2 rfl) ?_
          have hq := Option.some.inj h
          exact W.iret (v := v2) hx hb hr (fun t ht hW => qc_mk (congrArg (fun z => Outcome.returned (some (Value.int z.1))) hq) (by rw [ht]; exact ⟨σ, hI.nil, e16.trans (congrArg (fun z => z.2) hq), fr⟩)) hI.2.2 dX9_lineUp_40 hlocks
        · replace h := ite_f hc h
          refine lv_aload_n hx hb dX9_lineUp_19 rfl (lv_at hl 0 rfl) ?_
          refine gf_X9_24 hx hb hts hown hKK hI hN dX9_lineUp_20 ?_
          refine lv_iload_n hx hb dX9_lineUp_23 rfl (lv_at hl 2 rfl) ?_
          refine lv_aload_n hx hb dX9_lineUp_24 rfl (lv_at hl 3 rfl) ?_
          obtain ⟨hin_, h⟩ := ck_e h
          obtain ⟨G16_25, qq, h⟩ := bn_e h
          refine sa_31 hx hb hKK hI e16 (lc64 hN) (kc64 hk0) ha_9 hk_9 hin_ (fun hT => hT.setT (nn rfl) (kc64 hk0) (K := 4) (fun q hq => absurd hq List.not_mem_nil) (by decide) (fun t q => by cases q; exact ⟨ha_9, hk_9⟩)) dX9_lineUp_25 (fun σ H locs hI ew ho => ?_)
          have e16 := ew.trans qq.symm
          have e10 := (ho 10 (nn rfl)).trans e10
          have e13 := (ho 13 (nn rfl)).trans e13
          have fr := frs fr ho (by decide)
          obtain ⟨v2_26, qq, h⟩ := bn_e h
          refine lv_iinc (v := v2_26) (lv' := [(2, .int v2_26), (0, .ref (HB.size + 60)), (1, .ref (HB.size + 44)), (3, .ref (HB.size + t_9))]) hx hb dX9_lineUp_26 hl (k := 2) rfl (by rw [qq]; rfl) (by decide) rfl (fun ls hl => ?_)
          refine lv_aload_n hx hb dX9_lineUp_29 rfl (lv_at hl 2 rfl) ?_
          refine lv_iconst (v := 4) hx hb dX9_lineUp_30 (by decide) ?_
          refine lv_aload_n hx hb dX9_lineUp_31 rfl (lv_at hl 3 rfl) ?_
          obtain ⟨q_32, hq_32, h⟩ := ob_e h
          refine r_callV (As := [.int 4, .ref (HB.size + t_9)]) (rest := []) hx hb hml hts hown (c_X6_firstIn l HB D y F n κ σ hN 4 (some t_9) (fun _ q => by cases q; exact ⟨ha_9, hk_9⟩) G10 e10 G13 e13 q_32 hq_32) cal_X6_firstIn im_X6_firstIn se_X6_firstIn lm_X9_84 ⟨Nat.le_of_ble_eq_true rfl, Nat.le_of_ble_eq_true rfl⟩ hI.nil hKK (r_recv hKK hI (hE6 HB.size y) rfl (lc44 hN) (kc44 hk0)) rfl hl.1 hI.2.2 rfl (Nat.le_of_ble_eq_true rfl) dX9_lineUp_32 ⟨Nat.le_of_ble_eq_true rfl, Nat.le_of_ble_eq_true rfl⟩ rfl rfl rfl (fun H locs hB hlo => ?_)
          obtain ⟨hB, hf_32⟩ := hB
          have hI := hB.re hlo
          rcases om_e h with ⟨eo, h⟩ | ⟨t_32, eo, h⟩
          · refine topn eo ?_
            refine lv_astore_nN (lv' := [(3, .null), (2, .int v2_26), (0, .ref (HB.size + 60)), (1, .ref (HB.size + 44))]) hx hb dX9_lineUp_35 rfl hl (by decide) rfl (fun ls hl => ?_)
            refine lv_goto (tgt := 9) hx hb dX9_lineUp_36 (by decide) ?_
            exact hk9 σ H locs ls G10 G13 G16_25 v2_26 none (fun _ q => by cases q) hI e10 e13 e16 fr (lv_sub hl [2, 3, 1, 0] rfl) h
          · refine topr eo ?_
            obtain ⟨ha_32, hk_32⟩ := hf_32 _ eo
            refine lv_astore_n (lv' := [(3, .ref (HB.size + t_32)), (2, .int v2_26), (0, .ref (HB.size + 60)), (1, .ref (HB.size + 44))]) hx hb dX9_lineUp_35 rfl hl (by decide) rfl (fun ls hl => ?_)
            refine lv_goto (tgt := 9) hx hb dX9_lineUp_36 (by decide) ?_
            exact hk9 σ H locs ls G10 G13 G16_25 v2_26 (some t_32) (fun _ q => by cases q; exact ⟨ha_32, hk_32⟩) hI e10 e13 e16 fr (lv_sub hl [2, 3, 1, 0] rfl) h
  obtain ⟨σ, hI, e10, e13, e16, fr⟩ : ∃ σ : St, IV HB D y n n κ σ [] s.heap ∧ σ 10 = G10 ∧ σ 13 = G13 ∧ σ 16 = G16 ∧ ∀ j, j ∉ W_X9_lineUp → σ j = σ0 j := ⟨σ0, hI, e10, e13, e16, fun _ _ => rfl⟩
  show WX RM_X9_lineUp p l e s m args below meth c HB (some (.int q.1)) (B_X9_lineUp HB D y n κ σ0 q) s.heap [] (F0 m 0 ls [])
  generalize s.heap = H at hI ⊢
  unfold f_X9_lineUp at h
  obtain ⟨locs, hlocs⟩ : ∃ x : List Loc, x = [] := ⟨_, rfl⟩
  rw [← hlocs] at hI ⊢
  refine lv_iconst (v := 0) hx hb dX9_lineUp_0 (by decide) ?_
  refine lv_istore_n (lv' := [(2, .int 0), (0, .ref (HB.size + 60)), (1, .ref (HB.size + 44))]) hx hb dX9_lineUp_1 rfl hl (by decide) rfl (fun ls hl => ?_)
  refine lv_aload_n hx hb dX9_lineUp_2 rfl (lv_at hl 2 rfl) ?_
  refine lv_iconst (v := 4) hx hb dX9_lineUp_3 (by decide) ?_
  refine lv_null hx hb dX9_lineUp_4 ?_
  obtain ⟨q_5, hq_5, h⟩ := ob_e h
  refine r_callV (As := [.int 4, .null]) (rest := []) hx hb hml hts hown (c_X6_firstIn l HB D y F n κ σ hN 4 none (fun _ q => by cases q) G10 e10 G13 e13 q_5 hq_5) cal_X6_firstIn im_X6_firstIn se_X6_firstIn lm_X9_84 ⟨Nat.le_of_ble_eq_true rfl, Nat.le_of_ble_eq_true rfl⟩ hI.nil hKK (r_recv hKK hI (hE6 HB.size y) rfl (lc44 hN) (kc44 hk0)) rfl hl.1 hI.2.2 rfl (Nat.le_of_ble_eq_true rfl) dX9_lineUp_5 ⟨Nat.le_of_ble_eq_true rfl, Nat.le_of_ble_eq_true rfl⟩ rfl rfl rfl (fun H locs hB hlo => ?_)
  obtain ⟨hB, hf_5⟩ := hB
  have hI := hB.re hlo
  rcases om_e h with ⟨eo, h⟩ | ⟨t_5, eo, h⟩
  · refine topn eo ?_
    refine lv_astore_nN (lv' := [(3, .null), (2, .int 0), (0, .ref (HB.size + 60)), (1, .ref (HB.size + 44))]) hx hb dX9_lineUp_8 rfl hl (by decide) rfl (fun ls hl => ?_)
    exact b9  F σ H locs ls G10 G13 G16 0 none (fun _ q => by cases q) hI e10 e13 e16 fr (lv_sub hl [2, 3, 1, 0] rfl) h
  · refine topr eo ?_
    obtain ⟨ha_5, hk_5⟩ := hf_5 _ eo
    refine lv_astore_n (lv' := [(3, .ref (HB.size + t_5)), (2, .int 0), (0, .ref (HB.size + 60)), (1, .ref (HB.size + 44))]) hx hb dX9_lineUp_8 rfl hl (by decide) rfl (fun ls hl => ?_)
    exact b9  F σ H locs ls G10 G13 G16 0 (some t_5) (fun _ q => by cases q; exact ⟨ha_5, hk_5⟩) hI e10 e13 e16 fr (lv_sub hl [2, 3, 1, 0] rfl) h
noncomputable def f_X9_translate_b50 (F : Nat) (k19 : Grp → Grp → Grp → Grp → Grp → Grp → Int32 → Int32 → Int32 → Option (Grp × Grp × Grp × Grp)) (G6 : Grp) (G9 : Grp) (G10 : Grp) (G13 : Grp) (G16 : Grp) (G17 : Grp) (v3 : Int32) (v4 : Int32) (v5 : Int32) (s0 : Int32) : Option (Grp × Grp × Grp × Grp) :=
  if s0 = 0 then bn (v5 + 1) (fun v5_83 => k19 G6 G9 G10 G13 G16 G17 v3 v4 v5_83) else ck v5 6 (ck v5 6 (bn (gI G17 66 v5.toNatClampNeg (G16.1 62 v5.toNatClampNeg)) (fun G17_73 => ob (f_X9_allowKnown F G6 G9 G13 G16 G17_73 v5 v4) (fun q_80 => bn (v5 + 1) (fun v5_83 => k19 G6 G9 G10 G13 G16 q_80 v3 v4 v5_83)))))
noncomputable def f_X9_translate_l99b (F : Nat)  (k99 : Grp → Grp → Grp → Grp → Grp → Grp → Int32 → Int32 → Int32 → Option (Grp × Grp × Grp × Grp)) (G6 : Grp) (G9 : Grp) (G10 : Grp) (G13 : Grp) (G16 : Grp) (G17 : Grp) (v3 : Int32) (v4 : Int32) (v5 : Int32) : Option (Grp × Grp × Grp × Grp) :=
  if v4 ≤ v5 then some (G9, G13, G16, G17) else ck v5 6 (if (G17.1 67 v5.toNatClampNeg) = 6 then bn (v5 + 1) (fun v5_176 => k99 G6 G9 G10 G13 G16 G17 v3 v4 v5_176) else ck v5 6 (om (G16.2.2 64 v5.toNatClampNeg) (ck v5 6 (none)) (fun t_127 => ck v5 6 (bn (gI G13 t_127 11 (G17.1 67 v5.toNatClampNeg)) (fun G13_138 => ck v5 6 (om (G16.2.2 64 v5.toNatClampNeg) (none) (fun t_147 => om (G13_138.2.2 t_147 0) (ck v5 6 (none)) (fun t_148 => ck v5 6 (bn (gI G9 t_148 5 (G17.1 67 v5.toNatClampNeg)) (fun G9_161 => ck v5 6 (om (G16.2.2 64 v5.toNatClampNeg) (none) (fun t_170 => ob (f_X4_move F G13_138 t_170 5 v3) (fun q_173 => bn (v5 + 1) (fun v5_176 => k99 G6 G9_161 G10 q_173 G16 G17 v3 v4 v5_176))))))))))))))
noncomputable def f_X9_translate_l99 (F : Nat)  (fu : Nat) : Grp → Grp → Grp → Grp → Grp → Grp → Int32 → Int32 → Int32 → Option (Grp × Grp × Grp × Grp) := Nat.rec (motive := fun _ => Grp → Grp → Grp → Grp → Grp → Grp → Int32 → Int32 → Int32 → Option (Grp × Grp × Grp × Grp)) (fun _ _ _ _ _ _ _ _ _ => none) (fun _ ih => f_X9_translate_l99b F  ih) fu
noncomputable def f_X9_translate_l19b (F : Nat)  (k19 : Grp → Grp → Grp → Grp → Grp → Grp → Int32 → Int32 → Int32 → Option (Grp × Grp × Grp × Grp)) (G6 : Grp) (G9 : Grp) (G10 : Grp) (G13 : Grp) (G16 : Grp) (G17 : Grp) (v3 : Int32) (v4 : Int32) (v5 : Int32) : Option (Grp × Grp × Grp × Grp) :=
  if (G16.1 60 0) ≤ v5 then ob (f_X0_solve F G17 65) (fun q_93 => f_X9_translate_l99 F  F G6 G9 G10 G13 G16 q_93 v3 v4 0) else ck v5 6 (if (((G16.1 63 v5.toNatClampNeg) >>> ((v3 - v3 / 7 * 7) &&& 31)) &&& 1) = 0 then f_X9_translate_b50 F k19 G6 G9 G10 G13 G16 G17 v3 v4 v5 1 else f_X9_translate_b50 F k19 G6 G9 G10 G13 G16 G17 v3 v4 v5 0)
noncomputable def f_X9_translate_l19 (F : Nat)  (fu : Nat) : Grp → Grp → Grp → Grp → Grp → Grp → Int32 → Int32 → Int32 → Option (Grp × Grp × Grp × Grp) := Nat.rec (motive := fun _ => Grp → Grp → Grp → Grp → Grp → Grp → Int32 → Int32 → Int32 → Option (Grp × Grp × Grp × Grp)) (fun _ _ _ _ _ _ _ _ _ => none) (fun _ ih => f_X9_translate_l19b F  ih) fu
noncomputable def f_X9_translate (F : Nat) (G6 : Grp) (G9 : Grp) (G10 : Grp) (G13 : Grp) (G16 : Grp) (G17 : Grp) (v3 : Int32) : Option (Grp × Grp × Grp × Grp) :=
  ob (f_X9_lineUp F G10 G13 G16) (fun q_2 => bn (q_2.1) (fun v4_5 => ob (f_X0_clear F G17 65 v4_5) (fun q_13 => f_X9_translate_l19 F  F G6 G9 G10 G13 (q_2.2) q_13 v3 v4_5 0)))
def RM_X9_translate : Room := { frames := 11, cells := 0, slots := 0, locals := 390 }
abbrev W_X9_translate : List Nat := [9, 13, 16, 17]
abbrev B_X9_translate (HB : Heap) (D : va_G) (y : Nat → ClassId) (n : Nat) (κ : Nat → Nat) (σ0 : St) (q : Grp × Grp × Grp × Grp) : Heap → Prop := fun H => ∃ σ : St, IV HB D y n n κ σ [] H ∧ σ 9 = q.1 ∧ σ 13 = q.2.1 ∧ σ 16 = q.2.2.1 ∧ σ 17 = q.2.2.2 ∧ ∀ j, j ∉ W_X9_translate → σ j = σ0 j
set_option maxRecDepth 100000 in
set_option maxHeartbeats 4000000 in
theorem c_X9_translate (l : Launch) (HB : Heap) (D : va_G) (y : Nat → ClassId) (F n : Nat) (κ : Nat → Nat) (σ0 : St) (hN : N0 ≤ n) (v3 : Int32)  (G6 : Grp) (e6 : σ0 6 = G6) (G9 : Grp) (e9 : σ0 9 = G9) (G10 : Grp) (e10 : σ0 10 = G10) (G13 : Grp) (e13 : σ0 13 = G13) (G16 : Grp) (e16 : σ0 16 = G16) (G17 : Grp) (e17 : σ0 17 = G17) (q : Grp × Grp × Grp × Grp) (h : f_X9_translate F G6 G9 G10 G13 G16 G17 v3 = some q) : MT l HB D y yX9_translate cX9_translate 7 none RM_X9_translate [.ref (HB.size + 60), .ref (HB.size + 44), .ref (HB.size + 32), .int v3] (IV HB D y n n κ σ0 []) none (B_X9_translate HB D y n κ σ0 q) := by
  refine Met.ofW (cc := cX9_translate) (maxL := 7) (ret := none) (by decide) rfl ?_
  intro p e s m args below meth c s₁ BL hml hv
  obtain ⟨rfl, hI, hKK⟩ := hv
  have hx := BL.exec
  have hb := BL.bytes
  have hr := BL.returns
  have hts : ∀ w ∈ gtb, w.before _ s = true := fun w hw => atoms_spec BL.pre w (List.mem_cons_of_mem _ hw)
  have hml : c.maxLocals = 7 := hml
  have hown : s.vm.findClass RX9 = some m.cls := findClass_of_methodNamed BL.named
  have hlocks := BL.notSynchronized
  have hk0 := hI.1.2.2.2.2
  have hl := lv_entry ([.ref (HB.size + 60), .ref (HB.size + 44), .ref (HB.size + 32), .int v3]) (n := 7) (Nat.le_of_ble_eq_true rfl)
  rw [lg_entry_eq]
  generalize (lg_sl ([.ref (HB.size + 60), .ref (HB.size + 44), .ref (HB.size + 32), .int v3]) ++ List.replicate (7 - (lg_sl ([.ref (HB.size + 60), .ref (HB.size + 44), .ref (HB.size + 32), .int v3])).length) Slot.unset).toArray = ls at hl ⊢
  have hl : lv_has ls 7 [(0, .ref (HB.size + 60)), (1, .ref (HB.size + 44)), (2, .ref (HB.size + 32)), (3, .int v3)] := hl
  generalize hargs : ([.ref (HB.size + 60), .ref (HB.size + 44), .ref (HB.size + 32), .int v3] : List Value).toArray = args at *
  have b50 : ∀ (k19 : Grp → Grp → Grp → Grp → Grp → Grp → Int32 → Int32 → Int32 → Option (Grp × Grp × Grp × Grp)) (hk19 : ∀ (σ : St) (H : Heap) (locs : List Loc) (ls : Array Slot) (G6 : Grp) (G9 : Grp) (G10 : Grp) (G13 : Grp) (G16 : Grp) (G17 : Grp) (v3 : Int32) (v4 : Int32) (v5 : Int32) , IV HB D y n n κ σ locs H → σ 6 = G6 → σ 9 = G9 → σ 10 = G10 → σ 13 = G13 → σ 16 = G16 → σ 17 = G17 → (∀ j, j ∉ W_X9_translate → σ j = σ0 j) → lv_has ls 7 [(0, .ref (HB.size + 60)), (2, .ref (HB.size + 32)), (3, .int v3), (4, .int v4), (5, .int v5)] → k19 G6 G9 G10 G13 G16 G17 v3 v4 v5 = some q → WX RM_X9_translate p l e s m args below meth c HB none (B_X9_translate HB D y n κ σ0 q) H locs (F0 m 19 ls [])) (σ : St) (H : Heap) (locs : List Loc) (ls : Array Slot) (G6 : Grp) (G9 : Grp) (G10 : Grp) (G13 : Grp) (G16 : Grp) (G17 : Grp) (v3 : Int32) (v4 : Int32) (v5 : Int32) (s0 : Int32) , IV HB D y n n κ σ locs H → σ 6 = G6 → σ 9 = G9 → σ 10 = G10 → σ 13 = G13 → σ 16 = G16 → σ 17 = G17 → (∀ j, j ∉ W_X9_translate → σ j = σ0 j) → lv_has ls 7 [(0, .ref (HB.size + 60)), (2, .ref (HB.size + 32)), (3, .int v3), (4, .int v4), (5, .int v5)] → f_X9_translate_b50 F k19 G6 G9 G10 G13 G16 G17 v3 v4 v5 s0 = some q → WX RM_X9_translate p l e s m args below meth c HB none (B_X9_translate HB D y n κ σ0 q) H locs (F0 m 50 ls [.int s0]) := by
    intro k19 hk19 σ H locs ls G6 G9 G10 G13 G16 G17 v3 v4 v5 s0 hI e6 e9 e10 e13 e16 e17 fr hl h
    unfold f_X9_translate_b50 at h
    refine lv_istore (lv' := [(6, .int s0), (0, .ref (HB.size + 60)), (2, .ref (HB.size + 32)), (3, .int v3), (4, .int v4), (5, .int v5)]) hx hb dX9_translate_50 hl (by decide) rfl (fun ls hl => ?_)
    refine lv_iload hx hb dX9_translate_52 (lv_at hl 0 rfl) ?_
    refine lv_if_eq (tgt := 83) hx hb dX9_translate_54 (by decide) (fun hc => ?_) (fun hc => ?_)
    · replace h := ite_t hc h
      obtain ⟨v5_83, qq, h⟩ := bn_e h
      refine lv_iinc (v := v5_83) (lv' := [(5, .int v5_83), (6, .int s0), (0, .ref (HB.size + 60)), (2, .ref (HB.size + 32)), (3, .int v3), (4, .int v4)]) hx hb dX9_translate_83 hl (k := 5) rfl (by rw [qq]; rfl) (by decide) rfl (fun ls hl => ?_)
      refine lv_goto (tgt := 19) hx hb dX9_translate_86 (by decide) ?_
      exact hk19 σ H locs ls G6 G9 G10 G13 G16 G17 v3 v4 v5_83  hI e6 e9 e10 e13 e16 e17 fr (lv_sub hl [2, 3, 4, 5, 0] rfl) h
    · replace h := ite_f hc h
      refine lv_aload_n hx hb dX9_translate_57 rfl (lv_at hl 1 rfl) ?_
      refine gf_X9_31 hx hb hts hown hKK hI hN dX9_translate_58 ?_
      refine gf_X9_47 hx hb hts hown hKK hI (lc65 hN) (kc65 hk0) dX9_translate_61 ?_
      refine lv_iload hx hb dX9_translate_64 (lv_at hl 5 rfl) ?_
      refine lv_aload_n hx hb dX9_translate_66 rfl (lv_at hl 1 rfl) ?_
      refine gf_X9_15 hx hb hts hown hKK hI hN dX9_translate_67 ?_
      refine lv_iload hx hb dX9_translate_70 (lv_at hl 5 rfl) ?_
      obtain ⟨hin_, h⟩ := ck_e h
      refine la_30 hx hb hKK hI e16 (lc62 hN) (kc62 hk0) hin_ dX9_translate_72 ?_
      obtain ⟨hin_, h⟩ := ck_e h
      obtain ⟨G17_73, qq, h⟩ := bn_e h
      refine sa_32 hx hb hKK hI e17 (lc66 hN) (kc66 hk0) hin_ dX9_translate_73 (fun σ H locs hI ew ho => ?_)
      have e17 := ew.trans qq.symm
      have e6 := (ho 6 (nn rfl)).trans e6
      have e9 := (ho 9 (nn rfl)).trans e9
      have e10 := (ho 10 (nn rfl)).trans e10
      have e13 := (ho 13 (nn rfl)).trans e13
      have e16 := (ho 16 (nn rfl)).trans e16
      have fr := frs fr ho (by decide)
      refine lv_aload_n hx hb dX9_translate_74 rfl (lv_at hl 1 rfl) ?_
      refine lv_iload hx hb dX9_translate_75 (lv_at hl 5 rfl) ?_
      refine lv_iload hx hb dX9_translate_77 (lv_at hl 4 rfl) ?_
      refine lv_aload_n hx hb dX9_translate_79 rfl (lv_at hl 2 rfl) ?_
      obtain ⟨q_80, hq_80, h⟩ := ob_e h
      refine r_callV (As := [.int v5, .int v4, .ref (HB.size + 32)]) (rest := []) hx hb hml hts hown (c_X9_allowKnown l HB D y F n κ σ hN v5 v4 G6 e6 G9 e9 G13 e13 G16 e16 G17_73 e17 q_80 hq_80) cal_X9_allowKnown im_X9_allowKnown se_X9_allowKnown lm_X9_50 ⟨Nat.le_of_ble_eq_true rfl, Nat.le_of_ble_eq_true rfl⟩ hI.nil hKK (r_recv hKK hI (hE9 HB.size y) rfl (lc60 hN) (kc60 hk0)) rfl hl.1 hI.2.2 rfl (Nat.le_of_ble_eq_true rfl) dX9_translate_80 ⟨Nat.le_of_ble_eq_true rfl, Nat.le_of_ble_eq_true rfl⟩ rfl rfl rfl (fun H locs hB hlo => ?_)
      obtain ⟨σ, hB, en17, ho⟩ := hB
      have hI := hB.re hlo
      have e17 := en17
      have e6 := (ho 6 (ni rfl)).trans e6
      have e9 := (ho 9 (ni rfl)).trans e9
      have e10 := (ho 10 (ni rfl)).trans e10
      have e13 := (ho 13 (ni rfl)).trans e13
      have e16 := (ho 16 (ni rfl)).trans e16
      have fr := frc fr ho (by decide)
      obtain ⟨v5_83, qq, h⟩ := bn_e h
      refine lv_iinc (v := v5_83) (lv' := [(5, .int v5_83), (6, .int s0), (0, .ref (HB.size + 60)), (2, .ref (HB.size + 32)), (3, .int v3), (4, .int v4)]) hx hb dX9_translate_83 hl (k := 5) rfl (by rw [qq]; rfl) (by decide) rfl (fun ls hl => ?_)
      refine lv_goto (tgt := 19) hx hb dX9_translate_86 (by decide) ?_
      exact hk19 σ H locs ls G6 G9 G10 G13 G16 q_80 v3 v4 v5_83  hI e6 e9 e10 e13 e16 e17 fr (lv_sub hl [2, 3, 4, 5, 0] rfl) h
  have b99 : ∀ (fu : Nat) (σ : St) (H : Heap) (locs : List Loc) (ls : Array Slot) (G6 : Grp) (G9 : Grp) (G10 : Grp) (G13 : Grp) (G16 : Grp) (G17 : Grp) (v3 : Int32) (v4 : Int32) (v5 : Int32) , IV HB D y n n κ σ locs H → σ 6 = G6 → σ 9 = G9 → σ 10 = G10 → σ 13 = G13 → σ 16 = G16 → σ 17 = G17 → (∀ j, j ∉ W_X9_translate → σ j = σ0 j) → lv_has ls 7 [(0, .ref (HB.size + 60)), (3, .int v3), (4, .int v4), (5, .int v5)] → f_X9_translate_l99 F  fu G6 G9 G10 G13 G16 G17 v3 v4 v5 = some q → WX RM_X9_translate p l e s m args below meth c HB none (B_X9_translate HB D y n κ σ0 q) H locs (F0 m 99 ls []) := by
    intro  fu
    induction fu with
    | zero =>
      intro σ H locs ls G6 G9 G10 G13 G16 G17 v3 v4 v5 hI e6 e9 e10 e13 e16 e17 fr hl h
      exact absurd h (by intro h; cases h)
    | succ fu hk99 =>
      intro σ H locs ls G6 G9 G10 G13 G16 G17 v3 v4 v5 hI e6 e9 e10 e13 e16 e17 fr hl h
      have h : f_X9_translate_l99b F  (f_X9_translate_l99 F  fu) G6 G9 G10 G13 G16 G17 v3 v4 v5 = some q := h
      generalize f_X9_translate_l99 F  fu = k99 at h hk99
      unfold f_X9_translate_l99b at h
      refine lv_iload hx hb dX9_translate_99 (lv_at hl 3 rfl) ?_
      refine lv_iload hx hb dX9_translate_101 (lv_at hl 2 rfl) ?_
      refine lv_icmp_ge (tgt := 182) hx hb dX9_translate_103 (by decide) (fun hc => ?_) (fun hc => ?_)
      · replace h := ite_t hc h
        have hq := Option.some.inj h
        exact W.vret hx hb hr (fun t ht hW => qc_mk (rfl) (by rw [ht]; exact ⟨σ, hI.nil, e9.trans (congrArg (fun z => z.1) hq), e13.trans (congrArg (fun z => z.2.1) hq), e16.trans (congrArg (fun z => z.2.2.1) hq), e17.trans (congrArg (fun z => z.2.2.2) hq), fr⟩)) hI.2.2 dX9_translate_182 hlocks
      · replace h := ite_f hc h
        refine lv_aload_n hx hb dX9_translate_106 rfl (lv_at hl 0 rfl) ?_
        refine gf_X9_31 hx hb hts hown hKK hI hN dX9_translate_107 ?_
        refine gf_X9_57 hx hb hts hown hKK hI (lc65 hN) (kc65 hk0) dX9_translate_110 ?_
        refine lv_iload hx hb dX9_translate_113 (lv_at hl 3 rfl) ?_
        obtain ⟨hin_, h⟩ := ck_e h
        refine la_32 hx hb hKK hI e17 (lc67 hN) (kc67 hk0) hin_ dX9_translate_115 ?_
        refine lv_bipush (v := 6) hx hb dX9_translate_116 (by decide) ?_
        refine lv_icmp_eq (tgt := 176) hx hb dX9_translate_118 (by decide) (fun hc => ?_) (fun hc => ?_)
        · replace h := ite_t hc h
          obtain ⟨v5_176, qq, h⟩ := bn_e h
          refine lv_iinc (v := v5_176) (lv' := [(5, .int v5_176), (0, .ref (HB.size + 60)), (3, .int v3), (4, .int v4)]) hx hb dX9_translate_176 hl (k := 3) rfl (by rw [qq]; rfl) (by decide) rfl (fun ls hl => ?_)
          refine lv_goto (tgt := 99) hx hb dX9_translate_179 (by decide) ?_
          exact hk99 σ H locs ls G6 G9 G10 G13 G16 G17 v3 v4 v5_176  hI e6 e9 e10 e13 e16 e17 fr (lv_sub hl [1, 2, 3, 0] rfl) h
        · replace h := ite_f hc h
          refine lv_aload_n hx hb dX9_translate_121 rfl (lv_at hl 0 rfl) ?_
          refine gf_X9_24 hx hb hts hown hKK hI hN dX9_translate_122 ?_
          refine lv_iload hx hb dX9_translate_125 (lv_at hl 3 rfl) ?_
          obtain ⟨hin_, h⟩ := ck_e h
          refine la_31 hx hb hKK hI e16 (lc64 hN) (kc64 hk0) hin_ dX9_translate_127 ?_
          rcases om_e h with ⟨eo, h⟩ | ⟨t_127, eo, h⟩
          · refine topn eo ?_
            refine lv_aload_n hx hb dX9_translate_128 rfl (lv_at hl 0 rfl) ?_
            refine gf_X9_31 hx hb hts hown hKK hI hN dX9_translate_129 ?_
            refine gf_X9_57 hx hb hts hown hKK hI (lc65 hN) (kc65 hk0) dX9_translate_132 ?_
            refine lv_iload hx hb dX9_translate_135 (lv_at hl 3 rfl) ?_
            obtain ⟨hin_, h⟩ := ck_e h
            refine la_32 hx hb hKK hI e17 (lc67 hN) (kc67 hk0) hin_ dX9_translate_137 ?_
            cases h
          · refine topr eo ?_
            obtain ⟨ha_127, hk_127⟩ := tarF hI (lc64 hN) (kc64 hk0) 0 rfl e16 eo
            refine lv_aload_n hx hb dX9_translate_128 rfl (lv_at hl 0 rfl) ?_
            refine gf_X9_31 hx hb hts hown hKK hI hN dX9_translate_129 ?_
            refine gf_X9_57 hx hb hts hown hKK hI (lc65 hN) (kc65 hk0) dX9_translate_132 ?_
            refine lv_iload hx hb dX9_translate_135 (lv_at hl 3 rfl) ?_
            obtain ⟨hin_, h⟩ := ck_e h
            refine la_32 hx hb hKK hI e17 (lc67 hN) (kc67 hk0) hin_ dX9_translate_137 ?_
            obtain ⟨G13_138, qq, h⟩ := bn_e h
            refine pt_X9_60 hx hb hts hown hKK hI e13 ha_127 hk_127 dX9_translate_138 (fun σ H locs hI ew ho => ?_)
            have e13 := ew.trans qq.symm
            have e6 := (ho 6 (nn rfl)).trans e6
            have e9 := (ho 9 (nn rfl)).trans e9
            have e10 := (ho 10 (nn rfl)).trans e10
            have e16 := (ho 16 (nn rfl)).trans e16
            have e17 := (ho 17 (nn rfl)).trans e17
            have fr := frs fr ho (by decide)
            refine lv_aload_n hx hb dX9_translate_141 rfl (lv_at hl 0 rfl) ?_
            refine gf_X9_24 hx hb hts hown hKK hI hN dX9_translate_142 ?_
            refine lv_iload hx hb dX9_translate_145 (lv_at hl 3 rfl) ?_
            obtain ⟨hin_, h⟩ := ck_e h
            refine la_31 hx hb hKK hI e16 (lc64 hN) (kc64 hk0) hin_ dX9_translate_147 ?_
            rcases om_e h with ⟨eo, h⟩ | ⟨t_147, eo, h⟩
            · cases h
            · refine topr eo ?_
              obtain ⟨ha_147, hk_147⟩ := tarF hI (lc64 hN) (kc64 hk0) 0 rfl e16 eo
              refine gt_X9_63 hx hb hts hown hKK hI e13 ha_147 hk_147 dX9_translate_148 ?_
              rcases om_e h with ⟨eo, h⟩ | ⟨t_148, eo, h⟩
              · refine topn eo ?_
                refine lv_aload_n hx hb dX9_translate_151 rfl (lv_at hl 0 rfl) ?_
                refine gf_X9_31 hx hb hts hown hKK hI hN dX9_translate_152 ?_
                refine gf_X9_57 hx hb hts hown hKK hI (lc65 hN) (kc65 hk0) dX9_translate_155 ?_
                refine lv_iload hx hb dX9_translate_158 (lv_at hl 3 rfl) ?_
                obtain ⟨hin_, h⟩ := ck_e h
                refine la_32 hx hb hKK hI e17 (lc67 hN) (kc67 hk0) hin_ dX9_translate_160 ?_
                cases h
              · refine topr eo ?_
                obtain ⟨ha_148, hk_148⟩ := typF hI ha_147 hk_147 0 rfl e13 eo
                refine lv_aload_n hx hb dX9_translate_151 rfl (lv_at hl 0 rfl) ?_
                refine gf_X9_31 hx hb hts hown hKK hI hN dX9_translate_152 ?_
                refine gf_X9_57 hx hb hts hown hKK hI (lc65 hN) (kc65 hk0) dX9_translate_155 ?_
                refine lv_iload hx hb dX9_translate_158 (lv_at hl 3 rfl) ?_
                obtain ⟨hin_, h⟩ := ck_e h
                refine la_32 hx hb hKK hI e17 (lc67 hN) (kc67 hk0) hin_ dX9_translate_160 ?_
                obtain ⟨G9_161, qq, h⟩ := bn_e h
                refine pt_X9_67 hx hb hts hown hKK hI e9 ha_148 hk_148 dX9_translate_161 (fun σ H locs hI ew ho => ?_)
                have e9 := ew.trans qq.symm
                have e6 := (ho 6 (nn rfl)).trans e6
                have e10 := (ho 10 (nn rfl)).trans e10
                have e13 := (ho 13 (nn rfl)).trans e13
                have e16 := (ho 16 (nn rfl)).trans e16
                have e17 := (ho 17 (nn rfl)).trans e17
                have fr := frs fr ho (by decide)
                refine lv_aload_n hx hb dX9_translate_164 rfl (lv_at hl 0 rfl) ?_
                refine gf_X9_24 hx hb hts hown hKK hI hN dX9_translate_165 ?_
                refine lv_iload hx hb dX9_translate_168 (lv_at hl 3 rfl) ?_
                obtain ⟨hin_, h⟩ := ck_e h
                refine la_31 hx hb hKK hI e16 (lc64 hN) (kc64 hk0) hin_ dX9_translate_170 ?_
                rcases om_e h with ⟨eo, h⟩ | ⟨t_170, eo, h⟩
                · refine topn eo ?_
                  refine lv_iconst (v := 5) hx hb dX9_translate_171 (by decide) ?_
                  refine lv_iload_n hx hb dX9_translate_172 rfl (lv_at hl 1 rfl) ?_
                  cases h
                · refine topr eo ?_
                  obtain ⟨ha_170, hk_170⟩ := tarF hI (lc64 hN) (kc64 hk0) 0 rfl e16 eo
                  refine lv_iconst (v := 5) hx hb dX9_translate_171 (by decide) ?_
                  refine lv_iload_n hx hb dX9_translate_172 rfl (lv_at hl 1 rfl) ?_
                  obtain ⟨q_173, hq_173, h⟩ := ob_e h
                  refine r_callV (As := [.int 5, .int v3]) (rest := []) hx hb hml hts hown (c_X4_move l HB D y F n κ σ hN t_170 ha_170 hk_170 5 v3 G13_138 e13 q_173 hq_173) cal_X4_move im_X4_move se_X4_move lm_X9_70 ⟨Nat.le_of_ble_eq_true rfl, Nat.le_of_ble_eq_true rfl⟩ hI.nil hKK (r_recv hKK hI (hE4 HB.size y) rfl ha_170 hk_170) rfl hl.1 hI.2.2 rfl (Nat.le_of_ble_eq_true rfl) dX9_translate_173 ⟨Nat.le_of_ble_eq_true rfl, Nat.le_of_ble_eq_true rfl⟩ rfl rfl rfl (fun H locs hB hlo => ?_)
                  obtain ⟨σ, hB, en13, ho⟩ := hB
                  have hI := hB.re hlo
                  have e13 := en13
                  have e6 := (ho 6 (ni rfl)).trans e6
                  have e9 := (ho 9 (ni rfl)).trans e9
                  have e10 := (ho 10 (ni rfl)).trans e10
                  have e16 := (ho 16 (ni rfl)).trans e16
                  have e17 := (ho 17 (ni rfl)).trans e17
                  have fr := frc fr ho (by decide)
                  obtain ⟨v5_176, qq, h⟩ := bn_e h
                  refine lv_iinc (v := v5_176) (lv' := [(5, .int v5_176), (0, .ref (HB.size + 60)), (3, .int v3), (4, .int v4)]) hx hb dX9_translate_176 hl (k := 3) rfl (by rw [qq]; rfl) (by decide) rfl (fun ls hl => ?_)
                  refine lv_goto (tgt := 99) hx hb dX9_translate_179 (by decide) ?_
                  exact hk99 σ H locs ls G6 G9_161 G10 q_173 G16 G17 v3 v4 v5_176  hI e6 e9 e10 e13 e16 e17 fr (lv_sub hl [1, 2, 3, 0] rfl) h
  have b19 : ∀ (fu : Nat) (σ : St) (H : Heap) (locs : List Loc) (ls : Array Slot) (G6 : Grp) (G9 : Grp) (G10 : Grp) (G13 : Grp) (G16 : Grp) (G17 : Grp) (v3 : Int32) (v4 : Int32) (v5 : Int32) , IV HB D y n n κ σ locs H → σ 6 = G6 → σ 9 = G9 → σ 10 = G10 → σ 13 = G13 → σ 16 = G16 → σ 17 = G17 → (∀ j, j ∉ W_X9_translate → σ j = σ0 j) → lv_has ls 7 [(0, .ref (HB.size + 60)), (2, .ref (HB.size + 32)), (3, .int v3), (4, .int v4), (5, .int v5)] → f_X9_translate_l19 F  fu G6 G9 G10 G13 G16 G17 v3 v4 v5 = some q → WX RM_X9_translate p l e s m args below meth c HB none (B_X9_translate HB D y n κ σ0 q) H locs (F0 m 19 ls []) := by
    intro  fu
    induction fu with
    | zero =>
      intro σ H locs ls G6 G9 G10 G13 G16 G17 v3 v4 v5 hI e6 e9 e10 e13 e16 e17 fr hl h
      exact absurd h (by intro h; cases h)
    | succ fu hk19 =>
      intro σ H locs ls G6 G9 G10 G13 G16 G17 v3 v4 v5 hI e6 e9 e10 e13 e16 e17 fr hl h
      have h : f_X9_translate_l19b F  (f_X9_translate_l19 F  fu) G6 G9 G10 G13 G16 G17 v3 v4 v5 = some q := h
      generalize f_X9_translate_l19 F  fu = k19 at h hk19
      unfold f_X9_translate_l19b at h
      refine lv_iload hx hb dX9_translate_19 (lv_at hl 4 rfl) ?_
      refine lv_aload_n hx hb dX9_translate_21 rfl (lv_at hl 0 rfl) ?_
      refine gt_X9_35 hx hb hts hown hKK hI e16 (lc60 hN) (kc60 hk0) dX9_translate_22 ?_
      refine lv_icmp_ge (tgt := 89) hx hb dX9_translate_25 (by decide) (fun hc => ?_) (fun hc => ?_)
      · replace h := ite_t hc h
        refine lv_aload_n hx hb dX9_translate_89 rfl (lv_at hl 0 rfl) ?_
        refine gf_X9_31 hx hb hts hown hKK hI hN dX9_translate_90 ?_
        obtain ⟨q_93, hq_93, h⟩ := ob_e h
        refine r_callV (As := []) (rest := []) hx hb hml hts hown (c_X0_solve l HB D y F n κ σ hN 65 (lc65 hN) (kc65 hk0) G17 e17 q_93 hq_93) cal_X0_solve im_X0_solve se_X0_solve lm_X9_54 ⟨Nat.le_of_ble_eq_true rfl, Nat.le_of_ble_eq_true rfl⟩ hI.nil hKK (r_recv hKK hI (hE0 HB.size y) rfl (lc65 hN) (kc65 hk0)) rfl hl.1 hI.2.2 rfl (Nat.le_of_ble_eq_true rfl) dX9_translate_93 ⟨Nat.le_of_ble_eq_true rfl, Nat.le_of_ble_eq_true rfl⟩ rfl rfl rfl (fun H locs hB hlo => ?_)
        obtain ⟨σ, hB, en17, ho⟩ := hB
        have hI := hB.re hlo
        have e17 := en17
        have e6 := (ho 6 (ni rfl)).trans e6
        have e9 := (ho 9 (ni rfl)).trans e9
        have e10 := (ho 10 (ni rfl)).trans e10
        have e13 := (ho 13 (ni rfl)).trans e13
        have e16 := (ho 16 (ni rfl)).trans e16
        have fr := frc fr ho (by decide)
        refine lv_iconst (v := 0) hx hb dX9_translate_96 (by decide) ?_
        refine lv_istore (lv' := [(5, .int 0), (0, .ref (HB.size + 60)), (2, .ref (HB.size + 32)), (3, .int v3), (4, .int v4)]) hx hb dX9_translate_97 hl (by decide) rfl (fun ls hl => ?_)
        exact b99  F σ H locs ls G6 G9 G10 G13 G16 q_93 v3 v4 0  hI e6 e9 e10 e13 e16 e17 fr (lv_sub hl [1, 3, 4, 0] rfl) h
      · replace h := ite_f hc h
        refine lv_aload_n hx hb dX9_translate_28 rfl (lv_at hl 0 rfl) ?_
        refine gf_X9_19 hx hb hts hown hKK hI hN dX9_translate_29 ?_
        refine lv_iload hx hb dX9_translate_32 (lv_at hl 4 rfl) ?_
        obtain ⟨hin_, h⟩ := ck_e h
        refine la_30 hx hb hKK hI e16 (lc63 hN) (kc63 hk0) hin_ dX9_translate_34 ?_
        refine lv_iload_n hx hb dX9_translate_35 rfl (lv_at hl 2 rfl) ?_
        refine lv_bipush (v := 7) hx hb dX9_translate_36 (by decide) ?_
        refine lv_irem hx hb dX9_translate_38 (by decide) ?_
        refine lv_ishr hx hb dX9_translate_39 ?_
        refine lv_iconst (v := 1) hx hb dX9_translate_40 (by decide) ?_
        refine lv_iand hx hb dX9_translate_41 ?_
        refine lv_if_ne (tgt := 49) hx hb dX9_translate_42 (by decide) (fun hc => ?_) (fun hc => ?_)
        · replace h := ite_f hc h
          refine lv_iconst (v := 0) hx hb dX9_translate_49 (by decide) ?_
          exact b50 k19 hk19 σ H locs ls G6 G9 G10 G13 G16 G17 v3 v4 v5 0  hI e6 e9 e10 e13 e16 e17 fr (lv_sub hl [0, 1, 2, 3, 4] rfl) h
        · replace h := ite_t hc h
          refine lv_iconst (v := 1) hx hb dX9_translate_45 (by decide) ?_
          refine lv_goto (tgt := 50) hx hb dX9_translate_46 (by decide) ?_
          exact b50 k19 hk19 σ H locs ls G6 G9 G10 G13 G16 G17 v3 v4 v5 1  hI e6 e9 e10 e13 e16 e17 fr (lv_sub hl [0, 1, 2, 3, 4] rfl) h
  obtain ⟨σ, hI, e6, e9, e10, e13, e16, e17, fr⟩ : ∃ σ : St, IV HB D y n n κ σ [] s.heap ∧ σ 6 = G6 ∧ σ 9 = G9 ∧ σ 10 = G10 ∧ σ 13 = G13 ∧ σ 16 = G16 ∧ σ 17 = G17 ∧ ∀ j, j ∉ W_X9_translate → σ j = σ0 j := ⟨σ0, hI, e6, e9, e10, e13, e16, e17, fun _ _ => rfl⟩
  show WX RM_X9_translate p l e s m args below meth c HB none (B_X9_translate HB D y n κ σ0 q) s.heap [] (F0 m 0 ls [])
  generalize s.heap = H at hI ⊢
  unfold f_X9_translate at h
  obtain ⟨locs, hlocs⟩ : ∃ x : List Loc, x = [] := ⟨_, rfl⟩
  rw [← hlocs] at hI ⊢
  refine lv_aload_n hx hb dX9_translate_0 rfl (lv_at hl 0 rfl) ?_
  refine lv_aload_n hx hb dX9_translate_1 rfl (lv_at hl 1 rfl) ?_
  obtain ⟨q_2, hq_2, h⟩ := ob_e h
  refine r_callV (As := [.ref (HB.size + 44)]) (rest := []) hx hb hml hts hown (c_X9_lineUp l HB D y F n κ σ hN  G10 e10 G13 e13 G16 e16 q_2 hq_2) cal_X9_lineUp im_X9_lineUp se_X9_lineUp lm_X9_39 ⟨Nat.le_of_ble_eq_true rfl, Nat.le_of_ble_eq_true rfl⟩ hI.nil hKK (r_recv hKK hI (hE9 HB.size y) rfl (lc60 hN) (kc60 hk0)) rfl hl.1 hI.2.2 rfl (Nat.le_of_ble_eq_true rfl) dX9_translate_2 ⟨Nat.le_of_ble_eq_true rfl, Nat.le_of_ble_eq_true rfl⟩ rfl rfl rfl (fun H locs hB hlo => ?_)
  obtain ⟨σ, hB, en16, ho⟩ := hB
  have hI := hB.re hlo
  have e16 := en16
  have e6 := (ho 6 (ni rfl)).trans e6
  have e9 := (ho 9 (ni rfl)).trans e9
  have e10 := (ho 10 (ni rfl)).trans e10
  have e13 := (ho 13 (ni rfl)).trans e13
  have e17 := (ho 17 (ni rfl)).trans e17
  have fr := frc fr ho (by decide)
  obtain ⟨v4_5, qq, h⟩ := bn_e h
  refine topi qq ?_
  refine lv_istore (lv' := [(4, .int v4_5), (0, .ref (HB.size + 60)), (1, .ref (HB.size + 44)), (2, .ref (HB.size + 32)), (3, .int v3)]) hx hb dX9_translate_5 hl (by decide) rfl (fun ls hl => ?_)
  refine lv_aload_n hx hb dX9_translate_7 rfl (lv_at hl 1 rfl) ?_
  refine gf_X9_31 hx hb hts hown hKK hI hN dX9_translate_8 ?_
  refine lv_iload hx hb dX9_translate_11 (lv_at hl 0 rfl) ?_
  obtain ⟨q_13, hq_13, h⟩ := ob_e h
  refine r_callV (As := [.int v4_5]) (rest := []) hx hb hml hts hown (c_X0_clear l HB D y F n κ σ hN 65 (lc65 hN) (kc65 hk0) v4_5 G17 e17 q_13 hq_13) cal_X0_clear im_X0_clear se_X0_clear lm_X9_43 ⟨Nat.le_of_ble_eq_true rfl, Nat.le_of_ble_eq_true rfl⟩ hI.nil hKK (r_recv hKK hI (hE0 HB.size y) rfl (lc65 hN) (kc65 hk0)) rfl hl.1 hI.2.2 rfl (Nat.le_of_ble_eq_true rfl) dX9_translate_13 ⟨Nat.le_of_ble_eq_true rfl, Nat.le_of_ble_eq_true rfl⟩ rfl rfl rfl (fun H locs hB hlo => ?_)
  obtain ⟨σ, hB, en17, ho⟩ := hB
  have hI := hB.re hlo
  have e17 := en17
  have e6 := (ho 6 (ni rfl)).trans e6
  have e9 := (ho 9 (ni rfl)).trans e9
  have e10 := (ho 10 (ni rfl)).trans e10
  have e13 := (ho 13 (ni rfl)).trans e13
  have e16 := (ho 16 (ni rfl)).trans e16
  have fr := frc fr ho (by decide)
  refine lv_iconst (v := 0) hx hb dX9_translate_16 (by decide) ?_
  refine lv_istore (lv' := [(5, .int 0), (4, .int v4_5), (0, .ref (HB.size + 60)), (1, .ref (HB.size + 44)), (2, .ref (HB.size + 32)), (3, .int v3)]) hx hb dX9_translate_17 hl (by decide) rfl (fun ls hl => ?_)
  exact b19  F σ H locs ls G6 G9 G10 G13 (q_2.2) q_13 v3 v4_5 0  hI e6 e9 e10 e13 e16 e17 fr (lv_sub hl [2, 4, 5, 1, 0] rfl) h
noncomputable def f_X10_tell (F : Nat) (G20 : Grp) (v1 : Int32) (v2 : Int32) (v3 : Int32) : Option (Grp) :=
  ck v1 16 (bn (gI G20 79 v1.toNatClampNeg (vp_nar .boolean 1)) (fun G20_6 => ck v1 16 (bn (gI G20_6 80 v1.toNatClampNeg v2) (fun G20_13 => ck v1 16 (bn (gI G20_13 81 v1.toNatClampNeg v3) (fun G20_20 => some G20_20))))))
def RM_X10_tell : Room := { frames := 0, cells := 0, slots := 0, locals := 0 }
abbrev W_X10_tell : List Nat := [20]
abbrev B_X10_tell (HB : Heap) (D : va_G) (y : Nat → ClassId) (n : Nat) (κ : Nat → Nat) (σ0 : St) (q : Grp) : Heap → Prop := fun H => ∃ σ : St, IV HB D y n n κ σ [] H ∧ σ 20 = q ∧ ∀ j, j ∉ W_X10_tell → σ j = σ0 j
set_option maxRecDepth 100000 in
set_option maxHeartbeats 4000000 in
theorem c_X10_tell (l : Launch) (HB : Heap) (D : va_G) (y : Nat → ClassId) (F n : Nat) (κ : Nat → Nat) (σ0 : St) (hN : N0 ≤ n) (v1 : Int32)  (v2 : Int32)  (v3 : Int32)  (G20 : Grp) (e20 : σ0 20 = G20) (q : Grp) (h : f_X10_tell F G20 v1 v2 v3 = some q) : MT l HB D y yX10_tell cX10_tell 4 none RM_X10_tell [.ref (HB.size + 78), .int v1, .int v2, .int v3] (IV HB D y n n κ σ0 []) none (B_X10_tell HB D y n κ σ0 q) := by
  refine Met.ofW (cc := cX10_tell) (maxL := 4) (ret := none) (by decide) rfl ?_
  intro p e s m args below meth c s₁ BL hml hv
  obtain ⟨rfl, hI, hKK⟩ := hv
  have hx := BL.exec
  have hb := BL.bytes
  have hr := BL.returns
  have hts : ∀ w ∈ gtb, w.before _ s = true := fun w hw => atoms_spec BL.pre w (List.mem_cons_of_mem _ hw)
  have hml : c.maxLocals = 4 := hml
  have hown : s.vm.findClass RX10 = some m.cls := findClass_of_methodNamed BL.named
  have hlocks := BL.notSynchronized
  have hk0 := hI.1.2.2.2.2
  have hl := lv_entry ([.ref (HB.size + 78), .int v1, .int v2, .int v3]) (n := 4) (Nat.le_of_ble_eq_true rfl)
  rw [lg_entry_eq]
  generalize (lg_sl ([.ref (HB.size + 78), .int v1, .int v2, .int v3]) ++ List.replicate (4 - (lg_sl ([.ref (HB.size + 78), .int v1, .int v2, .int v3])).length) Slot.unset).toArray = ls at hl ⊢
  have hl : lv_has ls 4 [(0, .ref (HB.size + 78)), (1, .int v1), (2, .int v2), (3, .int v3)] := hl
  generalize hargs : ([.ref (HB.size + 78), .int v1, .int v2, .int v3] : List Value).toArray = args at *
  obtain ⟨σ, hI, e20, fr⟩ : ∃ σ : St, IV HB D y n n κ σ [] s.heap ∧ σ 20 = G20 ∧ ∀ j, j ∉ W_X10_tell → σ j = σ0 j := ⟨σ0, hI, e20, fun _ _ => rfl⟩
  show WX RM_X10_tell p l e s m args below meth c HB none (B_X10_tell HB D y n κ σ0 q) s.heap [] (F0 m 0 ls [])
  generalize s.heap = H at hI ⊢
  unfold f_X10_tell at h
  obtain ⟨locs, hlocs⟩ : ∃ x : List Loc, x = [] := ⟨_, rfl⟩
  rw [← hlocs] at hI ⊢
  refine lv_aload_n hx hb dX10_tell_0 rfl (lv_at hl 0 rfl) ?_
  refine gf_X10_9 hx hb hts hown hKK hI hN dX10_tell_1 ?_
  refine lv_iload_n hx hb dX10_tell_4 rfl (lv_at hl 1 rfl) ?_
  refine lv_iconst (v := 1) hx hb dX10_tell_5 (by decide) ?_
  obtain ⟨hin_, h⟩ := ck_e h
  obtain ⟨G20_6, qq, h⟩ := bn_e h
  refine sa_38 hx hb hKK hI e20 (lc79 hN) (kc79 hk0) hin_ dX10_tell_6 (fun σ H locs hI ew ho => ?_)
  have e20 := ew.trans qq.symm
  have fr := frs fr ho (by decide)
  refine lv_aload_n hx hb dX10_tell_7 rfl (lv_at hl 0 rfl) ?_
  refine gf_X10_15 hx hb hts hown hKK hI hN dX10_tell_8 ?_
  refine lv_iload_n hx hb dX10_tell_11 rfl (lv_at hl 1 rfl) ?_
  refine lv_iload_n hx hb dX10_tell_12 rfl (lv_at hl 2 rfl) ?_
  obtain ⟨hin_, h⟩ := ck_e h
  obtain ⟨G20_13, qq, h⟩ := bn_e h
  refine sa_39 hx hb hKK hI e20 (lc80 hN) (kc80 hk0) hin_ dX10_tell_13 (fun σ H locs hI ew ho => ?_)
  have e20 := ew.trans qq.symm
  have fr := frs fr ho (by decide)
  refine lv_aload_n hx hb dX10_tell_14 rfl (lv_at hl 0 rfl) ?_
  refine gf_X10_19 hx hb hts hown hKK hI hN dX10_tell_15 ?_
  refine lv_iload_n hx hb dX10_tell_18 rfl (lv_at hl 1 rfl) ?_
  refine lv_iload_n hx hb dX10_tell_19 rfl (lv_at hl 3 rfl) ?_
  obtain ⟨hin_, h⟩ := ck_e h
  obtain ⟨G20_20, qq, h⟩ := bn_e h
  refine sa_39 hx hb hKK hI e20 (lc81 hN) (kc81 hk0) hin_ dX10_tell_20 (fun σ H locs hI ew ho => ?_)
  have e20 := ew.trans qq.symm
  have fr := frs fr ho (by decide)
  have hq := Option.some.inj h
  exact W.vret hx hb hr (fun t ht hW => qc_mk (rfl) (by rw [ht]; exact ⟨σ, hI.nil, e20.trans (congrArg (fun z => z) hq), fr⟩)) hI.2.2 dX10_tell_21 hlocks
noncomputable def f_X10_wishing_l4b (F : Nat)  (k4 : Grp → Int32 → Int32 → Option (Int32)) (G20 : Grp) (v1 : Int32) (v2 : Int32) : Option (Int32) :=
  if 16 ≤ v2 then some v1 else ck v2 16 (if (G20.1 79 v2.toNatClampNeg) = 0 then bn ((v1 + 0)) (fun v1_26 => bn (v2 + 1) (fun v2_27 => k4 G20 v1_26 v2_27)) else bn ((v1 + 1)) (fun v1_26 => bn (v2 + 1) (fun v2_27 => k4 G20 v1_26 v2_27)))
noncomputable def f_X10_wishing_l4 (F : Nat)  (fu : Nat) : Grp → Int32 → Int32 → Option (Int32) := Nat.rec (motive := fun _ => Grp → Int32 → Int32 → Option (Int32)) (fun _ _ _ => none) (fun _ ih => f_X10_wishing_l4b F  ih) fu
noncomputable def f_X10_wishing (F : Nat) (G20 : Grp)  : Option (Int32) :=
  f_X10_wishing_l4 F  F G20 0 0
def RM_X10_wishing : Room := { frames := 0, cells := 0, slots := 0, locals := 0 }
abbrev B_X10_wishing (HB : Heap) (D : va_G) (y : Nat → ClassId) (n : Nat) (κ : Nat → Nat) (σ : St) (q : Int32) : Heap → Prop := fun H => IV HB D y n n κ σ [] H
set_option maxRecDepth 100000 in
set_option maxHeartbeats 4000000 in
theorem c_X10_wishing (l : Launch) (HB : Heap) (D : va_G) (y : Nat → ClassId) (F n : Nat) (κ : Nat → Nat) (σ : St) (hN : N0 ≤ n)  (G20 : Grp) (e20 : σ 20 = G20) (q : Int32) (h : f_X10_wishing F G20 = some q) : MT l HB D y yX10_wishing cX10_wishing 3 (some .int) RM_X10_wishing [.ref (HB.size + 78)] (IV HB D y n n κ σ []) (some (.int q)) (B_X10_wishing HB D y n κ σ q) := by
  refine Met.ofW (cc := cX10_wishing) (maxL := 3) (ret := (some .int)) (by decide) rfl ?_
  intro p e s m args below meth c s₁ BL hml hv
  obtain ⟨rfl, hI, hKK⟩ := hv
  have hx := BL.exec
  have hb := BL.bytes
  have hr := BL.returns
  have hts : ∀ w ∈ gtb, w.before _ s = true := fun w hw => atoms_spec BL.pre w (List.mem_cons_of_mem _ hw)
  have hml : c.maxLocals = 3 := hml
  have hown : s.vm.findClass RX10 = some m.cls := findClass_of_methodNamed BL.named
  have hlocks := BL.notSynchronized
  have hk0 := hI.1.2.2.2.2
  have hl := lv_entry ([.ref (HB.size + 78)]) (n := 3) (Nat.le_of_ble_eq_true rfl)
  rw [lg_entry_eq]
  generalize (lg_sl ([.ref (HB.size + 78)]) ++ List.replicate (3 - (lg_sl ([.ref (HB.size + 78)])).length) Slot.unset).toArray = ls at hl ⊢
  have hl : lv_has ls 3 [(0, .ref (HB.size + 78))] := hl
  generalize hargs : ([.ref (HB.size + 78)] : List Value).toArray = args at *
  have b4 : ∀ (fu : Nat) (H : Heap) (locs : List Loc) (ls : Array Slot) (G20 : Grp) (v1 : Int32) (v2 : Int32) , IV HB D y n n κ σ locs H → σ 20 = G20 → lv_has ls 3 [(0, .ref (HB.size + 78)), (1, .int v1), (2, .int v2)] → f_X10_wishing_l4 F  fu G20 v1 v2 = some q → WX RM_X10_wishing p l e s m args below meth c HB (some (.int q)) (B_X10_wishing HB D y n κ σ q) H locs (F0 m 4 ls []) := by
    intro  fu
    induction fu with
    | zero =>
      intro H locs ls G20 v1 v2 hI e20 hl h
      exact absurd h (by intro h; cases h)
    | succ fu hk4 =>
      intro H locs ls G20 v1 v2 hI e20 hl h
      have h : f_X10_wishing_l4b F  (f_X10_wishing_l4 F  fu) G20 v1 v2 = some q := h
      generalize f_X10_wishing_l4 F  fu = k4 at h hk4
      unfold f_X10_wishing_l4b at h
      refine lv_iload_n hx hb dX10_wishing_4 rfl (lv_at hl 2 rfl) ?_
      refine lv_bipush (v := 16) hx hb dX10_wishing_5 (by decide) ?_
      refine lv_icmp_ge (tgt := 33) hx hb dX10_wishing_7 (by decide) (fun hc => ?_) (fun hc => ?_)
      · replace h := ite_t hc h
        refine lv_iload_n hx hb dX10_wishing_33 rfl (lv_at hl 1 rfl) ?_
        have hq := Option.some.inj h
        exact W.iret (v := v1) hx hb hr (fun t ht hW => qc_mk (congrArg (fun z => Outcome.returned (some (Value.int z))) hq) (by rw [ht]; exact hI.nil)) hI.2.2 dX10_wishing_34 hlocks
      · replace h := ite_f hc h
        refine lv_iload_n hx hb dX10_wishing_10 rfl (lv_at hl 1 rfl) ?_
        refine lv_aload_n hx hb dX10_wishing_11 rfl (lv_at hl 0 rfl) ?_
        refine gf_X10_9 hx hb hts hown hKK hI hN dX10_wishing_12 ?_
        refine lv_iload_n hx hb dX10_wishing_15 rfl (lv_at hl 2 rfl) ?_
        obtain ⟨hin_, h⟩ := ck_e h
        refine la_38 hx hb hKK hI e20 (lc79 hN) (kc79 hk0) hin_ dX10_wishing_16 ?_
        refine lv_if_eq (tgt := 24) hx hb dX10_wishing_17 (by decide) (fun hc => ?_) (fun hc => ?_)
        · replace h := ite_t hc h
          refine lv_iconst (v := 0) hx hb dX10_wishing_24 (by decide) ?_
          refine lv_iadd hx hb dX10_wishing_25 ?_
          obtain ⟨v1_26, qq, h⟩ := bn_e h
          refine topi qq ?_
          refine lv_istore_n (lv' := [(1, .int v1_26), (0, .ref (HB.size + 78)), (2, .int v2)]) hx hb dX10_wishing_26 rfl hl (by decide) rfl (fun ls hl => ?_)
          obtain ⟨v2_27, qq, h⟩ := bn_e h
          refine lv_iinc (v := v2_27) (lv' := [(2, .int v2_27), (1, .int v1_26), (0, .ref (HB.size + 78))]) hx hb dX10_wishing_27 hl (k := 2) rfl (by rw [qq]; rfl) (by decide) rfl (fun ls hl => ?_)
          refine lv_goto (tgt := 4) hx hb dX10_wishing_30 (by decide) ?_
          exact hk4 H locs ls G20 v1_26 v2_27  hI e20 (lv_sub hl [2, 1, 0] rfl) h
        · replace h := ite_f hc h
          refine lv_iconst (v := 1) hx hb dX10_wishing_20 (by decide) ?_
          refine lv_goto (tgt := 25) hx hb dX10_wishing_21 (by decide) ?_
          refine lv_iadd hx hb dX10_wishing_25 ?_
          obtain ⟨v1_26, qq, h⟩ := bn_e h
          refine topi qq ?_
          refine lv_istore_n (lv' := [(1, .int v1_26), (0, .ref (HB.size + 78)), (2, .int v2)]) hx hb dX10_wishing_26 rfl hl (by decide) rfl (fun ls hl => ?_)
          obtain ⟨v2_27, qq, h⟩ := bn_e h
          refine lv_iinc (v := v2_27) (lv' := [(2, .int v2_27), (1, .int v1_26), (0, .ref (HB.size + 78))]) hx hb dX10_wishing_27 hl (k := 2) rfl (by rw [qq]; rfl) (by decide) rfl (fun ls hl => ?_)
          refine lv_goto (tgt := 4) hx hb dX10_wishing_30 (by decide) ?_
          exact hk4 H locs ls G20 v1_26 v2_27  hI e20 (lv_sub hl [2, 1, 0] rfl) h
  show WX RM_X10_wishing p l e s m args below meth c HB (some (.int q)) (B_X10_wishing HB D y n κ σ q) s.heap [] (F0 m 0 ls [])
  generalize s.heap = H at hI ⊢
  unfold f_X10_wishing at h
  obtain ⟨locs, hlocs⟩ : ∃ x : List Loc, x = [] := ⟨_, rfl⟩
  rw [← hlocs] at hI ⊢
  refine lv_iconst (v := 0) hx hb dX10_wishing_0 (by decide) ?_
  refine lv_istore_n (lv' := [(1, .int 0), (0, .ref (HB.size + 78))]) hx hb dX10_wishing_1 rfl hl (by decide) rfl (fun ls hl => ?_)
  refine lv_iconst (v := 0) hx hb dX10_wishing_2 (by decide) ?_
  refine lv_istore_n (lv' := [(2, .int 0), (1, .int 0), (0, .ref (HB.size + 78))]) hx hb dX10_wishing_3 rfl hl (by decide) rfl (fun ls hl => ?_)
  exact b4  F H locs ls G20 0 0  hI e20 (lv_sub hl [2, 1, 0] rfl) h
noncomputable def f_X10_pickGivers_l4b (F : Nat)  (k4 : Grp → Grp → Grp → Grp → Grp → Int32 → Int32 → Option (Int32 × Grp)) (G6 : Grp) (G7 : Grp) (G9 : Grp) (G20 : Grp) (G21 : Grp) (v2 : Int32) (v3 : Int32) : Option (Int32 × Grp) :=
  if (G6.1 32 3) ≤ v3 then some (v2, G21) else if 6 ≤ v2 then some (v2, G21) else ck v3 16 (if (G20.1 79 v3.toNatClampNeg) = 0 then bn (v3 + 1) (fun v3_45 => k4 G6 G7 G9 G20 G21 v2 v3_45) else ob (f_X3_hasRoom F G7 G9 v3) (fun q_29 => if q_29 = 0 then bn (v3 + 1) (fun v3_45 => k4 G6 G7 G9 G20 G21 v2 v3_45) else ck v2 6 (bn (gI G21 82 v2.toNatClampNeg v3) (fun G21_41 => bn (v2 + 1) (fun v2_42 => bn (v3 + 1) (fun v3_45 => k4 G6 G7 G9 G20 G21_41 v2_42 v3_45))))))
noncomputable def f_X10_pickGivers_l4 (F : Nat)  (fu : Nat) : Grp → Grp → Grp → Grp → Grp → Int32 → Int32 → Option (Int32 × Grp) := Nat.rec (motive := fun _ => Grp → Grp → Grp → Grp → Grp → Int32 → Int32 → Option (Int32 × Grp)) (fun _ _ _ _ _ _ _ => none) (fun _ ih => f_X10_pickGivers_l4b F  ih) fu
noncomputable def f_X10_pickGivers (F : Nat) (G6 : Grp) (G7 : Grp) (G9 : Grp) (G20 : Grp) (G21 : Grp)  : Option (Int32 × Grp) :=
  f_X10_pickGivers_l4 F  F G6 G7 G9 G20 G21 0 0
def RM_X10_pickGivers : Room := { frames := 2, cells := 0, slots := 0, locals := 43 }
abbrev W_X10_pickGivers : List Nat := [21]
abbrev B_X10_pickGivers (HB : Heap) (D : va_G) (y : Nat → ClassId) (n : Nat) (κ : Nat → Nat) (σ0 : St) (q : Int32 × Grp) : Heap → Prop := fun H => ∃ σ : St, IV HB D y n n κ σ [] H ∧ σ 21 = q.2 ∧ ∀ j, j ∉ W_X10_pickGivers → σ j = σ0 j
set_option maxRecDepth 100000 in
set_option maxHeartbeats 4000000 in
theorem c_X10_pickGivers (l : Launch) (HB : Heap) (D : va_G) (y : Nat → ClassId) (F n : Nat) (κ : Nat → Nat) (σ0 : St) (hN : N0 ≤ n)  (G6 : Grp) (e6 : σ0 6 = G6) (G7 : Grp) (e7 : σ0 7 = G7) (G9 : Grp) (e9 : σ0 9 = G9) (G20 : Grp) (e20 : σ0 20 = G20) (G21 : Grp) (e21 : σ0 21 = G21) (q : Int32 × Grp) (h : f_X10_pickGivers F G6 G7 G9 G20 G21 = some q) : MT l HB D y yX10_pickGivers cX10_pickGivers 4 (some .int) RM_X10_pickGivers [.ref (HB.size + 78), .ref (HB.size + 32)] (IV HB D y n n κ σ0 []) (some (.int q.1)) (B_X10_pickGivers HB D y n κ σ0 q) := by
  refine Met.ofW (cc := cX10_pickGivers) (maxL := 4) (ret := (some .int)) (by decide) rfl ?_
  intro p e s m args below meth c s₁ BL hml hv
  obtain ⟨rfl, hI, hKK⟩ := hv
  have hx := BL.exec
  have hb := BL.bytes
  have hr := BL.returns
  have hts : ∀ w ∈ gtb, w.before _ s = true := fun w hw => atoms_spec BL.pre w (List.mem_cons_of_mem _ hw)
  have hml : c.maxLocals = 4 := hml
  have hown : s.vm.findClass RX10 = some m.cls := findClass_of_methodNamed BL.named
  have hlocks := BL.notSynchronized
  have hk0 := hI.1.2.2.2.2
  have hl := lv_entry ([.ref (HB.size + 78), .ref (HB.size + 32)]) (n := 4) (Nat.le_of_ble_eq_true rfl)
  rw [lg_entry_eq]
  generalize (lg_sl ([.ref (HB.size + 78), .ref (HB.size + 32)]) ++ List.replicate (4 - (lg_sl ([.ref (HB.size + 78), .ref (HB.size + 32)])).length) Slot.unset).toArray = ls at hl ⊢
  have hl : lv_has ls 4 [(0, .ref (HB.size + 78)), (1, .ref (HB.size + 32))] := hl
  generalize hargs : ([.ref (HB.size + 78), .ref (HB.size + 32)] : List Value).toArray = args at *
  have b4 : ∀ (fu : Nat) (σ : St) (H : Heap) (locs : List Loc) (ls : Array Slot) (G6 : Grp) (G7 : Grp) (G9 : Grp) (G20 : Grp) (G21 : Grp) (v2 : Int32) (v3 : Int32) , IV HB D y n n κ σ locs H → σ 6 = G6 → σ 7 = G7 → σ 9 = G9 → σ 20 = G20 → σ 21 = G21 → (∀ j, j ∉ W_X10_pickGivers → σ j = σ0 j) → lv_has ls 4 [(0, .ref (HB.size + 78)), (1, .ref (HB.size + 32)), (2, .int v2), (3, .int v3)] → f_X10_pickGivers_l4 F  fu G6 G7 G9 G20 G21 v2 v3 = some q → WX RM_X10_pickGivers p l e s m args below meth c HB (some (.int q.1)) (B_X10_pickGivers HB D y n κ σ0 q) H locs (F0 m 4 ls []) := by
    intro  fu
    induction fu with
    | zero =>
      intro σ H locs ls G6 G7 G9 G20 G21 v2 v3 hI e6 e7 e9 e20 e21 fr hl h
      exact absurd h (by intro h; cases h)
    | succ fu hk4 =>
      intro σ H locs ls G6 G7 G9 G20 G21 v2 v3 hI e6 e7 e9 e20 e21 fr hl h
      have h : f_X10_pickGivers_l4b F  (f_X10_pickGivers_l4 F  fu) G6 G7 G9 G20 G21 v2 v3 = some q := h
      generalize f_X10_pickGivers_l4 F  fu = k4 at h hk4
      unfold f_X10_pickGivers_l4b at h
      refine lv_iload_n hx hb dX10_pickGivers_4 rfl (lv_at hl 3 rfl) ?_
      refine lv_aload_n hx hb dX10_pickGivers_5 rfl (lv_at hl 1 rfl) ?_
      refine gt_X10_70 hx hb hts hown hKK hI e6 (lc32 hN) (kc32 hk0) dX10_pickGivers_6 ?_
      refine lv_icmp_ge (tgt := 51) hx hb dX10_pickGivers_9 (by decide) (fun hc => ?_) (fun hc => ?_)
      · replace h := ite_t hc h
        refine lv_iload_n hx hb dX10_pickGivers_51 rfl (lv_at hl 2 rfl) ?_
        have hq := Option.some.inj h
        exact W.iret (v := v2) hx hb hr (fun t ht hW => qc_mk (congrArg (fun z => Outcome.returned (some (Value.int z.1))) hq) (by rw [ht]; exact ⟨σ, hI.nil, e21.trans (congrArg (fun z => z.2) hq), fr⟩)) hI.2.2 dX10_pickGivers_52 hlocks
      · replace h := ite_f hc h
        refine lv_iload_n hx hb dX10_pickGivers_12 rfl (lv_at hl 2 rfl) ?_
        refine lv_bipush (v := 6) hx hb dX10_pickGivers_13 (by decide) ?_
        refine lv_icmp_ge (tgt := 51) hx hb dX10_pickGivers_15 (by decide) (fun hc => ?_) (fun hc => ?_)
        · replace h := ite_t hc h
          refine lv_iload_n hx hb dX10_pickGivers_51 rfl (lv_at hl 2 rfl) ?_
          have hq := Option.some.inj h
          exact W.iret (v := v2) hx hb hr (fun t ht hW => qc_mk (congrArg (fun z => Outcome.returned (some (Value.int z.1))) hq) (by rw [ht]; exact ⟨σ, hI.nil, e21.trans (congrArg (fun z => z.2) hq), fr⟩)) hI.2.2 dX10_pickGivers_52 hlocks
        · replace h := ite_f hc h
          refine lv_aload_n hx hb dX10_pickGivers_18 rfl (lv_at hl 0 rfl) ?_
          refine gf_X10_9 hx hb hts hown hKK hI hN dX10_pickGivers_19 ?_
          refine lv_iload_n hx hb dX10_pickGivers_22 rfl (lv_at hl 3 rfl) ?_
          obtain ⟨hin_, h⟩ := ck_e h
          refine la_38 hx hb hKK hI e20 (lc79 hN) (kc79 hk0) hin_ dX10_pickGivers_23 ?_
          refine lv_if_eq (tgt := 45) hx hb dX10_pickGivers_24 (by decide) (fun hc => ?_) (fun hc => ?_)
          · replace h := ite_t hc h
            obtain ⟨v3_45, qq, h⟩ := bn_e h
            refine lv_iinc (v := v3_45) (lv' := [(3, .int v3_45), (0, .ref (HB.size + 78)), (1, .ref (HB.size + 32)), (2, .int v2)]) hx hb dX10_pickGivers_45 hl (k := 3) rfl (by rw [qq]; rfl) (by decide) rfl (fun ls hl => ?_)
            refine lv_goto (tgt := 4) hx hb dX10_pickGivers_48 (by decide) ?_
            exact hk4 σ H locs ls G6 G7 G9 G20 G21 v2 v3_45  hI e6 e7 e9 e20 e21 fr (lv_sub hl [1, 2, 3, 0] rfl) h
          · replace h := ite_f hc h
            refine lv_aload_n hx hb dX10_pickGivers_27 rfl (lv_at hl 1 rfl) ?_
            refine lv_iload_n hx hb dX10_pickGivers_28 rfl (lv_at hl 3 rfl) ?_
            obtain ⟨q_29, hq_29, h⟩ := ob_e h
            refine r_callV (As := [.int v3]) (rest := []) hx hb hml hts hown (c_X3_hasRoom l HB D y F n κ σ hN v3 G7 e7 G9 e9 q_29 hq_29) cal_X3_hasRoom im_X3_hasRoom se_X3_hasRoom lm_X10_73 ⟨Nat.le_of_ble_eq_true rfl, Nat.le_of_ble_eq_true rfl⟩ hI.nil hKK (r_recv hKK hI (hE3 HB.size y) rfl (lc32 hN) (kc32 hk0)) rfl hl.1 hI.2.2 rfl (Nat.le_of_ble_eq_true rfl) dX10_pickGivers_29 ⟨Nat.le_of_ble_eq_true rfl, Nat.le_of_ble_eq_true rfl⟩ rfl rfl rfl (fun H locs hB hlo => ?_)
            have hI := hB.re hlo
            refine lv_if_eq (tgt := 45) hx hb dX10_pickGivers_32 (by decide) (fun hc => ?_) (fun hc => ?_)
            · replace h := ite_t hc h
              obtain ⟨v3_45, qq, h⟩ := bn_e h
              refine lv_iinc (v := v3_45) (lv' := [(3, .int v3_45), (0, .ref (HB.size + 78)), (1, .ref (HB.size + 32)), (2, .int v2)]) hx hb dX10_pickGivers_45 hl (k := 3) rfl (by rw [qq]; rfl) (by decide) rfl (fun ls hl => ?_)
              refine lv_goto (tgt := 4) hx hb dX10_pickGivers_48 (by decide) ?_
              exact hk4 σ H locs ls G6 G7 G9 G20 G21 v2 v3_45  hI e6 e7 e9 e20 e21 fr (lv_sub hl [1, 2, 3, 0] rfl) h
            · replace h := ite_f hc h
              refine lv_aload_n hx hb dX10_pickGivers_35 rfl (lv_at hl 0 rfl) ?_
              refine gf_X10_22 hx hb hts hown hKK hI hN dX10_pickGivers_36 ?_
              refine lv_iload_n hx hb dX10_pickGivers_39 rfl (lv_at hl 2 rfl) ?_
              refine lv_iload_n hx hb dX10_pickGivers_40 rfl (lv_at hl 3 rfl) ?_
              obtain ⟨hin_, h⟩ := ck_e h
              obtain ⟨G21_41, qq, h⟩ := bn_e h
              refine sa_40 hx hb hKK hI e21 (lc82 hN) (kc82 hk0) hin_ dX10_pickGivers_41 (fun σ H locs hI ew ho => ?_)
              have e21 := ew.trans qq.symm
              have e6 := (ho 6 (nn rfl)).trans e6
              have e7 := (ho 7 (nn rfl)).trans e7
              have e9 := (ho 9 (nn rfl)).trans e9
              have e20 := (ho 20 (nn rfl)).trans e20
              have fr := frs fr ho (by decide)
              obtain ⟨v2_42, qq, h⟩ := bn_e h
              refine lv_iinc (v := v2_42) (lv' := [(2, .int v2_42), (0, .ref (HB.size + 78)), (1, .ref (HB.size + 32)), (3, .int v3)]) hx hb dX10_pickGivers_42 hl (k := 2) rfl (by rw [qq]; rfl) (by decide) rfl (fun ls hl => ?_)
              obtain ⟨v3_45, qq, h⟩ := bn_e h
              refine lv_iinc (v := v3_45) (lv' := [(3, .int v3_45), (2, .int v2_42), (0, .ref (HB.size + 78)), (1, .ref (HB.size + 32))]) hx hb dX10_pickGivers_45 hl (k := 3) rfl (by rw [qq]; rfl) (by decide) rfl (fun ls hl => ?_)
              refine lv_goto (tgt := 4) hx hb dX10_pickGivers_48 (by decide) ?_
              exact hk4 σ H locs ls G6 G7 G9 G20 G21_41 v2_42 v3_45  hI e6 e7 e9 e20 e21 fr (lv_sub hl [2, 3, 1, 0] rfl) h
  obtain ⟨σ, hI, e6, e7, e9, e20, e21, fr⟩ : ∃ σ : St, IV HB D y n n κ σ [] s.heap ∧ σ 6 = G6 ∧ σ 7 = G7 ∧ σ 9 = G9 ∧ σ 20 = G20 ∧ σ 21 = G21 ∧ ∀ j, j ∉ W_X10_pickGivers → σ j = σ0 j := ⟨σ0, hI, e6, e7, e9, e20, e21, fun _ _ => rfl⟩
  show WX RM_X10_pickGivers p l e s m args below meth c HB (some (.int q.1)) (B_X10_pickGivers HB D y n κ σ0 q) s.heap [] (F0 m 0 ls [])
  generalize s.heap = H at hI ⊢
  unfold f_X10_pickGivers at h
  obtain ⟨locs, hlocs⟩ : ∃ x : List Loc, x = [] := ⟨_, rfl⟩
  rw [← hlocs] at hI ⊢
  refine lv_iconst (v := 0) hx hb dX10_pickGivers_0 (by decide) ?_
  refine lv_istore_n (lv' := [(2, .int 0), (0, .ref (HB.size + 78)), (1, .ref (HB.size + 32))]) hx hb dX10_pickGivers_1 rfl hl (by decide) rfl (fun ls hl => ?_)
  refine lv_iconst (v := 0) hx hb dX10_pickGivers_2 (by decide) ?_
  refine lv_istore_n (lv' := [(3, .int 0), (2, .int 0), (0, .ref (HB.size + 78)), (1, .ref (HB.size + 32))]) hx hb dX10_pickGivers_3 rfl hl (by decide) rfl (fun ls hl => ?_)
  exact b4  F σ H locs ls G6 G7 G9 G20 G21 0 0  hI e6 e7 e9 e20 e21 fr (lv_sub hl [2, 3, 1, 0] rfl) h
noncomputable def f_X10_pickChildren_l5b (F : Nat)  (k5 : Grp → Grp → Grp → Grp → Grp → Int32 → Int32 → Int32 → Option (Int32 × Grp)) (G6 : Grp) (G7 : Grp) (G8 : Grp) (G9 : Grp) (G21 : Grp) (v2 : Int32) (v3 : Int32) (v4 : Int32) : Option (Int32 × Grp) :=
  if (G6.1 32 5) ≤ v4 then some (v3, G21) else if 6 ≤ v3 then some (v3, G21) else ob (f_X3_isFree F G6 G7 G8 G9 v4 v2) (fun q_24 => if q_24 = 0 then bn (v4 + 1) (fun v4_41 => k5 G6 G7 G8 G9 G21 v2 v3 v4_41) else ck v3 6 (bn (gI G21 83 v3.toNatClampNeg v4) (fun G21_37 => bn (v3 + 1) (fun v3_38 => bn (v4 + 1) (fun v4_41 => k5 G6 G7 G8 G9 G21_37 v2 v3_38 v4_41)))))
noncomputable def f_X10_pickChildren_l5 (F : Nat)  (fu : Nat) : Grp → Grp → Grp → Grp → Grp → Int32 → Int32 → Int32 → Option (Int32 × Grp) := Nat.rec (motive := fun _ => Grp → Grp → Grp → Grp → Grp → Int32 → Int32 → Int32 → Option (Int32 × Grp)) (fun _ _ _ _ _ _ _ _ => none) (fun _ ih => f_X10_pickChildren_l5b F  ih) fu
noncomputable def f_X10_pickChildren (F : Nat) (G6 : Grp) (G7 : Grp) (G8 : Grp) (G9 : Grp) (G21 : Grp) (v2 : Int32) : Option (Int32 × Grp) :=
  f_X10_pickChildren_l5 F  F G6 G7 G8 G9 G21 v2 0 0
def RM_X10_pickChildren : Room := { frames := 3, cells := 0, slots := 0, locals := 65 }
abbrev W_X10_pickChildren : List Nat := [21]
abbrev B_X10_pickChildren (HB : Heap) (D : va_G) (y : Nat → ClassId) (n : Nat) (κ : Nat → Nat) (σ0 : St) (q : Int32 × Grp) : Heap → Prop := fun H => ∃ σ : St, IV HB D y n n κ σ [] H ∧ σ 21 = q.2 ∧ ∀ j, j ∉ W_X10_pickChildren → σ j = σ0 j
set_option maxRecDepth 100000 in
set_option maxHeartbeats 4000000 in
theorem c_X10_pickChildren (l : Launch) (HB : Heap) (D : va_G) (y : Nat → ClassId) (F n : Nat) (κ : Nat → Nat) (σ0 : St) (hN : N0 ≤ n) (v2 : Int32)  (G6 : Grp) (e6 : σ0 6 = G6) (G7 : Grp) (e7 : σ0 7 = G7) (G8 : Grp) (e8 : σ0 8 = G8) (G9 : Grp) (e9 : σ0 9 = G9) (G21 : Grp) (e21 : σ0 21 = G21) (q : Int32 × Grp) (h : f_X10_pickChildren F G6 G7 G8 G9 G21 v2 = some q) : MT l HB D y yX10_pickChildren cX10_pickChildren 5 (some .int) RM_X10_pickChildren [.ref (HB.size + 78), .ref (HB.size + 32), .int v2] (IV HB D y n n κ σ0 []) (some (.int q.1)) (B_X10_pickChildren HB D y n κ σ0 q) := by
  refine Met.ofW (cc := cX10_pickChildren) (maxL := 5) (ret := (some .int)) (by decide) rfl ?_
  intro p e s m args below meth c s₁ BL hml hv
  obtain ⟨rfl, hI, hKK⟩ := hv
  have hx := BL.exec
  have hb := BL.bytes
  have hr := BL.returns
  have hts : ∀ w ∈ gtb, w.before _ s = true := fun w hw => atoms_spec BL.pre w (List.mem_cons_of_mem _ hw)
  have hml : c.maxLocals = 5 := hml
  have hown : s.vm.findClass RX10 = some m.cls := findClass_of_methodNamed BL.named
  have hlocks := BL.notSynchronized
  have hk0 := hI.1.2.2.2.2
  have hl := lv_entry ([.ref (HB.size + 78), .ref (HB.size + 32), .int v2]) (n := 5) (Nat.le_of_ble_eq_true rfl)
  rw [lg_entry_eq]
  generalize (lg_sl ([.ref (HB.size + 78), .ref (HB.size + 32), .int v2]) ++ List.replicate (5 - (lg_sl ([.ref (HB.size + 78), .ref (HB.size + 32), .int v2])).length) Slot.unset).toArray = ls at hl ⊢
  have hl : lv_has ls 5 [(0, .ref (HB.size + 78)), (1, .ref (HB.size + 32)), (2, .int v2)] := hl
  generalize hargs : ([.ref (HB.size + 78), .ref (HB.size + 32), .int v2] : List Value).toArray = args at *
  have b5 : ∀ (fu : Nat) (σ : St) (H : Heap) (locs : List Loc) (ls : Array Slot) (G6 : Grp) (G7 : Grp) (G8 : Grp) (G9 : Grp) (G21 : Grp) (v2 : Int32) (v3 : Int32) (v4 : Int32) , IV HB D y n n κ σ locs H → σ 6 = G6 → σ 7 = G7 → σ 8 = G8 → σ 9 = G9 → σ 21 = G21 → (∀ j, j ∉ W_X10_pickChildren → σ j = σ0 j) → lv_has ls 5 [(0, .ref (HB.size + 78)), (1, .ref (HB.size + 32)), (2, .int v2), (3, .int v3), (4, .int v4)] → f_X10_pickChildren_l5 F  fu G6 G7 G8 G9 G21 v2 v3 v4 = some q → WX RM_X10_pickChildren p l e s m args below meth c HB (some (.int q.1)) (B_X10_pickChildren HB D y n κ σ0 q) H locs (F0 m 5 ls []) := by
    intro  fu
    induction fu with
    | zero =>
      intro σ H locs ls G6 G7 G8 G9 G21 v2 v3 v4 hI e6 e7 e8 e9 e21 fr hl h
      exact absurd h (by intro h; cases h)
    | succ fu hk5 =>
      intro σ H locs ls G6 G7 G8 G9 G21 v2 v3 v4 hI e6 e7 e8 e9 e21 fr hl h
      have h : f_X10_pickChildren_l5b F  (f_X10_pickChildren_l5 F  fu) G6 G7 G8 G9 G21 v2 v3 v4 = some q := h
      generalize f_X10_pickChildren_l5 F  fu = k5 at h hk5
      unfold f_X10_pickChildren_l5b at h
      refine lv_iload hx hb dX10_pickChildren_5 (lv_at hl 4 rfl) ?_
      refine lv_aload_n hx hb dX10_pickChildren_7 rfl (lv_at hl 1 rfl) ?_
      refine gt_X10_77 hx hb hts hown hKK hI e6 (lc32 hN) (kc32 hk0) dX10_pickChildren_8 ?_
      refine lv_icmp_ge (tgt := 47) hx hb dX10_pickChildren_11 (by decide) (fun hc => ?_) (fun hc => ?_)
      · replace h := ite_t hc h
        refine lv_iload_n hx hb dX10_pickChildren_47 rfl (lv_at hl 3 rfl) ?_
        have hq := Option.some.inj h
        exact W.iret (v := v3) hx hb hr (fun t ht hW => qc_mk (congrArg (fun z => Outcome.returned (some (Value.int z.1))) hq) (by rw [ht]; exact ⟨σ, hI.nil, e21.trans (congrArg (fun z => z.2) hq), fr⟩)) hI.2.2 dX10_pickChildren_48 hlocks
      · replace h := ite_f hc h
        refine lv_iload_n hx hb dX10_pickChildren_14 rfl (lv_at hl 3 rfl) ?_
        refine lv_bipush (v := 6) hx hb dX10_pickChildren_15 (by decide) ?_
        refine lv_icmp_ge (tgt := 47) hx hb dX10_pickChildren_17 (by decide) (fun hc => ?_) (fun hc => ?_)
        · replace h := ite_t hc h
          refine lv_iload_n hx hb dX10_pickChildren_47 rfl (lv_at hl 3 rfl) ?_
          have hq := Option.some.inj h
          exact W.iret (v := v3) hx hb hr (fun t ht hW => qc_mk (congrArg (fun z => Outcome.returned (some (Value.int z.1))) hq) (by rw [ht]; exact ⟨σ, hI.nil, e21.trans (congrArg (fun z => z.2) hq), fr⟩)) hI.2.2 dX10_pickChildren_48 hlocks
        · replace h := ite_f hc h
          refine lv_aload_n hx hb dX10_pickChildren_20 rfl (lv_at hl 1 rfl) ?_
          refine lv_iload hx hb dX10_pickChildren_21 (lv_at hl 4 rfl) ?_
          refine lv_iload_n hx hb dX10_pickChildren_23 rfl (lv_at hl 2 rfl) ?_
          obtain ⟨q_24, hq_24, h⟩ := ob_e h
          refine r_callV (As := [.int v4, .int v2]) (rest := []) hx hb hml hts hown (c_X3_isFree l HB D y F n κ σ hN v4 v2 G6 e6 G7 e7 G8 e8 G9 e9 q_24 hq_24) cal_X3_isFree im_X3_isFree se_X3_isFree lm_X10_79 ⟨Nat.le_of_ble_eq_true rfl, Nat.le_of_ble_eq_true rfl⟩ hI.nil hKK (r_recv hKK hI (hE3 HB.size y) rfl (lc32 hN) (kc32 hk0)) rfl hl.1 hI.2.2 rfl (Nat.le_of_ble_eq_true rfl) dX10_pickChildren_24 ⟨Nat.le_of_ble_eq_true rfl, Nat.le_of_ble_eq_true rfl⟩ rfl rfl rfl (fun H locs hB hlo => ?_)
          have hI := hB.re hlo
          refine lv_if_eq (tgt := 41) hx hb dX10_pickChildren_27 (by decide) (fun hc => ?_) (fun hc => ?_)
          · replace h := ite_t hc h
            obtain ⟨v4_41, qq, h⟩ := bn_e h
            refine lv_iinc (v := v4_41) (lv' := [(4, .int v4_41), (0, .ref (HB.size + 78)), (1, .ref (HB.size + 32)), (2, .int v2), (3, .int v3)]) hx hb dX10_pickChildren_41 hl (k := 4) rfl (by rw [qq]; rfl) (by decide) rfl (fun ls hl => ?_)
            refine lv_goto (tgt := 5) hx hb dX10_pickChildren_44 (by decide) ?_
            exact hk5 σ H locs ls G6 G7 G8 G9 G21 v2 v3 v4_41  hI e6 e7 e8 e9 e21 fr (lv_sub hl [1, 2, 3, 4, 0] rfl) h
          · replace h := ite_f hc h
            refine lv_aload_n hx hb dX10_pickChildren_30 rfl (lv_at hl 0 rfl) ?_
            refine gf_X10_25 hx hb hts hown hKK hI hN dX10_pickChildren_31 ?_
            refine lv_iload_n hx hb dX10_pickChildren_34 rfl (lv_at hl 3 rfl) ?_
            refine lv_iload hx hb dX10_pickChildren_35 (lv_at hl 4 rfl) ?_
            obtain ⟨hin_, h⟩ := ck_e h
            obtain ⟨G21_37, qq, h⟩ := bn_e h
            refine sa_40 hx hb hKK hI e21 (lc83 hN) (kc83 hk0) hin_ dX10_pickChildren_37 (fun σ H locs hI ew ho => ?_)
            have e21 := ew.trans qq.symm
            have e6 := (ho 6 (nn rfl)).trans e6
            have e7 := (ho 7 (nn rfl)).trans e7
            have e8 := (ho 8 (nn rfl)).trans e8
            have e9 := (ho 9 (nn rfl)).trans e9
            have fr := frs fr ho (by decide)
            obtain ⟨v3_38, qq, h⟩ := bn_e h
            refine lv_iinc (v := v3_38) (lv' := [(3, .int v3_38), (0, .ref (HB.size + 78)), (1, .ref (HB.size + 32)), (2, .int v2), (4, .int v4)]) hx hb dX10_pickChildren_38 hl (k := 3) rfl (by rw [qq]; rfl) (by decide) rfl (fun ls hl => ?_)
            obtain ⟨v4_41, qq, h⟩ := bn_e h
            refine lv_iinc (v := v4_41) (lv' := [(4, .int v4_41), (3, .int v3_38), (0, .ref (HB.size + 78)), (1, .ref (HB.size + 32)), (2, .int v2)]) hx hb dX10_pickChildren_41 hl (k := 4) rfl (by rw [qq]; rfl) (by decide) rfl (fun ls hl => ?_)
            refine lv_goto (tgt := 5) hx hb dX10_pickChildren_44 (by decide) ?_
            exact hk5 σ H locs ls G6 G7 G8 G9 G21_37 v2 v3_38 v4_41  hI e6 e7 e8 e9 e21 fr (lv_sub hl [2, 3, 4, 1, 0] rfl) h
  obtain ⟨σ, hI, e6, e7, e8, e9, e21, fr⟩ : ∃ σ : St, IV HB D y n n κ σ [] s.heap ∧ σ 6 = G6 ∧ σ 7 = G7 ∧ σ 8 = G8 ∧ σ 9 = G9 ∧ σ 21 = G21 ∧ ∀ j, j ∉ W_X10_pickChildren → σ j = σ0 j := ⟨σ0, hI, e6, e7, e8, e9, e21, fun _ _ => rfl⟩
  show WX RM_X10_pickChildren p l e s m args below meth c HB (some (.int q.1)) (B_X10_pickChildren HB D y n κ σ0 q) s.heap [] (F0 m 0 ls [])
  generalize s.heap = H at hI ⊢
  unfold f_X10_pickChildren at h
  obtain ⟨locs, hlocs⟩ : ∃ x : List Loc, x = [] := ⟨_, rfl⟩
  rw [← hlocs] at hI ⊢
  refine lv_iconst (v := 0) hx hb dX10_pickChildren_0 (by decide) ?_
  refine lv_istore_n (lv' := [(3, .int 0), (0, .ref (HB.size + 78)), (1, .ref (HB.size + 32)), (2, .int v2)]) hx hb dX10_pickChildren_1 rfl hl (by decide) rfl (fun ls hl => ?_)
  refine lv_iconst (v := 0) hx hb dX10_pickChildren_2 (by decide) ?_
  refine lv_istore (lv' := [(4, .int 0), (3, .int 0), (0, .ref (HB.size + 78)), (1, .ref (HB.size + 32)), (2, .int v2)]) hx hb dX10_pickChildren_3 hl (by decide) rfl (fun ls hl => ?_)
  exact b5  F σ H locs ls G6 G7 G8 G9 G21 v2 0 0  hI e6 e7 e8 e9 e21 fr (lv_sub hl [2, 3, 4, 1, 0] rfl) h
noncomputable def f_X10_pointsOf_b81 (F : Nat)  (G6 : Grp) (G7 : Grp) (G9 : Grp) (G20 : Grp) (v2 : Int32) (v3 : Int32) (s0 : Int32) (s1 : Int32) : Option (Int32) :=
  bn ((s0 + s1)) (fun v4_82 => ob (f_X3_hasSiblingOf F G6 G7 G9 v2 v3) (fun q_89 => if q_89 = 0 then bn ((v4_82 + 0)) (fun v4_101 => some v4_101) else bn ((v4_82 + 4)) (fun v4_101 => some v4_101)))
noncomputable def f_X10_pointsOf_b56 (F : Nat)  (G6 : Grp) (G7 : Grp) (G9 : Grp) (G20 : Grp) (v2 : Int32) (v3 : Int32) (s0 : Int32) (s1 : Int32) : Option (Int32) :=
  bn ((s0 + s1)) (fun v4_57 => ck v2 16 (ck v3 16 (if (G6.1 35 v2.toNatClampNeg) = (G6.1 37 v3.toNatClampNeg) then f_X10_pointsOf_b81 F  G6 G7 G9 G20 v2 v3 v4_57 2 else f_X10_pointsOf_b81 F  G6 G7 G9 G20 v2 v3 v4_57 0)))
noncomputable def f_X10_pointsOf_b28 (F : Nat)  (G6 : Grp) (G7 : Grp) (G9 : Grp) (G20 : Grp) (v2 : Int32) (v3 : Int32) (s0 : Int32) (s1 : Int32) : Option (Int32) :=
  bn ((s0 + s1)) (fun v4_29 => ck v2 16 (ck v3 16 (if (((G20.1 81 v2.toNatClampNeg) >>> ((G6.1 36 v3.toNatClampNeg) &&& 31)) &&& 1) = 0 then f_X10_pointsOf_b56 F  G6 G7 G9 G20 v2 v3 v4_29 0 else f_X10_pointsOf_b56 F  G6 G7 G9 G20 v2 v3 v4_29 1)))
noncomputable def f_X10_pointsOf (F : Nat) (G6 : Grp) (G7 : Grp) (G9 : Grp) (G20 : Grp) (v2 : Int32) (v3 : Int32) : Option (Int32) :=
  ck v2 16 (ck v3 16 (if (((G20.1 80 v2.toNatClampNeg) >>> ((G6.1 38 v3.toNatClampNeg) &&& 31)) &&& 1) = 0 then f_X10_pointsOf_b28 F  G6 G7 G9 G20 v2 v3 0 0 else f_X10_pointsOf_b28 F  G6 G7 G9 G20 v2 v3 0 3))
def RM_X10_pointsOf : Room := { frames := 4, cells := 0, slots := 0, locals := 88 }
abbrev B_X10_pointsOf (HB : Heap) (D : va_G) (y : Nat → ClassId) (n : Nat) (κ : Nat → Nat) (σ : St) (q : Int32) : Heap → Prop := fun H => IV HB D y n n κ σ [] H
set_option maxRecDepth 100000 in
set_option maxHeartbeats 4000000 in
theorem c_X10_pointsOf (l : Launch) (HB : Heap) (D : va_G) (y : Nat → ClassId) (F n : Nat) (κ : Nat → Nat) (σ : St) (hN : N0 ≤ n) (v2 : Int32)  (v3 : Int32)  (G6 : Grp) (e6 : σ 6 = G6) (G7 : Grp) (e7 : σ 7 = G7) (G9 : Grp) (e9 : σ 9 = G9) (G20 : Grp) (e20 : σ 20 = G20) (q : Int32) (h : f_X10_pointsOf F G6 G7 G9 G20 v2 v3 = some q) : MT l HB D y yX10_pointsOf cX10_pointsOf 5 (some .int) RM_X10_pointsOf [.ref (HB.size + 78), .ref (HB.size + 32), .int v2, .int v3] (IV HB D y n n κ σ []) (some (.int q)) (B_X10_pointsOf HB D y n κ σ q) := by
  refine Met.ofW (cc := cX10_pointsOf) (maxL := 5) (ret := (some .int)) (by decide) rfl ?_
  intro p e s m args below meth c s₁ BL hml hv
  obtain ⟨rfl, hI, hKK⟩ := hv
  have hx := BL.exec
  have hb := BL.bytes
  have hr := BL.returns
  have hts : ∀ w ∈ gtb, w.before _ s = true := fun w hw => atoms_spec BL.pre w (List.mem_cons_of_mem _ hw)
  have hml : c.maxLocals = 5 := hml
  have hown : s.vm.findClass RX10 = some m.cls := findClass_of_methodNamed BL.named
  have hlocks := BL.notSynchronized
  have hk0 := hI.1.2.2.2.2
  have hl := lv_entry ([.ref (HB.size + 78), .ref (HB.size + 32), .int v2, .int v3]) (n := 5) (Nat.le_of_ble_eq_true rfl)
  rw [lg_entry_eq]
  generalize (lg_sl ([.ref (HB.size + 78), .ref (HB.size + 32), .int v2, .int v3]) ++ List.replicate (5 - (lg_sl ([.ref (HB.size + 78), .ref (HB.size + 32), .int v2, .int v3])).length) Slot.unset).toArray = ls at hl ⊢
  have hl : lv_has ls 5 [(0, .ref (HB.size + 78)), (1, .ref (HB.size + 32)), (2, .int v2), (3, .int v3)] := hl
  generalize hargs : ([.ref (HB.size + 78), .ref (HB.size + 32), .int v2, .int v3] : List Value).toArray = args at *
  have b81 : ∀ (H : Heap) (locs : List Loc) (ls : Array Slot) (G6 : Grp) (G7 : Grp) (G9 : Grp) (G20 : Grp) (v2 : Int32) (v3 : Int32) (s0 : Int32) (s1 : Int32) , IV HB D y n n κ σ locs H → σ 6 = G6 → σ 7 = G7 → σ 9 = G9 → σ 20 = G20 → lv_has ls 5 [(1, .ref (HB.size + 32)), (2, .int v2), (3, .int v3)] → f_X10_pointsOf_b81 F  G6 G7 G9 G20 v2 v3 s0 s1 = some q → WX RM_X10_pointsOf p l e s m args below meth c HB (some (.int q)) (B_X10_pointsOf HB D y n κ σ q) H locs (F0 m 81 ls [.int s1, .int s0]) := by
    intro  H locs ls G6 G7 G9 G20 v2 v3 s0 s1 hI e6 e7 e9 e20 hl h
    unfold f_X10_pointsOf_b81 at h
    refine lv_iadd hx hb dX10_pointsOf_81 ?_
    obtain ⟨v4_82, qq, h⟩ := bn_e h
    refine topi qq ?_
    refine lv_istore (lv' := [(4, .int v4_82), (1, .ref (HB.size + 32)), (2, .int v2), (3, .int v3)]) hx hb dX10_pointsOf_82 hl (by decide) rfl (fun ls hl => ?_)
    refine lv_iload hx hb dX10_pointsOf_84 (lv_at hl 0 rfl) ?_
    refine lv_aload_n hx hb dX10_pointsOf_86 rfl (lv_at hl 1 rfl) ?_
    refine lv_iload_n hx hb dX10_pointsOf_87 rfl (lv_at hl 2 rfl) ?_
    refine lv_iload_n hx hb dX10_pointsOf_88 rfl (lv_at hl 3 rfl) ?_
    obtain ⟨q_89, hq_89, h⟩ := ob_e h
    refine r_callV (As := [.int v2, .int v3]) (rest := [.int v4_82]) hx hb hml hts hown (c_X3_hasSiblingOf l HB D y F n κ σ hN v2 v3 G6 e6 G7 e7 G9 e9 q_89 hq_89) cal_X3_hasSiblingOf im_X3_hasSiblingOf se_X3_hasSiblingOf lm_X10_95 ⟨Nat.le_of_ble_eq_true rfl, Nat.le_of_ble_eq_true rfl⟩ hI.nil hKK (r_recv hKK hI (hE3 HB.size y) rfl (lc32 hN) (kc32 hk0)) rfl hl.1 hI.2.2 rfl (Nat.le_of_ble_eq_true rfl) dX10_pointsOf_89 ⟨Nat.le_of_ble_eq_true rfl, Nat.le_of_ble_eq_true rfl⟩ rfl rfl rfl (fun H locs hB hlo => ?_)
    have hI := hB.re hlo
    refine lv_if_eq (tgt := 99) hx hb dX10_pointsOf_92 (by decide) (fun hc => ?_) (fun hc => ?_)
    · replace h := ite_t hc h
      refine lv_iconst (v := 0) hx hb dX10_pointsOf_99 (by decide) ?_
      refine lv_iadd hx hb dX10_pointsOf_100 ?_
      obtain ⟨v4_101, qq, h⟩ := bn_e h
      refine topi qq ?_
      refine lv_istore (lv' := [(4, .int v4_101), (1, .ref (HB.size + 32)), (2, .int v2), (3, .int v3)]) hx hb dX10_pointsOf_101 hl (by decide) rfl (fun ls hl => ?_)
      refine lv_iload hx hb dX10_pointsOf_103 (lv_at hl 0 rfl) ?_
      have hq := Option.some.inj h
      exact W.iret (v := v4_101) hx hb hr (fun t ht hW => qc_mk (congrArg (fun z => Outcome.returned (some (Value.int z))) hq) (by rw [ht]; exact hI.nil)) hI.2.2 dX10_pointsOf_105 hlocks
    · replace h := ite_f hc h
      refine lv_iconst (v := 4) hx hb dX10_pointsOf_95 (by decide) ?_
      refine lv_goto (tgt := 100) hx hb dX10_pointsOf_96 (by decide) ?_
      refine lv_iadd hx hb dX10_pointsOf_100 ?_
      obtain ⟨v4_101, qq, h⟩ := bn_e h
      refine topi qq ?_
      refine lv_istore (lv' := [(4, .int v4_101), (1, .ref (HB.size + 32)), (2, .int v2), (3, .int v3)]) hx hb dX10_pointsOf_101 hl (by decide) rfl (fun ls hl => ?_)
      refine lv_iload hx hb dX10_pointsOf_103 (lv_at hl 0 rfl) ?_
      have hq := Option.some.inj h
      exact W.iret (v := v4_101) hx hb hr (fun t ht hW => qc_mk (congrArg (fun z => Outcome.returned (some (Value.int z))) hq) (by rw [ht]; exact hI.nil)) hI.2.2 dX10_pointsOf_105 hlocks
  have b56 : ∀ (H : Heap) (locs : List Loc) (ls : Array Slot) (G6 : Grp) (G7 : Grp) (G9 : Grp) (G20 : Grp) (v2 : Int32) (v3 : Int32) (s0 : Int32) (s1 : Int32) , IV HB D y n n κ σ locs H → σ 6 = G6 → σ 7 = G7 → σ 9 = G9 → σ 20 = G20 → lv_has ls 5 [(1, .ref (HB.size + 32)), (2, .int v2), (3, .int v3)] → f_X10_pointsOf_b56 F  G6 G7 G9 G20 v2 v3 s0 s1 = some q → WX RM_X10_pointsOf p l e s m args below meth c HB (some (.int q)) (B_X10_pointsOf HB D y n κ σ q) H locs (F0 m 56 ls [.int s1, .int s0]) := by
    intro  H locs ls G6 G7 G9 G20 v2 v3 s0 s1 hI e6 e7 e9 e20 hl h
    unfold f_X10_pointsOf_b56 at h
    refine lv_iadd hx hb dX10_pointsOf_56 ?_
    obtain ⟨v4_57, qq, h⟩ := bn_e h
    refine topi qq ?_
    refine lv_istore (lv' := [(4, .int v4_57), (1, .ref (HB.size + 32)), (2, .int v2), (3, .int v3)]) hx hb dX10_pointsOf_57 hl (by decide) rfl (fun ls hl => ?_)
    refine lv_iload hx hb dX10_pointsOf_59 (lv_at hl 0 rfl) ?_
    refine lv_aload_n hx hb dX10_pointsOf_61 rfl (lv_at hl 1 rfl) ?_
    refine gf_X10_89 hx hb hts hown hKK hI hN dX10_pointsOf_62 ?_
    refine lv_iload_n hx hb dX10_pointsOf_65 rfl (lv_at hl 2 rfl) ?_
    obtain ⟨hin_, h⟩ := ck_e h
    refine la_21 hx hb hKK hI e6 (lc35 hN) (kc35 hk0) hin_ dX10_pointsOf_66 ?_
    refine lv_aload_n hx hb dX10_pointsOf_67 rfl (lv_at hl 1 rfl) ?_
    refine gf_X10_92 hx hb hts hown hKK hI hN dX10_pointsOf_68 ?_
    refine lv_iload_n hx hb dX10_pointsOf_71 rfl (lv_at hl 3 rfl) ?_
    obtain ⟨hin_, h⟩ := ck_e h
    refine la_21 hx hb hKK hI e6 (lc37 hN) (kc37 hk0) hin_ dX10_pointsOf_72 ?_
    refine lv_icmp_ne (tgt := 80) hx hb dX10_pointsOf_73 (by decide) (fun hc => ?_) (fun hc => ?_)
    · replace h := ite_f hc h
      refine lv_iconst (v := 0) hx hb dX10_pointsOf_80 (by decide) ?_
      exact b81  H locs ls G6 G7 G9 G20 v2 v3 v4_57 0  hI e6 e7 e9 e20 (lv_sub hl [1, 2, 3] rfl) h
    · replace h := ite_t hc h
      refine lv_iconst (v := 2) hx hb dX10_pointsOf_76 (by decide) ?_
      refine lv_goto (tgt := 81) hx hb dX10_pointsOf_77 (by decide) ?_
      exact b81  H locs ls G6 G7 G9 G20 v2 v3 v4_57 2  hI e6 e7 e9 e20 (lv_sub hl [1, 2, 3] rfl) h
  have b28 : ∀ (H : Heap) (locs : List Loc) (ls : Array Slot) (G6 : Grp) (G7 : Grp) (G9 : Grp) (G20 : Grp) (v2 : Int32) (v3 : Int32) (s0 : Int32) (s1 : Int32) , IV HB D y n n κ σ locs H → σ 6 = G6 → σ 7 = G7 → σ 9 = G9 → σ 20 = G20 → lv_has ls 5 [(0, .ref (HB.size + 78)), (1, .ref (HB.size + 32)), (2, .int v2), (3, .int v3)] → f_X10_pointsOf_b28 F  G6 G7 G9 G20 v2 v3 s0 s1 = some q → WX RM_X10_pointsOf p l e s m args below meth c HB (some (.int q)) (B_X10_pointsOf HB D y n κ σ q) H locs (F0 m 28 ls [.int s1, .int s0]) := by
    intro  H locs ls G6 G7 G9 G20 v2 v3 s0 s1 hI e6 e7 e9 e20 hl h
    unfold f_X10_pointsOf_b28 at h
    refine lv_iadd hx hb dX10_pointsOf_28 ?_
    obtain ⟨v4_29, qq, h⟩ := bn_e h
    refine topi qq ?_
    refine lv_istore (lv' := [(4, .int v4_29), (0, .ref (HB.size + 78)), (1, .ref (HB.size + 32)), (2, .int v2), (3, .int v3)]) hx hb dX10_pointsOf_29 hl (by decide) rfl (fun ls hl => ?_)
    refine lv_iload hx hb dX10_pointsOf_31 (lv_at hl 0 rfl) ?_
    refine lv_aload_n hx hb dX10_pointsOf_33 rfl (lv_at hl 1 rfl) ?_
    refine gf_X10_19 hx hb hts hown hKK hI hN dX10_pointsOf_34 ?_
    refine lv_iload_n hx hb dX10_pointsOf_37 rfl (lv_at hl 3 rfl) ?_
    obtain ⟨hin_, h⟩ := ck_e h
    refine la_39 hx hb hKK hI e20 (lc81 hN) (kc81 hk0) hin_ dX10_pointsOf_38 ?_
    refine lv_aload_n hx hb dX10_pointsOf_39 rfl (lv_at hl 2 rfl) ?_
    refine gf_X10_86 hx hb hts hown hKK hI hN dX10_pointsOf_40 ?_
    refine lv_iload_n hx hb dX10_pointsOf_43 rfl (lv_at hl 4 rfl) ?_
    obtain ⟨hin_, h⟩ := ck_e h
    refine la_21 hx hb hKK hI e6 (lc36 hN) (kc36 hk0) hin_ dX10_pointsOf_44 ?_
    refine lv_ishr hx hb dX10_pointsOf_45 ?_
    refine lv_iconst (v := 1) hx hb dX10_pointsOf_46 (by decide) ?_
    refine lv_iand hx hb dX10_pointsOf_47 ?_
    refine lv_if_eq (tgt := 55) hx hb dX10_pointsOf_48 (by decide) (fun hc => ?_) (fun hc => ?_)
    · replace h := ite_t hc h
      refine lv_iconst (v := 0) hx hb dX10_pointsOf_55 (by decide) ?_
      exact b56  H locs ls G6 G7 G9 G20 v2 v3 v4_29 0  hI e6 e7 e9 e20 (lv_sub hl [2, 3, 4] rfl) h
    · replace h := ite_f hc h
      refine lv_iconst (v := 1) hx hb dX10_pointsOf_51 (by decide) ?_
      refine lv_goto (tgt := 56) hx hb dX10_pointsOf_52 (by decide) ?_
      exact b56  H locs ls G6 G7 G9 G20 v2 v3 v4_29 1  hI e6 e7 e9 e20 (lv_sub hl [2, 3, 4] rfl) h
  show WX RM_X10_pointsOf p l e s m args below meth c HB (some (.int q)) (B_X10_pointsOf HB D y n κ σ q) s.heap [] (F0 m 0 ls [])
  generalize s.heap = H at hI ⊢
  unfold f_X10_pointsOf at h
  obtain ⟨locs, hlocs⟩ : ∃ x : List Loc, x = [] := ⟨_, rfl⟩
  rw [← hlocs] at hI ⊢
  refine lv_iconst (v := 0) hx hb dX10_pointsOf_0 (by decide) ?_
  refine lv_istore (lv' := [(4, .int 0), (0, .ref (HB.size + 78)), (1, .ref (HB.size + 32)), (2, .int v2), (3, .int v3)]) hx hb dX10_pointsOf_1 hl (by decide) rfl (fun ls hl => ?_)
  refine lv_iload hx hb dX10_pointsOf_3 (lv_at hl 0 rfl) ?_
  refine lv_aload_n hx hb dX10_pointsOf_5 rfl (lv_at hl 1 rfl) ?_
  refine gf_X10_15 hx hb hts hown hKK hI hN dX10_pointsOf_6 ?_
  refine lv_iload_n hx hb dX10_pointsOf_9 rfl (lv_at hl 3 rfl) ?_
  obtain ⟨hin_, h⟩ := ck_e h
  refine la_39 hx hb hKK hI e20 (lc80 hN) (kc80 hk0) hin_ dX10_pointsOf_10 ?_
  refine lv_aload_n hx hb dX10_pointsOf_11 rfl (lv_at hl 2 rfl) ?_
  refine gf_X10_83 hx hb hts hown hKK hI hN dX10_pointsOf_12 ?_
  refine lv_iload_n hx hb dX10_pointsOf_15 rfl (lv_at hl 4 rfl) ?_
  obtain ⟨hin_, h⟩ := ck_e h
  refine la_21 hx hb hKK hI e6 (lc38 hN) (kc38 hk0) hin_ dX10_pointsOf_16 ?_
  refine lv_ishr hx hb dX10_pointsOf_17 ?_
  refine lv_iconst (v := 1) hx hb dX10_pointsOf_18 (by decide) ?_
  refine lv_iand hx hb dX10_pointsOf_19 ?_
  refine lv_if_eq (tgt := 27) hx hb dX10_pointsOf_20 (by decide) (fun hc => ?_) (fun hc => ?_)
  · replace h := ite_t hc h
    refine lv_iconst (v := 0) hx hb dX10_pointsOf_27 (by decide) ?_
    exact b28  H locs ls G6 G7 G9 G20 v2 v3 0 0  hI e6 e7 e9 e20 (lv_sub hl [1, 2, 3, 4] rfl) h
  · replace h := ite_f hc h
    refine lv_iconst (v := 3) hx hb dX10_pointsOf_23 (by decide) ?_
    refine lv_goto (tgt := 28) hx hb dX10_pointsOf_24 (by decide) ?_
    exact b28  H locs ls G6 G7 G9 G20 v2 v3 0 3  hI e6 e7 e9 e20 (lv_sub hl [1, 2, 3, 4] rfl) h
noncomputable def f_X11_village (F : Nat) (G6 : Grp) (v1 : Int32) (v2 : Int32) : Option (Int32 × Grp) :=
  ob (f_X11_within F v1 1 60) (fun q_4 => if q_4 = 0 then some ((-1), G6) else ob (f_X11_within F v2 0 4095) (fun q_15 => if q_15 = 0 then some ((-1), G6) else ob (f_X3_addVillage F G6 v1 v2) (fun q_29 => some (q_29.1, q_29.2))))
def RM_X11_village : Room := { frames := 1, cells := 0, slots := 0, locals := 22 }
abbrev W_X11_village : List Nat := [6]
abbrev B_X11_village (HB : Heap) (D : va_G) (y : Nat → ClassId) (n : Nat) (κ : Nat → Nat) (σ0 : St) (q : Int32 × Grp) : Heap → Prop := fun H => ∃ σ : St, IV HB D y n n κ σ [] H ∧ σ 6 = q.2 ∧ ∀ j, j ∉ W_X11_village → σ j = σ0 j
set_option maxRecDepth 100000 in
set_option maxHeartbeats 4000000 in
theorem c_X11_village (l : Launch) (HB : Heap) (D : va_G) (y : Nat → ClassId) (F n : Nat) (κ : Nat → Nat) (σ0 : St) (hN : N0 ≤ n) (v1 : Int32)  (v2 : Int32)  (G6 : Grp) (e6 : σ0 6 = G6) (q : Int32 × Grp) (h : f_X11_village F G6 v1 v2 = some q) : MT l HB D y yX11_village cX11_village 3 (some .int) RM_X11_village [.ref (HB.size + 0), .int v1, .int v2] (IV HB D y n n κ σ0 []) (some (.int q.1)) (B_X11_village HB D y n κ σ0 q) := by
  refine Met.ofW (cc := cX11_village) (maxL := 3) (ret := (some .int)) (by decide) rfl ?_
  intro p e s m args below meth c s₁ BL hml hv
  obtain ⟨rfl, hI, hKK⟩ := hv
  have hx := BL.exec
  have hb := BL.bytes
  have hr := BL.returns
  have hts : ∀ w ∈ gtb, w.before _ s = true := fun w hw => atoms_spec BL.pre w (List.mem_cons_of_mem _ hw)
  have hml : c.maxLocals = 3 := hml
  have hown : s.vm.findClass RX11 = some m.cls := findClass_of_methodNamed BL.named
  have hlocks := BL.notSynchronized
  have hk0 := hI.1.2.2.2.2
  have hl := lv_entry ([.ref (HB.size + 0), .int v1, .int v2]) (n := 3) (Nat.le_of_ble_eq_true rfl)
  rw [lg_entry_eq]
  generalize (lg_sl ([.ref (HB.size + 0), .int v1, .int v2]) ++ List.replicate (3 - (lg_sl ([.ref (HB.size + 0), .int v1, .int v2])).length) Slot.unset).toArray = ls at hl ⊢
  have hl : lv_has ls 3 [(0, .ref (HB.size + 0)), (1, .int v1), (2, .int v2)] := hl
  generalize hargs : ([.ref (HB.size + 0), .int v1, .int v2] : List Value).toArray = args at *
  obtain ⟨σ, hI, e6, fr⟩ : ∃ σ : St, IV HB D y n n κ σ [] s.heap ∧ σ 6 = G6 ∧ ∀ j, j ∉ W_X11_village → σ j = σ0 j := ⟨σ0, hI, e6, fun _ _ => rfl⟩
  show WX RM_X11_village p l e s m args below meth c HB (some (.int q.1)) (B_X11_village HB D y n κ σ0 q) s.heap [] (F0 m 0 ls [])
  generalize s.heap = H at hI ⊢
  unfold f_X11_village at h
  obtain ⟨locs, hlocs⟩ : ∃ x : List Loc, x = [] := ⟨_, rfl⟩
  rw [← hlocs] at hI ⊢
  refine lv_iload_n hx hb dX11_village_0 rfl (lv_at hl 1 rfl) ?_
  refine lv_iconst (v := 1) hx hb dX11_village_1 (by decide) ?_
  refine lv_bipush (v := 60) hx hb dX11_village_2 (by decide) ?_
  obtain ⟨q_4, hq_4, h⟩ := ob_e h
  refine r_callS (As := [.int v1, .int 1, .int 60]) (rest := []) hx hb hml hts hown (c_X11_within l HB D y F n κ σ hN v1 1 60  q_4 hq_4) cal_X11_within st_X11_within lm_X11_80 ⟨Nat.le_of_ble_eq_true rfl, Nat.le_of_ble_eq_true rfl⟩ hI.nil hKK rfl hl.1 hI.2.2 rfl (Nat.le_of_ble_eq_true rfl) dX11_village_4 ⟨Nat.le_of_ble_eq_true rfl, Nat.le_of_ble_eq_true rfl⟩ rfl rfl rfl (fun H locs hB hlo => ?_)
  have hI := hB.re hlo
  refine lv_if_eq (tgt := 21) hx hb dX11_village_7 (by decide) (fun hc => ?_) (fun hc => ?_)
  · replace h := ite_t hc h
    refine lv_iconst (v := (-1)) hx hb dX11_village_21 (by decide) ?_
    have hq := Option.some.inj h
    exact W.iret (v := (-1)) hx hb hr (fun t ht hW => qc_mk (congrArg (fun z => Outcome.returned (some (Value.int z.1))) hq) (by rw [ht]; exact ⟨σ, hI.nil, e6.trans (congrArg (fun z => z.2) hq), fr⟩)) hI.2.2 dX11_village_22 hlocks
  · replace h := ite_f hc h
    refine lv_iload_n hx hb dX11_village_10 rfl (lv_at hl 2 rfl) ?_
    refine lv_iconst (v := 0) hx hb dX11_village_11 (by decide) ?_
    refine lv_sipush (v := 4095) hx hb dX11_village_12 (by decide) ?_
    obtain ⟨q_15, hq_15, h⟩ := ob_e h
    refine r_callS (As := [.int v2, .int 0, .int 4095]) (rest := []) hx hb hml hts hown (c_X11_within l HB D y F n κ σ hN v2 0 4095  q_15 hq_15) cal_X11_within st_X11_within lm_X11_80 ⟨Nat.le_of_ble_eq_true rfl, Nat.le_of_ble_eq_true rfl⟩ hI.nil hKK rfl hl.1 hI.2.2 rfl (Nat.le_of_ble_eq_true rfl) dX11_village_15 ⟨Nat.le_of_ble_eq_true rfl, Nat.le_of_ble_eq_true rfl⟩ rfl rfl rfl (fun H locs hB hlo => ?_)
    have hI := hB.re hlo
    refine lv_if_ne (tgt := 23) hx hb dX11_village_18 (by decide) (fun hc => ?_) (fun hc => ?_)
    · replace h := ite_f hc h
      refine lv_aload_n hx hb dX11_village_23 rfl (lv_at hl 0 rfl) ?_
      refine gf_X11_37 hx hb hts hown hKK hI hN dX11_village_24 ?_
      refine lv_iload_n hx hb dX11_village_27 rfl (lv_at hl 1 rfl) ?_
      refine lv_iload_n hx hb dX11_village_28 rfl (lv_at hl 2 rfl) ?_
      obtain ⟨q_29, hq_29, h⟩ := ob_e h
      refine r_callV (As := [.int v1, .int v2]) (rest := []) hx hb hml hts hown (c_X3_addVillage l HB D y F n κ σ hN v1 v2 G6 e6 q_29 hq_29) cal_X3_addVillage im_X3_addVillage se_X3_addVillage lm_X11_84 ⟨Nat.le_of_ble_eq_true rfl, Nat.le_of_ble_eq_true rfl⟩ hI.nil hKK (r_recv hKK hI (hE3 HB.size y) rfl (lc32 hN) (kc32 hk0)) rfl hl.1 hI.2.2 rfl (Nat.le_of_ble_eq_true rfl) dX11_village_29 ⟨Nat.le_of_ble_eq_true rfl, Nat.le_of_ble_eq_true rfl⟩ rfl rfl rfl (fun H locs hB hlo => ?_)
      obtain ⟨σ, hB, en6, ho⟩ := hB
      have hI := hB.re hlo
      have e6 := en6
      have fr := frc fr ho (by decide)
      have hq := Option.some.inj h
      exact W.iret (v := q_29.1) hx hb hr (fun t ht hW => qc_mk (congrArg (fun z => Outcome.returned (some (Value.int z.1))) hq) (by rw [ht]; exact ⟨σ, hI.nil, e6.trans (congrArg (fun z => z.2) hq), fr⟩)) hI.2.2 dX11_village_32 hlocks
    · replace h := ite_t hc h
      refine lv_iconst (v := (-1)) hx hb dX11_village_21 (by decide) ?_
      have hq := Option.some.inj h
      exact W.iret (v := (-1)) hx hb hr (fun t ht hW => qc_mk (congrArg (fun z => Outcome.returned (some (Value.int z.1))) hq) (by rw [ht]; exact ⟨σ, hI.nil, e6.trans (congrArg (fun z => z.2) hq), fr⟩)) hI.2.2 dX11_village_22 hlocks
noncomputable def f_X11_giver (F : Nat) (G6 : Grp) (v1 : Int32) : Option (Int32 × Grp) :=
  ob (f_X11_within F v1 0 5) (fun q_3 => if q_3 = 0 then some ((-1), G6) else ob (f_X3_addGiver F G6 v1) (fun q_14 => some (q_14.1, q_14.2)))
def RM_X11_giver : Room := { frames := 1, cells := 0, slots := 0, locals := 22 }
abbrev W_X11_giver : List Nat := [6]
abbrev B_X11_giver (HB : Heap) (D : va_G) (y : Nat → ClassId) (n : Nat) (κ : Nat → Nat) (σ0 : St) (q : Int32 × Grp) : Heap → Prop := fun H => ∃ σ : St, IV HB D y n n κ σ [] H ∧ σ 6 = q.2 ∧ ∀ j, j ∉ W_X11_giver → σ j = σ0 j
set_option maxRecDepth 100000 in
set_option maxHeartbeats 4000000 in
theorem c_X11_giver (l : Launch) (HB : Heap) (D : va_G) (y : Nat → ClassId) (F n : Nat) (κ : Nat → Nat) (σ0 : St) (hN : N0 ≤ n) (v1 : Int32)  (G6 : Grp) (e6 : σ0 6 = G6) (q : Int32 × Grp) (h : f_X11_giver F G6 v1 = some q) : MT l HB D y yX11_giver cX11_giver 2 (some .int) RM_X11_giver [.ref (HB.size + 0), .int v1] (IV HB D y n n κ σ0 []) (some (.int q.1)) (B_X11_giver HB D y n κ σ0 q) := by
  refine Met.ofW (cc := cX11_giver) (maxL := 2) (ret := (some .int)) (by decide) rfl ?_
  intro p e s m args below meth c s₁ BL hml hv
  obtain ⟨rfl, hI, hKK⟩ := hv
  have hx := BL.exec
  have hb := BL.bytes
  have hr := BL.returns
  have hts : ∀ w ∈ gtb, w.before _ s = true := fun w hw => atoms_spec BL.pre w (List.mem_cons_of_mem _ hw)
  have hml : c.maxLocals = 2 := hml
  have hown : s.vm.findClass RX11 = some m.cls := findClass_of_methodNamed BL.named
  have hlocks := BL.notSynchronized
  have hk0 := hI.1.2.2.2.2
  have hl := lv_entry ([.ref (HB.size + 0), .int v1]) (n := 2) (Nat.le_of_ble_eq_true rfl)
  rw [lg_entry_eq]
  generalize (lg_sl ([.ref (HB.size + 0), .int v1]) ++ List.replicate (2 - (lg_sl ([.ref (HB.size + 0), .int v1])).length) Slot.unset).toArray = ls at hl ⊢
  have hl : lv_has ls 2 [(0, .ref (HB.size + 0)), (1, .int v1)] := hl
  generalize hargs : ([.ref (HB.size + 0), .int v1] : List Value).toArray = args at *
  obtain ⟨σ, hI, e6, fr⟩ : ∃ σ : St, IV HB D y n n κ σ [] s.heap ∧ σ 6 = G6 ∧ ∀ j, j ∉ W_X11_giver → σ j = σ0 j := ⟨σ0, hI, e6, fun _ _ => rfl⟩
  show WX RM_X11_giver p l e s m args below meth c HB (some (.int q.1)) (B_X11_giver HB D y n κ σ0 q) s.heap [] (F0 m 0 ls [])
  generalize s.heap = H at hI ⊢
  unfold f_X11_giver at h
  obtain ⟨locs, hlocs⟩ : ∃ x : List Loc, x = [] := ⟨_, rfl⟩
  rw [← hlocs] at hI ⊢
  refine lv_iload_n hx hb dX11_giver_0 rfl (lv_at hl 1 rfl) ?_
  refine lv_iconst (v := 0) hx hb dX11_giver_1 (by decide) ?_
  refine lv_iconst (v := 5) hx hb dX11_giver_2 (by decide) ?_
  obtain ⟨q_3, hq_3, h⟩ := ob_e h
  refine r_callS (As := [.int v1, .int 0, .int 5]) (rest := []) hx hb hml hts hown (c_X11_within l HB D y F n κ σ hN v1 0 5  q_3 hq_3) cal_X11_within st_X11_within lm_X11_80 ⟨Nat.le_of_ble_eq_true rfl, Nat.le_of_ble_eq_true rfl⟩ hI.nil hKK rfl hl.1 hI.2.2 rfl (Nat.le_of_ble_eq_true rfl) dX11_giver_3 ⟨Nat.le_of_ble_eq_true rfl, Nat.le_of_ble_eq_true rfl⟩ rfl rfl rfl (fun H locs hB hlo => ?_)
  have hI := hB.re hlo
  refine lv_if_eq (tgt := 20) hx hb dX11_giver_6 (by decide) (fun hc => ?_) (fun hc => ?_)
  · replace h := ite_t hc h
    refine lv_iconst (v := (-1)) hx hb dX11_giver_20 (by decide) ?_
    have hq := Option.some.inj h
    exact W.iret (v := (-1)) hx hb hr (fun t ht hW => qc_mk (congrArg (fun z => Outcome.returned (some (Value.int z.1))) hq) (by rw [ht]; exact ⟨σ, hI.nil, e6.trans (congrArg (fun z => z.2) hq), fr⟩)) hI.2.2 dX11_giver_21 hlocks
  · replace h := ite_f hc h
    refine lv_aload_n hx hb dX11_giver_9 rfl (lv_at hl 0 rfl) ?_
    refine gf_X11_37 hx hb hts hown hKK hI hN dX11_giver_10 ?_
    refine lv_iload_n hx hb dX11_giver_13 rfl (lv_at hl 1 rfl) ?_
    obtain ⟨q_14, hq_14, h⟩ := ob_e h
    refine r_callV (As := [.int v1]) (rest := []) hx hb hml hts hown (c_X3_addGiver l HB D y F n κ σ hN v1 G6 e6 q_14 hq_14) cal_X3_addGiver im_X3_addGiver se_X3_addGiver lm_X11_88 ⟨Nat.le_of_ble_eq_true rfl, Nat.le_of_ble_eq_true rfl⟩ hI.nil hKK (r_recv hKK hI (hE3 HB.size y) rfl (lc32 hN) (kc32 hk0)) rfl hl.1 hI.2.2 rfl (Nat.le_of_ble_eq_true rfl) dX11_giver_14 ⟨Nat.le_of_ble_eq_true rfl, Nat.le_of_ble_eq_true rfl⟩ rfl rfl rfl (fun H locs hB hlo => ?_)
    obtain ⟨σ, hB, en6, ho⟩ := hB
    have hI := hB.re hlo
    have e6 := en6
    have fr := frc fr ho (by decide)
    refine lv_goto (tgt := 21) hx hb dX11_giver_17 (by decide) ?_
    have hq := Option.some.inj h
    exact W.iret (v := q_14.1) hx hb hr (fun t ht hW => qc_mk (congrArg (fun z => Outcome.returned (some (Value.int z.1))) hq) (by rw [ht]; exact ⟨σ, hI.nil, e6.trans (congrArg (fun z => z.2) hq), fr⟩)) hI.2.2 dX11_giver_21 hlocks
noncomputable def f_X11_child_b51 (F : Nat)  (G6 : Grp) (v1 : Int32) (v2 : Int32) (v3 : Int32) (v4 : Int32) : Option (Int32 × Grp) :=
  ob (f_X3_addChild F G6 v1 v2 v3 v4) (fun q_60 => some (q_60.1, q_60.2))
noncomputable def f_X11_child (F : Nat) (G6 : Grp) (v1 : Int32) (v2 : Int32) (v3 : Int32) (v4 : Int32) : Option (Int32 × Grp) :=
  ob (f_X3_hasVillage F G6 v1) (fun q_5 => if q_5 = 0 then some ((-1), G6) else ob (f_X11_within F v2 0 5) (fun q_14 => if q_14 = 0 then some ((-1), G6) else ob (f_X11_within F v3 0 4) (fun q_23 => if q_23 = 0 then some ((-1), G6) else if v4 = (-1) then f_X11_child_b51 F  G6 v1 v2 v3 v4 else ob (f_X3_hasChild F G6 v4) (fun q_43 => if q_43 = 0 then some ((-1), G6) else f_X11_child_b51 F  G6 v1 v2 v3 v4))))
def RM_X11_child : Room := { frames := 2, cells := 0, slots := 0, locals := 43 }
abbrev W_X11_child : List Nat := [6]
abbrev B_X11_child (HB : Heap) (D : va_G) (y : Nat → ClassId) (n : Nat) (κ : Nat → Nat) (σ0 : St) (q : Int32 × Grp) : Heap → Prop := fun H => ∃ σ : St, IV HB D y n n κ σ [] H ∧ σ 6 = q.2 ∧ ∀ j, j ∉ W_X11_child → σ j = σ0 j
set_option maxRecDepth 100000 in
set_option maxHeartbeats 4000000 in
theorem c_X11_child (l : Launch) (HB : Heap) (D : va_G) (y : Nat → ClassId) (F n : Nat) (κ : Nat → Nat) (σ0 : St) (hN : N0 ≤ n) (v1 : Int32)  (v2 : Int32)  (v3 : Int32)  (v4 : Int32)  (G6 : Grp) (e6 : σ0 6 = G6) (q : Int32 × Grp) (h : f_X11_child F G6 v1 v2 v3 v4 = some q) : MT l HB D y yX11_child cX11_child 5 (some .int) RM_X11_child [.ref (HB.size + 0), .int v1, .int v2, .int v3, .int v4] (IV HB D y n n κ σ0 []) (some (.int q.1)) (B_X11_child HB D y n κ σ0 q) := by
  refine Met.ofW (cc := cX11_child) (maxL := 5) (ret := (some .int)) (by decide) rfl ?_
  intro p e s m args below meth c s₁ BL hml hv
  obtain ⟨rfl, hI, hKK⟩ := hv
  have hx := BL.exec
  have hb := BL.bytes
  have hr := BL.returns
  have hts : ∀ w ∈ gtb, w.before _ s = true := fun w hw => atoms_spec BL.pre w (List.mem_cons_of_mem _ hw)
  have hml : c.maxLocals = 5 := hml
  have hown : s.vm.findClass RX11 = some m.cls := findClass_of_methodNamed BL.named
  have hlocks := BL.notSynchronized
  have hk0 := hI.1.2.2.2.2
  have hl := lv_entry ([.ref (HB.size + 0), .int v1, .int v2, .int v3, .int v4]) (n := 5) (Nat.le_of_ble_eq_true rfl)
  rw [lg_entry_eq]
  generalize (lg_sl ([.ref (HB.size + 0), .int v1, .int v2, .int v3, .int v4]) ++ List.replicate (5 - (lg_sl ([.ref (HB.size + 0), .int v1, .int v2, .int v3, .int v4])).length) Slot.unset).toArray = ls at hl ⊢
  have hl : lv_has ls 5 [(0, .ref (HB.size + 0)), (1, .int v1), (2, .int v2), (3, .int v3), (4, .int v4)] := hl
  generalize hargs : ([.ref (HB.size + 0), .int v1, .int v2, .int v3, .int v4] : List Value).toArray = args at *
  have b51 : ∀ (σ : St) (H : Heap) (locs : List Loc) (ls : Array Slot) (G6 : Grp) (v1 : Int32) (v2 : Int32) (v3 : Int32) (v4 : Int32) , IV HB D y n n κ σ locs H → σ 6 = G6 → (∀ j, j ∉ W_X11_child → σ j = σ0 j) → lv_has ls 5 [(0, .ref (HB.size + 0)), (1, .int v1), (2, .int v2), (3, .int v3), (4, .int v4)] → f_X11_child_b51 F  G6 v1 v2 v3 v4 = some q → WX RM_X11_child p l e s m args below meth c HB (some (.int q.1)) (B_X11_child HB D y n κ σ0 q) H locs (F0 m 51 ls []) := by
    intro  σ H locs ls G6 v1 v2 v3 v4 hI e6 fr hl h
    unfold f_X11_child_b51 at h
    refine lv_aload_n hx hb dX11_child_51 rfl (lv_at hl 0 rfl) ?_
    refine gf_X11_37 hx hb hts hown hKK hI hN dX11_child_52 ?_
    refine lv_iload_n hx hb dX11_child_55 rfl (lv_at hl 1 rfl) ?_
    refine lv_iload_n hx hb dX11_child_56 rfl (lv_at hl 2 rfl) ?_
    refine lv_iload_n hx hb dX11_child_57 rfl (lv_at hl 3 rfl) ?_
    refine lv_iload hx hb dX11_child_58 (lv_at hl 4 rfl) ?_
    obtain ⟨q_60, hq_60, h⟩ := ob_e h
    refine r_callV (As := [.int v1, .int v2, .int v3, .int v4]) (rest := []) hx hb hml hts hown (c_X3_addChild l HB D y F n κ σ hN v1 v2 v3 v4 G6 e6 q_60 hq_60) cal_X3_addChild im_X3_addChild se_X3_addChild lm_X11_99 ⟨Nat.le_of_ble_eq_true rfl, Nat.le_of_ble_eq_true rfl⟩ hI.nil hKK (r_recv hKK hI (hE3 HB.size y) rfl (lc32 hN) (kc32 hk0)) rfl hl.1 hI.2.2 rfl (Nat.le_of_ble_eq_true rfl) dX11_child_60 ⟨Nat.le_of_ble_eq_true rfl, Nat.le_of_ble_eq_true rfl⟩ rfl rfl rfl (fun H locs hB hlo => ?_)
    obtain ⟨σ, hB, en6, ho⟩ := hB
    have hI := hB.re hlo
    have e6 := en6
    have fr := frc fr ho (by decide)
    have hq := Option.some.inj h
    exact W.iret (v := q_60.1) hx hb hr (fun t ht hW => qc_mk (congrArg (fun z => Outcome.returned (some (Value.int z.1))) hq) (by rw [ht]; exact ⟨σ, hI.nil, e6.trans (congrArg (fun z => z.2) hq), fr⟩)) hI.2.2 dX11_child_63 hlocks
  obtain ⟨σ, hI, e6, fr⟩ : ∃ σ : St, IV HB D y n n κ σ [] s.heap ∧ σ 6 = G6 ∧ ∀ j, j ∉ W_X11_child → σ j = σ0 j := ⟨σ0, hI, e6, fun _ _ => rfl⟩
  show WX RM_X11_child p l e s m args below meth c HB (some (.int q.1)) (B_X11_child HB D y n κ σ0 q) s.heap [] (F0 m 0 ls [])
  generalize s.heap = H at hI ⊢
  unfold f_X11_child at h
  obtain ⟨locs, hlocs⟩ : ∃ x : List Loc, x = [] := ⟨_, rfl⟩
  rw [← hlocs] at hI ⊢
  refine lv_aload_n hx hb dX11_child_0 rfl (lv_at hl 0 rfl) ?_
  refine gf_X11_37 hx hb hts hown hKK hI hN dX11_child_1 ?_
  refine lv_iload_n hx hb dX11_child_4 rfl (lv_at hl 1 rfl) ?_
  obtain ⟨q_5, hq_5, h⟩ := ob_e h
  refine r_callV (As := [.int v1]) (rest := []) hx hb hml hts hown (c_X3_hasVillage l HB D y F n κ σ hN v1 G6 e6 q_5 hq_5) cal_X3_hasVillage im_X3_hasVillage se_X3_hasVillage lm_X11_92 ⟨Nat.le_of_ble_eq_true rfl, Nat.le_of_ble_eq_true rfl⟩ hI.nil hKK (r_recv hKK hI (hE3 HB.size y) rfl (lc32 hN) (kc32 hk0)) rfl hl.1 hI.2.2 rfl (Nat.le_of_ble_eq_true rfl) dX11_child_5 ⟨Nat.le_of_ble_eq_true rfl, Nat.le_of_ble_eq_true rfl⟩ rfl rfl rfl (fun H locs hB hlo => ?_)
  have hI := hB.re hlo
  refine lv_if_eq (tgt := 29) hx hb dX11_child_8 (by decide) (fun hc => ?_) (fun hc => ?_)
  · replace h := ite_t hc h
    refine lv_iconst (v := (-1)) hx hb dX11_child_29 (by decide) ?_
    have hq := Option.some.inj h
    exact W.iret (v := (-1)) hx hb hr (fun t ht hW => qc_mk (congrArg (fun z => Outcome.returned (some (Value.int z.1))) hq) (by rw [ht]; exact ⟨σ, hI.nil, e6.trans (congrArg (fun z => z.2) hq), fr⟩)) hI.2.2 dX11_child_30 hlocks
  · replace h := ite_f hc h
    refine lv_iload_n hx hb dX11_child_11 rfl (lv_at hl 2 rfl) ?_
    refine lv_iconst (v := 0) hx hb dX11_child_12 (by decide) ?_
    refine lv_iconst (v := 5) hx hb dX11_child_13 (by decide) ?_
    obtain ⟨q_14, hq_14, h⟩ := ob_e h
    refine r_callS (As := [.int v2, .int 0, .int 5]) (rest := []) hx hb hml hts hown (c_X11_within l HB D y F n κ σ hN v2 0 5  q_14 hq_14) cal_X11_within st_X11_within lm_X11_80 ⟨Nat.le_of_ble_eq_true rfl, Nat.le_of_ble_eq_true rfl⟩ hI.nil hKK rfl hl.1 hI.2.2 rfl (Nat.le_of_ble_eq_true rfl) dX11_child_14 ⟨Nat.le_of_ble_eq_true rfl, Nat.le_of_ble_eq_true rfl⟩ rfl rfl rfl (fun H locs hB hlo => ?_)
    have hI := hB.re hlo
    refine lv_if_eq (tgt := 29) hx hb dX11_child_17 (by decide) (fun hc => ?_) (fun hc => ?_)
    · replace h := ite_t hc h
      refine lv_iconst (v := (-1)) hx hb dX11_child_29 (by decide) ?_
      have hq := Option.some.inj h
      exact W.iret (v := (-1)) hx hb hr (fun t ht hW => qc_mk (congrArg (fun z => Outcome.returned (some (Value.int z.1))) hq) (by rw [ht]; exact ⟨σ, hI.nil, e6.trans (congrArg (fun z => z.2) hq), fr⟩)) hI.2.2 dX11_child_30 hlocks
    · replace h := ite_f hc h
      refine lv_iload_n hx hb dX11_child_20 rfl (lv_at hl 3 rfl) ?_
      refine lv_iconst (v := 0) hx hb dX11_child_21 (by decide) ?_
      refine lv_iconst (v := 4) hx hb dX11_child_22 (by decide) ?_
      obtain ⟨q_23, hq_23, h⟩ := ob_e h
      refine r_callS (As := [.int v3, .int 0, .int 4]) (rest := []) hx hb hml hts hown (c_X11_within l HB D y F n κ σ hN v3 0 4  q_23 hq_23) cal_X11_within st_X11_within lm_X11_80 ⟨Nat.le_of_ble_eq_true rfl, Nat.le_of_ble_eq_true rfl⟩ hI.nil hKK rfl hl.1 hI.2.2 rfl (Nat.le_of_ble_eq_true rfl) dX11_child_23 ⟨Nat.le_of_ble_eq_true rfl, Nat.le_of_ble_eq_true rfl⟩ rfl rfl rfl (fun H locs hB hlo => ?_)
      have hI := hB.re hlo
      refine lv_if_ne (tgt := 31) hx hb dX11_child_26 (by decide) (fun hc => ?_) (fun hc => ?_)
      · replace h := ite_f hc h
        refine lv_iload hx hb dX11_child_31 (lv_at hl 4 rfl) ?_
        refine lv_iconst (v := (-1)) hx hb dX11_child_33 (by decide) ?_
        refine lv_icmp_eq (tgt := 51) hx hb dX11_child_34 (by decide) (fun hc => ?_) (fun hc => ?_)
        · replace h := ite_t hc h
          exact b51  σ H locs ls G6 v1 v2 v3 v4  hI e6 fr (lv_sub hl [0, 1, 2, 3, 4] rfl) h
        · replace h := ite_f hc h
          refine lv_aload_n hx hb dX11_child_37 rfl (lv_at hl 0 rfl) ?_
          refine gf_X11_37 hx hb hts hown hKK hI hN dX11_child_38 ?_
          refine lv_iload hx hb dX11_child_41 (lv_at hl 4 rfl) ?_
          obtain ⟨q_43, hq_43, h⟩ := ob_e h
          refine r_callV (As := [.int v4]) (rest := []) hx hb hml hts hown (c_X3_hasChild l HB D y F n κ σ hN v4 G6 e6 q_43 hq_43) cal_X3_hasChild im_X3_hasChild se_X3_hasChild lm_X11_96 ⟨Nat.le_of_ble_eq_true rfl, Nat.le_of_ble_eq_true rfl⟩ hI.nil hKK (r_recv hKK hI (hE3 HB.size y) rfl (lc32 hN) (kc32 hk0)) rfl hl.1 hI.2.2 rfl (Nat.le_of_ble_eq_true rfl) dX11_child_43 ⟨Nat.le_of_ble_eq_true rfl, Nat.le_of_ble_eq_true rfl⟩ rfl rfl rfl (fun H locs hB hlo => ?_)
          have hI := hB.re hlo
          refine lv_if_ne (tgt := 51) hx hb dX11_child_46 (by decide) (fun hc => ?_) (fun hc => ?_)
          · replace h := ite_f hc h
            exact b51  σ H locs ls G6 v1 v2 v3 v4  hI e6 fr (lv_sub hl [0, 1, 2, 3, 4] rfl) h
          · replace h := ite_t hc h
            refine lv_iconst (v := (-1)) hx hb dX11_child_49 (by decide) ?_
            have hq := Option.some.inj h
            exact W.iret (v := (-1)) hx hb hr (fun t ht hW => qc_mk (congrArg (fun z => Outcome.returned (some (Value.int z.1))) hq) (by rw [ht]; exact ⟨σ, hI.nil, e6.trans (congrArg (fun z => z.2) hq), fr⟩)) hI.2.2 dX11_child_50 hlocks
      · replace h := ite_t hc h
        refine lv_iconst (v := (-1)) hx hb dX11_child_29 (by decide) ?_
        have hq := Option.some.inj h
        exact W.iret (v := (-1)) hx hb hr (fun t ht hW => qc_mk (congrArg (fun z => Outcome.returned (some (Value.int z.1))) hq) (by rw [ht]; exact ⟨σ, hI.nil, e6.trans (congrArg (fun z => z.2) hq), fr⟩)) hI.2.2 dX11_child_30 hlocks
noncomputable def f_X11_end (F : Nat) (G1 : Grp) (G7 : Grp) (G9 : Grp) (v1 : Int32) : Option (Int32 × Grp) :=
  ob (f_X3_openPairAt F G7 G9 v1) (fun q_5 => om q_5 (some (0, G9)) (fun t_5 => bn (gI G9 t_5 4 (G1.1 0 0)) (fun G9_20 => some (1, G9_20))))
def RM_X11_end : Room := { frames := 3, cells := 0, slots := 0, locals := 65 }
abbrev W_X11_end : List Nat := [9]
abbrev B_X11_end (HB : Heap) (D : va_G) (y : Nat → ClassId) (n : Nat) (κ : Nat → Nat) (σ0 : St) (q : Int32 × Grp) : Heap → Prop := fun H => ∃ σ : St, IV HB D y n n κ σ [] H ∧ σ 9 = q.2 ∧ ∀ j, j ∉ W_X11_end → σ j = σ0 j
set_option maxRecDepth 100000 in
set_option maxHeartbeats 4000000 in
theorem c_X11_end (l : Launch) (HB : Heap) (D : va_G) (y : Nat → ClassId) (F n : Nat) (κ : Nat → Nat) (σ0 : St) (hN : N0 ≤ n) (v1 : Int32)  (G1 : Grp) (e1 : σ0 1 = G1) (G7 : Grp) (e7 : σ0 7 = G7) (G9 : Grp) (e9 : σ0 9 = G9) (q : Int32 × Grp) (h : f_X11_end F G1 G7 G9 v1 = some q) : MT l HB D y yX11_end cX11_end 3 (some .boolean) RM_X11_end [.ref (HB.size + 0), .int v1] (IV HB D y n n κ σ0 []) (some (.int q.1)) (B_X11_end HB D y n κ σ0 q) := by
  refine Met.ofW (cc := cX11_end) (maxL := 3) (ret := (some .boolean)) (by decide) rfl ?_
  intro p e s m args below meth c s₁ BL hml hv
  obtain ⟨rfl, hI, hKK⟩ := hv
  have hx := BL.exec
  have hb := BL.bytes
  have hr := BL.returns
  have hts : ∀ w ∈ gtb, w.before _ s = true := fun w hw => atoms_spec BL.pre w (List.mem_cons_of_mem _ hw)
  have hml : c.maxLocals = 3 := hml
  have hown : s.vm.findClass RX11 = some m.cls := findClass_of_methodNamed BL.named
  have hlocks := BL.notSynchronized
  have hk0 := hI.1.2.2.2.2
  have hl := lv_entry ([.ref (HB.size + 0), .int v1]) (n := 3) (Nat.le_of_ble_eq_true rfl)
  rw [lg_entry_eq]
  generalize (lg_sl ([.ref (HB.size + 0), .int v1]) ++ List.replicate (3 - (lg_sl ([.ref (HB.size + 0), .int v1])).length) Slot.unset).toArray = ls at hl ⊢
  have hl : lv_has ls 3 [(0, .ref (HB.size + 0)), (1, .int v1)] := hl
  generalize hargs : ([.ref (HB.size + 0), .int v1] : List Value).toArray = args at *
  obtain ⟨σ, hI, e1, e7, e9, fr⟩ : ∃ σ : St, IV HB D y n n κ σ [] s.heap ∧ σ 1 = G1 ∧ σ 7 = G7 ∧ σ 9 = G9 ∧ ∀ j, j ∉ W_X11_end → σ j = σ0 j := ⟨σ0, hI, e1, e7, e9, fun _ _ => rfl⟩
  show WX RM_X11_end p l e s m args below meth c HB (some (.int q.1)) (B_X11_end HB D y n κ σ0 q) s.heap [] (F0 m 0 ls [])
  generalize s.heap = H at hI ⊢
  unfold f_X11_end at h
  obtain ⟨locs, hlocs⟩ : ∃ x : List Loc, x = [] := ⟨_, rfl⟩
  rw [← hlocs] at hI ⊢
  refine lv_aload_n hx hb dX11_end_0 rfl (lv_at hl 0 rfl) ?_
  refine gf_X11_37 hx hb hts hown hKK hI hN dX11_end_1 ?_
  refine lv_iload_n hx hb dX11_end_4 rfl (lv_at hl 1 rfl) ?_
  obtain ⟨q_5, hq_5, h⟩ := ob_e h
  refine r_callV (As := [.int v1]) (rest := []) hx hb hml hts hown (c_X3_openPairAt l HB D y F n κ σ hN v1 G7 e7 G9 e9 q_5 hq_5) cal_X3_openPairAt im_X3_openPairAt se_X3_openPairAt lm_X11_121 ⟨Nat.le_of_ble_eq_true rfl, Nat.le_of_ble_eq_true rfl⟩ hI.nil hKK (r_recv hKK hI (hE3 HB.size y) rfl (lc32 hN) (kc32 hk0)) rfl hl.1 hI.2.2 rfl (Nat.le_of_ble_eq_true rfl) dX11_end_5 ⟨Nat.le_of_ble_eq_true rfl, Nat.le_of_ble_eq_true rfl⟩ rfl rfl rfl (fun H locs hB hlo => ?_)
  obtain ⟨hB, hf_5⟩ := hB
  have hI := hB.re hlo
  rcases om_e h with ⟨eo, h⟩ | ⟨t_5, eo, h⟩
  · refine topn eo ?_
    refine lv_astore_nN (lv' := [(2, .null), (0, .ref (HB.size + 0)), (1, .int v1)]) hx hb dX11_end_8 rfl hl (by decide) rfl (fun ls hl => ?_)
    refine lv_aload_nN hx hb dX11_end_9 rfl (lv_at hl 0 rfl) ?_
    refine lv_ifnonnullN hx hb dX11_end_10 ?_
    refine lv_iconst (v := 0) hx hb dX11_end_13 (by decide) ?_
    have hq := Option.some.inj h
    exact W.zret (v := 0) (ty := .boolean) hx hb hr rfl (fun t ht hW => qc_mk (congrArg (fun z => Outcome.returned (some (Value.int z.1))) hq) (by rw [ht]; exact ⟨σ, hI.nil, e9.trans (congrArg (fun z => z.2) hq), fr⟩)) hI.2.2 dX11_end_14 hlocks
  · refine topr eo ?_
    obtain ⟨ha_5, hk_5⟩ := hf_5 _ eo
    refine lv_astore_n (lv' := [(2, .ref (HB.size + t_5)), (0, .ref (HB.size + 0)), (1, .int v1)]) hx hb dX11_end_8 rfl hl (by decide) rfl (fun ls hl => ?_)
    refine lv_aload_n hx hb dX11_end_9 rfl (lv_at hl 0 rfl) ?_
    refine lv_ifnonnull (tgt := 15) hx hb dX11_end_10 (by decide) ?_
    refine lv_aload_n hx hb dX11_end_15 rfl (lv_at hl 0 rfl) ?_
    refine lv_aload_n hx hb dX11_end_16 rfl (lv_at hl 1 rfl) ?_
    refine gt_X11_106 hx hb hts hown hKK hI e1 (lc0 hN) (kc0 hk0) dX11_end_17 ?_
    obtain ⟨G9_20, qq, h⟩ := bn_e h
    refine pt_X11_125 hx hb hts hown hKK hI e9 ha_5 hk_5 dX11_end_20 (fun σ H locs hI ew ho => ?_)
    have e9 := ew.trans qq.symm
    have e1 := (ho 1 (nn rfl)).trans e1
    have e7 := (ho 7 (nn rfl)).trans e7
    have fr := frs fr ho (by decide)
    refine lv_iconst (v := 1) hx hb dX11_end_23 (by decide) ?_
    have hq := Option.some.inj h
    exact W.zret (v := 1) (ty := .boolean) hx hb hr rfl (fun t ht hW => qc_mk (congrArg (fun z => Outcome.returned (some (Value.int z.1))) hq) (by rw [ht]; exact ⟨σ, hI.nil, e9.trans (congrArg (fun z => z.2) hq), fr⟩)) hI.2.2 dX11_end_24 hlocks
noncomputable def f_X11_number_b71 (F : Nat)  (G2 : Grp) (v1 : Int32) (v2 : Int32) : Option (Int32 × Grp) :=
  ck v1 8 (bn (gI G2 2 v1.toNatClampNeg v2) (fun G2_77 => some (1, G2_77)))
noncomputable def f_X11_number_b50 (F : Nat)  (G2 : Grp) (v1 : Int32) (v2 : Int32) : Option (Int32 × Grp) :=
  if v1 = 6 then ck 5 8 (if (v2 + (G2.1 2 (5 : Int32).toNatClampNeg)) ≤ 100 then f_X11_number_b71 F  G2 v1 v2 else some (0, G2)) else f_X11_number_b71 F  G2 v1 v2
noncomputable def f_X11_number (F : Nat) (G2 : Grp) (v1 : Int32) (v2 : Int32) : Option (Int32 × Grp) :=
  ob (f_X11_within F v1 0 7) (fun q_4 => if q_4 = 0 then some (0, G2) else ck v1 8 (ck v1 8 (ob (f_X11_within F v2 (lnF v1.toNatClampNeg) (mnF v1.toNatClampNeg)) (fun q_21 => if q_21 = 0 then some (0, G2) else if v1 = 5 then ck 6 8 (if (v2 + (G2.1 2 (6 : Int32).toNatClampNeg)) ≤ 100 then f_X11_number_b50 F  G2 v1 v2 else some (0, G2)) else f_X11_number_b50 F  G2 v1 v2))))
def RM_X11_number : Room := { frames := 1, cells := 0, slots := 0, locals := 22 }
abbrev W_X11_number : List Nat := [2]
abbrev B_X11_number (HB : Heap) (D : va_G) (y : Nat → ClassId) (n : Nat) (κ : Nat → Nat) (σ0 : St) (q : Int32 × Grp) : Heap → Prop := fun H => ∃ σ : St, IV HB D y n n κ σ [] H ∧ σ 2 = q.2 ∧ ∀ j, j ∉ W_X11_number → σ j = σ0 j
set_option maxRecDepth 100000 in
set_option maxHeartbeats 4000000 in
theorem c_X11_number (l : Launch) (HB : Heap) (D : va_G) (y : Nat → ClassId) (F n : Nat) (κ : Nat → Nat) (σ0 : St) (hN : N0 ≤ n) (v1 : Int32)  (v2 : Int32)  (G2 : Grp) (e2 : σ0 2 = G2) (q : Int32 × Grp) (h : f_X11_number F G2 v1 v2 = some q) : MT l HB D y yX11_number cX11_number 3 (some .boolean) RM_X11_number [.ref (HB.size + 0), .int v1, .int v2] (IV HB D y n n κ σ0 []) (some (.int q.1)) (B_X11_number HB D y n κ σ0 q) := by
  refine Met.ofW (cc := cX11_number) (maxL := 3) (ret := (some .boolean)) (by decide) rfl ?_
  intro p e s m args below meth c s₁ BL hml hv
  obtain ⟨rfl, hI, hKK⟩ := hv
  have hx := BL.exec
  have hb := BL.bytes
  have hr := BL.returns
  have hts : ∀ w ∈ gtb, w.before _ s = true := fun w hw => atoms_spec BL.pre w (List.mem_cons_of_mem _ hw)
  have hml : c.maxLocals = 3 := hml
  have hown : s.vm.findClass RX11 = some m.cls := findClass_of_methodNamed BL.named
  have hlocks := BL.notSynchronized
  have hk0 := hI.1.2.2.2.2
  have hI0 := hI
  obtain ⟨⟨ts1, zs1, ws1⟩, ts2, zs2, ws2⟩ := hKK.2.2
  have hl := lv_entry ([.ref (HB.size + 0), .int v1, .int v2]) (n := 3) (Nat.le_of_ble_eq_true rfl)
  rw [lg_entry_eq]
  generalize (lg_sl ([.ref (HB.size + 0), .int v1, .int v2]) ++ List.replicate (3 - (lg_sl ([.ref (HB.size + 0), .int v1, .int v2])).length) Slot.unset).toArray = ls at hl ⊢
  have hl : lv_has ls 3 [(0, .ref (HB.size + 0)), (1, .int v1), (2, .int v2)] := hl
  generalize hargs : ([.ref (HB.size + 0), .int v1, .int v2] : List Value).toArray = args at *
  have b71 : ∀ (σ : St) (H : Heap) (locs : List Loc) (ls : Array Slot) (G2 : Grp) (v1 : Int32) (v2 : Int32) , IV HB D y n n κ σ locs H → σ 2 = G2 → (∀ j, j ∉ W_X11_number → σ j = σ0 j) → lv_has ls 3 [(0, .ref (HB.size + 0)), (1, .int v1), (2, .int v2)] → f_X11_number_b71 F  G2 v1 v2 = some q → WX RM_X11_number p l e s m args below meth c HB (some (.int q.1)) (B_X11_number HB D y n κ σ0 q) H locs (F0 m 71 ls []) := by
    intro  σ H locs ls G2 v1 v2 hI e2 fr hl h
    unfold f_X11_number_b71 at h
    refine lv_aload_n hx hb dX11_number_71 rfl (lv_at hl 0 rfl) ?_
    refine gf_X11_13 hx hb hts hown hKK hI hN dX11_number_72 ?_
    refine lv_iload_n hx hb dX11_number_75 rfl (lv_at hl 1 rfl) ?_
    refine lv_iload_n hx hb dX11_number_76 rfl (lv_at hl 2 rfl) ?_
    obtain ⟨hin_, h⟩ := ck_e h
    obtain ⟨G2_77, qq, h⟩ := bn_e h
    refine sa_14 hx hb hKK hI e2 (lc2 hN) (kc2 hk0) hin_ dX11_number_77 (fun σ H locs hI ew ho => ?_)
    have e2 := ew.trans qq.symm
    have fr := frs fr ho (by decide)
    refine lv_iconst (v := 1) hx hb dX11_number_78 (by decide) ?_
    have hq := Option.some.inj h
    exact W.zret (v := 1) (ty := .boolean) hx hb hr rfl (fun t ht hW => qc_mk (congrArg (fun z => Outcome.returned (some (Value.int z.1))) hq) (by rw [ht]; exact ⟨σ, hI.nil, e2.trans (congrArg (fun z => z.2) hq), fr⟩)) hI.2.2 dX11_number_79 hlocks
  have b50 : ∀ (σ : St) (H : Heap) (locs : List Loc) (ls : Array Slot) (G2 : Grp) (v1 : Int32) (v2 : Int32) , IV HB D y n n κ σ locs H → σ 2 = G2 → (∀ j, j ∉ W_X11_number → σ j = σ0 j) → lv_has ls 3 [(0, .ref (HB.size + 0)), (1, .int v1), (2, .int v2)] → f_X11_number_b50 F  G2 v1 v2 = some q → WX RM_X11_number p l e s m args below meth c HB (some (.int q.1)) (B_X11_number HB D y n κ σ0 q) H locs (F0 m 50 ls []) := by
    intro  σ H locs ls G2 v1 v2 hI e2 fr hl h
    unfold f_X11_number_b50 at h
    refine lv_iload_n hx hb dX11_number_50 rfl (lv_at hl 1 rfl) ?_
    refine lv_bipush (v := 6) hx hb dX11_number_51 (by decide) ?_
    refine lv_icmp_ne (tgt := 71) hx hb dX11_number_53 (by decide) (fun hc => ?_) (fun hc => ?_)
    · replace h := ite_f hc h
      exact b71  σ H locs ls G2 v1 v2  hI e2 fr (lv_sub hl [0, 1, 2] rfl) h
    · replace h := ite_t hc h
      refine lv_iload_n hx hb dX11_number_56 rfl (lv_at hl 2 rfl) ?_
      refine lv_aload_n hx hb dX11_number_57 rfl (lv_at hl 0 rfl) ?_
      refine gf_X11_13 hx hb hts hown hKK hI hN dX11_number_58 ?_
      refine lv_iconst (v := 5) hx hb dX11_number_61 (by decide) ?_
      obtain ⟨hin_, h⟩ := ck_e h
      refine la_14 hx hb hKK hI e2 (lc2 hN) (kc2 hk0) hin_ dX11_number_62 ?_
      refine lv_iadd hx hb dX11_number_63 ?_
      refine lv_bipush (v := 100) hx hb dX11_number_64 (by decide) ?_
      refine lv_icmp_le (tgt := 71) hx hb dX11_number_66 (by decide) (fun hc => ?_) (fun hc => ?_)
      · replace h := ite_t hc h
        exact b71  σ H locs ls G2 v1 v2  hI e2 fr (lv_sub hl [0, 1, 2] rfl) h
      · replace h := ite_f hc h
        refine lv_iconst (v := 0) hx hb dX11_number_69 (by decide) ?_
        have hq := Option.some.inj h
        exact W.zret (v := 0) (ty := .boolean) hx hb hr rfl (fun t ht hW => qc_mk (congrArg (fun z => Outcome.returned (some (Value.int z.1))) hq) (by rw [ht]; exact ⟨σ, hI.nil, e2.trans (congrArg (fun z => z.2) hq), fr⟩)) hI.2.2 dX11_number_70 hlocks
  obtain ⟨σ, hI, e2, fr⟩ : ∃ σ : St, IV HB D y n n κ σ [] s.heap ∧ σ 2 = G2 ∧ ∀ j, j ∉ W_X11_number → σ j = σ0 j := ⟨σ0, hI, e2, fun _ _ => rfl⟩
  show WX RM_X11_number p l e s m args below meth c HB (some (.int q.1)) (B_X11_number HB D y n κ σ0 q) s.heap [] (F0 m 0 ls [])
  obtain ⟨H, hH⟩ : ∃ H, H = s.heap := ⟨_, rfl⟩
  rw [← hH]
  rw [← hH] at hI
  unfold f_X11_number at h
  obtain ⟨locs, hlocs⟩ : ∃ x : List Loc, x = [] := ⟨_, rfl⟩
  rw [← hlocs] at hI ⊢
  refine lv_iload_n hx hb dX11_number_0 rfl (lv_at hl 1 rfl) ?_
  refine lv_iconst (v := 0) hx hb dX11_number_1 (by decide) ?_
  refine lv_bipush (v := 7) hx hb dX11_number_2 (by decide) ?_
  obtain ⟨q_4, hq_4, h⟩ := ob_e h
  refine r_callS (As := [.int v1, .int 0, .int 7]) (rest := []) hx hb hml hts hown (c_X11_within l HB D y F n κ σ hN v1 0 7  q_4 hq_4) cal_X11_within st_X11_within lm_X11_80 ⟨Nat.le_of_ble_eq_true rfl, Nat.le_of_ble_eq_true rfl⟩ hI.nil hKK rfl hl.1 hI.2.2 rfl (Nat.le_of_ble_eq_true rfl) dX11_number_4 ⟨Nat.le_of_ble_eq_true rfl, Nat.le_of_ble_eq_true rfl⟩ rfl rfl rfl (fun H locs hB hlo => ?_)
  have hI := hB.re hlo
  refine lv_if_eq (tgt := 27) hx hb dX11_number_7 (by decide) (fun hc => ?_) (fun hc => ?_)
  · replace h := ite_t hc h
    refine lv_iconst (v := 0) hx hb dX11_number_27 (by decide) ?_
    have hq := Option.some.inj h
    exact W.zret (v := 0) (ty := .boolean) hx hb hr rfl (fun t ht hW => qc_mk (congrArg (fun z => Outcome.returned (some (Value.int z.1))) hq) (by rw [ht]; exact ⟨σ, hI.nil, e2.trans (congrArg (fun z => z.2) hq), fr⟩)) hI.2.2 dX11_number_28 hlocks
  · replace h := ite_f hc h
    refine lv_iload_n hx hb dX11_number_10 rfl (lv_at hl 2 rfl) ?_
    refine r_gets hx hb hts hown hI0 hI (by rw [hI0.1.1, hI.1.1]; exact Nat.le_refl _) zs1 (gtb_t 589 (by decide +kernel) (by decide +kernel)) dX11_number_11 ?_
    refine lv_iload_n hx hb dX11_number_14 rfl (lv_at hl 1 rfl) ?_
    obtain ⟨hin_, h⟩ := ck_e h
    refine r_sld hx hb hI ws1 hin_ dX11_number_15 ?_
    refine r_gets hx hb hts hown hI0 hI (by rw [hI0.1.1, hI.1.1]; exact Nat.le_refl _) zs2 (gtb_t 591 (by decide +kernel) (by decide +kernel)) dX11_number_16 ?_
    refine lv_iload_n hx hb dX11_number_19 rfl (lv_at hl 1 rfl) ?_
    obtain ⟨hin_, h⟩ := ck_e h
    refine r_sld hx hb hI ws2 hin_ dX11_number_20 ?_
    obtain ⟨q_21, hq_21, h⟩ := ob_e h
    refine r_callS (As := [.int v2, .int (lnF v1.toNatClampNeg), .int (mnF v1.toNatClampNeg)]) (rest := []) hx hb hml hts hown (c_X11_within l HB D y F n κ σ hN v2 (lnF v1.toNatClampNeg) (mnF v1.toNatClampNeg)  q_21 hq_21) cal_X11_within st_X11_within lm_X11_80 ⟨Nat.le_of_ble_eq_true rfl, Nat.le_of_ble_eq_true rfl⟩ hI.nil hKK rfl hl.1 hI.2.2 rfl (Nat.le_of_ble_eq_true rfl) dX11_number_21 ⟨Nat.le_of_ble_eq_true rfl, Nat.le_of_ble_eq_true rfl⟩ rfl rfl rfl (fun H locs hB hlo => ?_)
    have hI := hB.re hlo
    refine lv_if_ne (tgt := 29) hx hb dX11_number_24 (by decide) (fun hc => ?_) (fun hc => ?_)
    · replace h := ite_f hc h
      refine lv_iload_n hx hb dX11_number_29 rfl (lv_at hl 1 rfl) ?_
      refine lv_iconst (v := 5) hx hb dX11_number_30 (by decide) ?_
      refine lv_icmp_ne (tgt := 50) hx hb dX11_number_31 (by decide) (fun hc => ?_) (fun hc => ?_)
      · replace h := ite_f hc h
        exact b50  σ H locs ls G2 v1 v2  hI e2 fr (lv_sub hl [0, 1, 2] rfl) h
      · replace h := ite_t hc h
        refine lv_iload_n hx hb dX11_number_34 rfl (lv_at hl 2 rfl) ?_
        refine lv_aload_n hx hb dX11_number_35 rfl (lv_at hl 0 rfl) ?_
        refine gf_X11_13 hx hb hts hown hKK hI hN dX11_number_36 ?_
        refine lv_bipush (v := 6) hx hb dX11_number_39 (by decide) ?_
        obtain ⟨hin_, h⟩ := ck_e h
        refine la_14 hx hb hKK hI e2 (lc2 hN) (kc2 hk0) hin_ dX11_number_41 ?_
        refine lv_iadd hx hb dX11_number_42 ?_
        refine lv_bipush (v := 100) hx hb dX11_number_43 (by decide) ?_
        refine lv_icmp_le (tgt := 50) hx hb dX11_number_45 (by decide) (fun hc => ?_) (fun hc => ?_)
        · replace h := ite_t hc h
          exact b50  σ H locs ls G2 v1 v2  hI e2 fr (lv_sub hl [0, 1, 2] rfl) h
        · replace h := ite_f hc h
          refine lv_iconst (v := 0) hx hb dX11_number_48 (by decide) ?_
          have hq := Option.some.inj h
          exact W.zret (v := 0) (ty := .boolean) hx hb hr rfl (fun t ht hW => qc_mk (congrArg (fun z => Outcome.returned (some (Value.int z.1))) hq) (by rw [ht]; exact ⟨σ, hI.nil, e2.trans (congrArg (fun z => z.2) hq), fr⟩)) hI.2.2 dX11_number_49 hlocks
    · replace h := ite_t hc h
      refine lv_iconst (v := 0) hx hb dX11_number_27 (by decide) ?_
      have hq := Option.some.inj h
      exact W.zret (v := 0) (ty := .boolean) hx hb hr rfl (fun t ht hW => qc_mk (congrArg (fun z => Outcome.returned (some (Value.int z.1))) hq) (by rw [ht]; exact ⟨σ, hI.nil, e2.trans (congrArg (fun z => z.2) hq), fr⟩)) hI.2.2 dX11_number_28 hlocks
noncomputable def f_X11_feedBytes_l3b (F : Nat)  (k3 : Grp → Grp → Int32 → Int32 → Option (Grp × Grp)) (G1 : Grp) (G3 : Grp) (v1 : Int32) (v2 : Int32) : Option (Grp × Grp) :=
  if v2 < 0 then some (G1, G3) else if 240 ≤ (G1.1 0 2) then some (G1, G3) else ck (G1.1 0 2) ((G3.2.2 1 0).getD 0) (bn (gI G3 1 (G1.1 0 2).toNatClampNeg (vp_nar .char ((((v1.toUInt32 >>> (v2.toUInt32 &&& Int32.toUInt32 31)).toInt32 &&& 255).toUInt32 % 65536).toInt32))) (fun G3_33 => bn (gI G1 0 2 ((G1.1 0 2) + 1)) (fun G1_41 => bn (v2 + (-8)) (fun v2_44 => k3 G1_41 G3_33 v1 v2_44))))
noncomputable def f_X11_feedBytes_l3 (F : Nat)  (fu : Nat) : Grp → Grp → Int32 → Int32 → Option (Grp × Grp) := Nat.rec (motive := fun _ => Grp → Grp → Int32 → Int32 → Option (Grp × Grp)) (fun _ _ _ _ => none) (fun _ ih => f_X11_feedBytes_l3b F  ih) fu
noncomputable def f_X11_feedBytes (F : Nat) (G1 : Grp) (G3 : Grp) (v1 : Int32) : Option (Grp × Grp) :=
  f_X11_feedBytes_l3 F  F G1 G3 v1 24
def RM_X11_feedBytes : Room := { frames := 0, cells := 0, slots := 0, locals := 0 }
abbrev W_X11_feedBytes : List Nat := [1, 3]
abbrev B_X11_feedBytes (HB : Heap) (D : va_G) (y : Nat → ClassId) (n : Nat) (κ : Nat → Nat) (σ0 : St) (q : Grp × Grp) : Heap → Prop := fun H => ∃ σ : St, IV HB D y n n κ σ [] H ∧ σ 1 = q.1 ∧ σ 3 = q.2 ∧ ∀ j, j ∉ W_X11_feedBytes → σ j = σ0 j
set_option maxRecDepth 100000 in
set_option maxHeartbeats 4000000 in
theorem c_X11_feedBytes (l : Launch) (HB : Heap) (D : va_G) (y : Nat → ClassId) (F n : Nat) (κ : Nat → Nat) (σ0 : St) (hN : N0 ≤ n) (v1 : Int32)  (G1 : Grp) (e1 : σ0 1 = G1) (G3 : Grp) (e3 : σ0 3 = G3) (q : Grp × Grp) (h : f_X11_feedBytes F G1 G3 v1 = some q) : MT l HB D y yX11_feedBytes cX11_feedBytes 3 none RM_X11_feedBytes [.ref (HB.size + 0), .int v1] (IV HB D y n n κ σ0 []) none (B_X11_feedBytes HB D y n κ σ0 q) := by
  refine Met.ofW (cc := cX11_feedBytes) (maxL := 3) (ret := none) (by decide) rfl ?_
  intro p e s m args below meth c s₁ BL hml hv
  obtain ⟨rfl, hI, hKK⟩ := hv
  have hx := BL.exec
  have hb := BL.bytes
  have hr := BL.returns
  have hts : ∀ w ∈ gtb, w.before _ s = true := fun w hw => atoms_spec BL.pre w (List.mem_cons_of_mem _ hw)
  have hml : c.maxLocals = 3 := hml
  have hown : s.vm.findClass RX11 = some m.cls := findClass_of_methodNamed BL.named
  have hlocks := BL.notSynchronized
  have hk0 := hI.1.2.2.2.2
  have hl := lv_entry ([.ref (HB.size + 0), .int v1]) (n := 3) (Nat.le_of_ble_eq_true rfl)
  rw [lg_entry_eq]
  generalize (lg_sl ([.ref (HB.size + 0), .int v1]) ++ List.replicate (3 - (lg_sl ([.ref (HB.size + 0), .int v1])).length) Slot.unset).toArray = ls at hl ⊢
  have hl : lv_has ls 3 [(0, .ref (HB.size + 0)), (1, .int v1)] := hl
  generalize hargs : ([.ref (HB.size + 0), .int v1] : List Value).toArray = args at *
  have b3 : ∀ (fu : Nat) (σ : St) (H : Heap) (locs : List Loc) (ls : Array Slot) (G1 : Grp) (G3 : Grp) (v1 : Int32) (v2 : Int32) , IV HB D y n n κ σ locs H → σ 1 = G1 → σ 3 = G3 → (∀ j, j ∉ W_X11_feedBytes → σ j = σ0 j) → lv_has ls 3 [(0, .ref (HB.size + 0)), (1, .int v1), (2, .int v2)] → f_X11_feedBytes_l3 F  fu G1 G3 v1 v2 = some q → WX RM_X11_feedBytes p l e s m args below meth c HB none (B_X11_feedBytes HB D y n κ σ0 q) H locs (F0 m 3 ls []) := by
    intro  fu
    induction fu with
    | zero =>
      intro σ H locs ls G1 G3 v1 v2 hI e1 e3 fr hl h
      exact absurd h (by intro h; cases h)
    | succ fu hk3 =>
      intro σ H locs ls G1 G3 v1 v2 hI e1 e3 fr hl h
      have h : f_X11_feedBytes_l3b F  (f_X11_feedBytes_l3 F  fu) G1 G3 v1 v2 = some q := h
      generalize f_X11_feedBytes_l3 F  fu = k3 at h hk3
      unfold f_X11_feedBytes_l3b at h
      refine lv_iload_n hx hb dX11_feedBytes_3 rfl (lv_at hl 2 rfl) ?_
      refine lv_if_lt (tgt := 50) hx hb dX11_feedBytes_4 (by decide) (fun hc => ?_) (fun hc => ?_)
      · replace h := ite_t hc h
        have hq := Option.some.inj h
        exact W.vret hx hb hr (fun t ht hW => qc_mk (rfl) (by rw [ht]; exact ⟨σ, hI.nil, e1.trans (congrArg (fun z => z.1) hq), e3.trans (congrArg (fun z => z.2) hq), fr⟩)) hI.2.2 dX11_feedBytes_50 hlocks
      · replace h := ite_f hc h
        refine lv_aload_n hx hb dX11_feedBytes_7 rfl (lv_at hl 0 rfl) ?_
        refine gt_X11_136 hx hb hts hown hKK hI e1 (lc0 hN) (kc0 hk0) dX11_feedBytes_8 ?_
        refine lv_sipush (v := 240) hx hb dX11_feedBytes_11 (by decide) ?_
        refine lv_icmp_ge (tgt := 50) hx hb dX11_feedBytes_14 (by decide) (fun hc => ?_) (fun hc => ?_)
        · replace h := ite_t hc h
          have hq := Option.some.inj h
          exact W.vret hx hb hr (fun t ht hW => qc_mk (rfl) (by rw [ht]; exact ⟨σ, hI.nil, e1.trans (congrArg (fun z => z.1) hq), e3.trans (congrArg (fun z => z.2) hq), fr⟩)) hI.2.2 dX11_feedBytes_50 hlocks
        · replace h := ite_f hc h
          refine lv_aload_n hx hb dX11_feedBytes_17 rfl (lv_at hl 0 rfl) ?_
          refine gf_X11_9 hx hb hts hown hKK hI hN dX11_feedBytes_18 ?_
          refine lv_aload_n hx hb dX11_feedBytes_21 rfl (lv_at hl 0 rfl) ?_
          refine gt_X11_136 hx hb hts hown hKK hI e1 (lc0 hN) (kc0 hk0) dX11_feedBytes_22 ?_
          refine lv_iload_n hx hb dX11_feedBytes_25 rfl (lv_at hl 1 rfl) ?_
          refine lv_iload_n hx hb dX11_feedBytes_26 rfl (lv_at hl 2 rfl) ?_
          refine lv_iushr hx hb dX11_feedBytes_27 rfl ?_
          refine lv_sipush (v := 255) hx hb dX11_feedBytes_28 (by decide) ?_
          refine lv_iand hx hb dX11_feedBytes_31 ?_
          refine lv_i2c hx hb dX11_feedBytes_32 rfl ?_
          obtain ⟨hin_, h⟩ := ck_e h
          obtain ⟨G3_33, qq, h⟩ := bn_e h
          refine sa_13 hx hb hKK hI e3 (lc1 hN) (kc1 hk0) hin_ dX11_feedBytes_33 (fun σ H locs hI ew ho => ?_)
          have e3 := ew.trans qq.symm
          have e1 := (ho 1 (nn rfl)).trans e1
          have fr := frs fr ho (by decide)
          refine lv_aload_n hx hb dX11_feedBytes_34 rfl (lv_at hl 0 rfl) ?_
          refine lv_dup hx hb dX11_feedBytes_35 rfl ?_
          refine gt_X11_136 hx hb hts hown hKK hI e1 (lc0 hN) (kc0 hk0) dX11_feedBytes_36 ?_
          refine lv_iconst (v := 1) hx hb dX11_feedBytes_39 (by decide) ?_
          refine lv_iadd hx hb dX11_feedBytes_40 ?_
          obtain ⟨G1_41, qq, h⟩ := bn_e h
          refine pt_X11_136 hx hb hts hown hKK hI e1 (lc0 hN) (kc0 hk0) dX11_feedBytes_41 (fun σ H locs hI ew ho => ?_)
          have e1 := ew.trans qq.symm
          have e3 := (ho 3 (nn rfl)).trans e3
          have fr := frs fr ho (by decide)
          obtain ⟨v2_44, qq, h⟩ := bn_e h
          refine lv_iinc (v := v2_44) (lv' := [(2, .int v2_44), (0, .ref (HB.size + 0)), (1, .int v1)]) hx hb dX11_feedBytes_44 hl (k := 2) rfl (by rw [qq]; rfl) (by decide) rfl (fun ls hl => ?_)
          refine lv_goto (tgt := 3) hx hb dX11_feedBytes_47 (by decide) ?_
          exact hk3 σ H locs ls G1_41 G3_33 v1 v2_44  hI e1 e3 fr (lv_sub hl [1, 2, 0] rfl) h
  obtain ⟨σ, hI, e1, e3, fr⟩ : ∃ σ : St, IV HB D y n n κ σ [] s.heap ∧ σ 1 = G1 ∧ σ 3 = G3 ∧ ∀ j, j ∉ W_X11_feedBytes → σ j = σ0 j := ⟨σ0, hI, e1, e3, fun _ _ => rfl⟩
  show WX RM_X11_feedBytes p l e s m args below meth c HB none (B_X11_feedBytes HB D y n κ σ0 q) s.heap [] (F0 m 0 ls [])
  generalize s.heap = H at hI ⊢
  unfold f_X11_feedBytes at h
  obtain ⟨locs, hlocs⟩ : ∃ x : List Loc, x = [] := ⟨_, rfl⟩
  rw [← hlocs] at hI ⊢
  refine lv_bipush (v := 24) hx hb dX11_feedBytes_0 (by decide) ?_
  refine lv_istore_n (lv' := [(2, .int 24), (0, .ref (HB.size + 0)), (1, .int v1)]) hx hb dX11_feedBytes_2 rfl hl (by decide) rfl (fun ls hl => ?_)
  exact b3  F σ H locs ls G1 G3 v1 24  hI e1 e3 fr (lv_sub hl [1, 2, 0] rfl) h
noncomputable def f_X11_feed (F : Nat) (G1 : Grp) (G3 : Grp) (v1 : Int32) (v2 : Int32) (v3 : Int32) (v4 : Int32) (v5 : Int32) : Option (Int32 × Grp × Grp) :=
  if (G1.1 0 2) ≤ 220 then ob (f_X11_feedBytes F G1 G3 v1) (fun q_14 => ob (f_X11_feedBytes F (q_14.1) (q_14.2) v2) (fun q_19 => ob (f_X11_feedBytes F (q_19.1) (q_19.2) v3) (fun q_24 => ob (f_X11_feedBytes F (q_24.1) (q_24.2) v4) (fun q_30 => ob (f_X11_feedBytes F (q_30.1) (q_30.2) v5) (fun q_36 => some ((q_36.1.1 0 2), q_36.1, q_36.2)))))) else some ((-1), G1, G3)
def RM_X11_feed : Room := { frames := 1, cells := 0, slots := 0, locals := 22 }
abbrev W_X11_feed : List Nat := [1, 3]
abbrev B_X11_feed (HB : Heap) (D : va_G) (y : Nat → ClassId) (n : Nat) (κ : Nat → Nat) (σ0 : St) (q : Int32 × Grp × Grp) : Heap → Prop := fun H => ∃ σ : St, IV HB D y n n κ σ [] H ∧ σ 1 = q.2.1 ∧ σ 3 = q.2.2 ∧ ∀ j, j ∉ W_X11_feed → σ j = σ0 j
set_option maxRecDepth 100000 in
set_option maxHeartbeats 4000000 in
theorem c_X11_feed (l : Launch) (HB : Heap) (D : va_G) (y : Nat → ClassId) (F n : Nat) (κ : Nat → Nat) (σ0 : St) (hN : N0 ≤ n) (v1 : Int32)  (v2 : Int32)  (v3 : Int32)  (v4 : Int32)  (v5 : Int32)  (G1 : Grp) (e1 : σ0 1 = G1) (G3 : Grp) (e3 : σ0 3 = G3) (q : Int32 × Grp × Grp) (h : f_X11_feed F G1 G3 v1 v2 v3 v4 v5 = some q) : MT l HB D y yX11_feed cX11_feed 6 (some .int) RM_X11_feed [.ref (HB.size + 0), .int v1, .int v2, .int v3, .int v4, .int v5] (IV HB D y n n κ σ0 []) (some (.int q.1)) (B_X11_feed HB D y n κ σ0 q) := by
  refine Met.ofW (cc := cX11_feed) (maxL := 6) (ret := (some .int)) (by decide) rfl ?_
  intro p e s m args below meth c s₁ BL hml hv
  obtain ⟨rfl, hI, hKK⟩ := hv
  have hx := BL.exec
  have hb := BL.bytes
  have hr := BL.returns
  have hts : ∀ w ∈ gtb, w.before _ s = true := fun w hw => atoms_spec BL.pre w (List.mem_cons_of_mem _ hw)
  have hml : c.maxLocals = 6 := hml
  have hown : s.vm.findClass RX11 = some m.cls := findClass_of_methodNamed BL.named
  have hlocks := BL.notSynchronized
  have hk0 := hI.1.2.2.2.2
  have hl := lv_entry ([.ref (HB.size + 0), .int v1, .int v2, .int v3, .int v4, .int v5]) (n := 6) (Nat.le_of_ble_eq_true rfl)
  rw [lg_entry_eq]
  generalize (lg_sl ([.ref (HB.size + 0), .int v1, .int v2, .int v3, .int v4, .int v5]) ++ List.replicate (6 - (lg_sl ([.ref (HB.size + 0), .int v1, .int v2, .int v3, .int v4, .int v5])).length) Slot.unset).toArray = ls at hl ⊢
  have hl : lv_has ls 6 [(0, .ref (HB.size + 0)), (1, .int v1), (2, .int v2), (3, .int v3), (4, .int v4), (5, .int v5)] := hl
  generalize hargs : ([.ref (HB.size + 0), .int v1, .int v2, .int v3, .int v4, .int v5] : List Value).toArray = args at *
  obtain ⟨σ, hI, e1, e3, fr⟩ : ∃ σ : St, IV HB D y n n κ σ [] s.heap ∧ σ 1 = G1 ∧ σ 3 = G3 ∧ ∀ j, j ∉ W_X11_feed → σ j = σ0 j := ⟨σ0, hI, e1, e3, fun _ _ => rfl⟩
  show WX RM_X11_feed p l e s m args below meth c HB (some (.int q.1)) (B_X11_feed HB D y n κ σ0 q) s.heap [] (F0 m 0 ls [])
  generalize s.heap = H at hI ⊢
  unfold f_X11_feed at h
  obtain ⟨locs, hlocs⟩ : ∃ x : List Loc, x = [] := ⟨_, rfl⟩
  rw [← hlocs] at hI ⊢
  refine lv_aload_n hx hb dX11_feed_0 rfl (lv_at hl 0 rfl) ?_
  refine gt_X11_136 hx hb hts hown hKK hI e1 (lc0 hN) (kc0 hk0) dX11_feed_1 ?_
  refine lv_sipush (v := 220) hx hb dX11_feed_4 (by decide) ?_
  refine lv_icmp_le (tgt := 12) hx hb dX11_feed_7 (by decide) (fun hc => ?_) (fun hc => ?_)
  · replace h := ite_t hc h
    refine lv_aload_n hx hb dX11_feed_12 rfl (lv_at hl 0 rfl) ?_
    refine lv_iload_n hx hb dX11_feed_13 rfl (lv_at hl 1 rfl) ?_
    obtain ⟨q_14, hq_14, h⟩ := ob_e h
    refine r_callV (As := [.int v1]) (rest := []) hx hb hml hts hown (c_X11_feedBytes l HB D y F n κ σ hN v1 G1 e1 G3 e3 q_14 hq_14) cal_X11_feedBytes im_X11_feedBytes se_X11_feedBytes lm_X11_139 ⟨Nat.le_of_ble_eq_true rfl, Nat.le_of_ble_eq_true rfl⟩ hI.nil hKK (r_recv hKK hI (hE11 HB.size y) rfl (lc0 hN) (kc0 hk0)) rfl hl.1 hI.2.2 rfl (Nat.le_of_ble_eq_true rfl) dX11_feed_14 ⟨Nat.le_of_ble_eq_true rfl, Nat.le_of_ble_eq_true rfl⟩ rfl rfl rfl (fun H locs hB hlo => ?_)
    obtain ⟨σ, hB, en1, en3, ho⟩ := hB
    have hI := hB.re hlo
    have e1 := en1
    have e3 := en3
    have fr := frc fr ho (by decide)
    refine lv_aload_n hx hb dX11_feed_17 rfl (lv_at hl 0 rfl) ?_
    refine lv_iload_n hx hb dX11_feed_18 rfl (lv_at hl 2 rfl) ?_
    obtain ⟨q_19, hq_19, h⟩ := ob_e h
    refine r_callV (As := [.int v2]) (rest := []) hx hb hml hts hown (c_X11_feedBytes l HB D y F n κ σ hN v2 (q_14.1) e1 (q_14.2) e3 q_19 hq_19) cal_X11_feedBytes im_X11_feedBytes se_X11_feedBytes lm_X11_139 ⟨Nat.le_of_ble_eq_true rfl, Nat.le_of_ble_eq_true rfl⟩ hI.nil hKK (r_recv hKK hI (hE11 HB.size y) rfl (lc0 hN) (kc0 hk0)) rfl hl.1 hI.2.2 rfl (Nat.le_of_ble_eq_true rfl) dX11_feed_19 ⟨Nat.le_of_ble_eq_true rfl, Nat.le_of_ble_eq_true rfl⟩ rfl rfl rfl (fun H locs hB hlo => ?_)
    obtain ⟨σ, hB, en1, en3, ho⟩ := hB
    have hI := hB.re hlo
    have e1 := en1
    have e3 := en3
    have fr := frc fr ho (by decide)
    refine lv_aload_n hx hb dX11_feed_22 rfl (lv_at hl 0 rfl) ?_
    refine lv_iload_n hx hb dX11_feed_23 rfl (lv_at hl 3 rfl) ?_
    obtain ⟨q_24, hq_24, h⟩ := ob_e h
    refine r_callV (As := [.int v3]) (rest := []) hx hb hml hts hown (c_X11_feedBytes l HB D y F n κ σ hN v3 (q_19.1) e1 (q_19.2) e3 q_24 hq_24) cal_X11_feedBytes im_X11_feedBytes se_X11_feedBytes lm_X11_139 ⟨Nat.le_of_ble_eq_true rfl, Nat.le_of_ble_eq_true rfl⟩ hI.nil hKK (r_recv hKK hI (hE11 HB.size y) rfl (lc0 hN) (kc0 hk0)) rfl hl.1 hI.2.2 rfl (Nat.le_of_ble_eq_true rfl) dX11_feed_24 ⟨Nat.le_of_ble_eq_true rfl, Nat.le_of_ble_eq_true rfl⟩ rfl rfl rfl (fun H locs hB hlo => ?_)
    obtain ⟨σ, hB, en1, en3, ho⟩ := hB
    have hI := hB.re hlo
    have e1 := en1
    have e3 := en3
    have fr := frc fr ho (by decide)
    refine lv_aload_n hx hb dX11_feed_27 rfl (lv_at hl 0 rfl) ?_
    refine lv_iload hx hb dX11_feed_28 (lv_at hl 4 rfl) ?_
    obtain ⟨q_30, hq_30, h⟩ := ob_e h
    refine r_callV (As := [.int v4]) (rest := []) hx hb hml hts hown (c_X11_feedBytes l HB D y F n κ σ hN v4 (q_24.1) e1 (q_24.2) e3 q_30 hq_30) cal_X11_feedBytes im_X11_feedBytes se_X11_feedBytes lm_X11_139 ⟨Nat.le_of_ble_eq_true rfl, Nat.le_of_ble_eq_true rfl⟩ hI.nil hKK (r_recv hKK hI (hE11 HB.size y) rfl (lc0 hN) (kc0 hk0)) rfl hl.1 hI.2.2 rfl (Nat.le_of_ble_eq_true rfl) dX11_feed_30 ⟨Nat.le_of_ble_eq_true rfl, Nat.le_of_ble_eq_true rfl⟩ rfl rfl rfl (fun H locs hB hlo => ?_)
    obtain ⟨σ, hB, en1, en3, ho⟩ := hB
    have hI := hB.re hlo
    have e1 := en1
    have e3 := en3
    have fr := frc fr ho (by decide)
    refine lv_aload_n hx hb dX11_feed_33 rfl (lv_at hl 0 rfl) ?_
    refine lv_iload hx hb dX11_feed_34 (lv_at hl 5 rfl) ?_
    obtain ⟨q_36, hq_36, h⟩ := ob_e h
    refine r_callV (As := [.int v5]) (rest := []) hx hb hml hts hown (c_X11_feedBytes l HB D y F n κ σ hN v5 (q_30.1) e1 (q_30.2) e3 q_36 hq_36) cal_X11_feedBytes im_X11_feedBytes se_X11_feedBytes lm_X11_139 ⟨Nat.le_of_ble_eq_true rfl, Nat.le_of_ble_eq_true rfl⟩ hI.nil hKK (r_recv hKK hI (hE11 HB.size y) rfl (lc0 hN) (kc0 hk0)) rfl hl.1 hI.2.2 rfl (Nat.le_of_ble_eq_true rfl) dX11_feed_36 ⟨Nat.le_of_ble_eq_true rfl, Nat.le_of_ble_eq_true rfl⟩ rfl rfl rfl (fun H locs hB hlo => ?_)
    obtain ⟨σ, hB, en1, en3, ho⟩ := hB
    have hI := hB.re hlo
    have e1 := en1
    have e3 := en3
    have fr := frc fr ho (by decide)
    refine lv_aload_n hx hb dX11_feed_39 rfl (lv_at hl 0 rfl) ?_
    refine gt_X11_136 hx hb hts hown hKK hI e1 (lc0 hN) (kc0 hk0) dX11_feed_40 ?_
    have hq := Option.some.inj h
    exact W.iret (v := (q_36.1.1 0 2)) hx hb hr (fun t ht hW => qc_mk (congrArg (fun z => Outcome.returned (some (Value.int z.1))) hq) (by rw [ht]; exact ⟨σ, hI.nil, e1.trans (congrArg (fun z => z.2.1) hq), e3.trans (congrArg (fun z => z.2.2) hq), fr⟩)) hI.2.2 dX11_feed_43 hlocks
  · replace h := ite_f hc h
    refine lv_iconst (v := (-1)) hx hb dX11_feed_10 (by decide) ?_
    have hq := Option.some.inj h
    exact W.iret (v := (-1)) hx hb hr (fun t ht hW => qc_mk (congrArg (fun z => Outcome.returned (some (Value.int z.1))) hq) (by rw [ht]; exact ⟨σ, hI.nil, e1.trans (congrArg (fun z => z.2.1) hq), e3.trans (congrArg (fun z => z.2.2) hq), fr⟩)) hI.2.2 dX11_feed_11 hlocks
