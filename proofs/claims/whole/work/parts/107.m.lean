noncomputable def f_X11_rules (F : Nat) (G1 : Grp) (G3 : Grp) (G4 : Grp) (v1 : Int32) : Option (Int32 × Grp × Grp) :=
  if v1 < 0 then some ((-1), G1, G4) else if 200 < v1 then some ((-1), G1, G4) else if v1 ≤ (G1.1 0 2) then om (G1.2.2 0 5) (none) (fun t_22 => ob (f_X7_parse F G3 G4 t_22 1 v1) (fun q_30 => bn (q_30.1) (fun v2_33 => bn (gI G1 0 2 0) (fun G1_36 => if v2_33 = 0 then om (G1_36.2.2 0 4) (om (G1_36.2.2 0 5) (bn (gR G1_36 0 4 none) (fun G1_53 => bn (gR G1_53 0 5 none) (fun G1_58 => some (v2_33, G1_58, q_30.2)))) (fun t_50 => bn (gR G1_36 0 4 (some t_50)) (fun G1_53 => bn (gR G1_53 0 5 none) (fun G1_58 => some (v2_33, G1_58, q_30.2))))) (fun t_44 => om (G1_36.2.2 0 5) (bn (gR G1_36 0 4 none) (fun G1_53 => bn (gR G1_53 0 5 (some t_44)) (fun G1_58 => some (v2_33, G1_58, q_30.2)))) (fun t_50 => bn (gR G1_36 0 4 (some t_50)) (fun G1_53 => bn (gR G1_53 0 5 (some t_44)) (fun G1_58 => some (v2_33, G1_58, q_30.2))))) else some (v2_33, G1_36, q_30.2))))) else some ((-1), G1, G4)
def RM_X11_rules : Room := { frames := 6, cells := 0, slots := 0, locals := 128 }
abbrev W_X11_rules : List Nat := [1, 4]
abbrev B_X11_rules (HB : Heap) (D : va_G) (y : Nat → ClassId) (n : Nat) (κ : Nat → Nat) (σ0 : St) (q : Int32 × Grp × Grp) : Heap → Prop := fun H => ∃ σ : St, IV HB D y n n κ σ [] H ∧ σ 1 = q.2.1 ∧ σ 4 = q.2.2 ∧ ∀ j, j ∉ W_X11_rules → σ j = σ0 j
set_option maxRecDepth 100000 in
set_option maxHeartbeats 4000000 in
theorem c_X11_rules (l : Launch) (HB : Heap) (D : va_G) (y : Nat → ClassId) (F n : Nat) (κ : Nat → Nat) (σ0 : St) (hN : N0 ≤ n) (v1 : Int32)  (G1 : Grp) (e1 : σ0 1 = G1) (G3 : Grp) (e3 : σ0 3 = G3) (G4 : Grp) (e4 : σ0 4 = G4) (q : Int32 × Grp × Grp) (h : f_X11_rules F G1 G3 G4 v1 = some q) : MT l HB D y yX11_rules cX11_rules 4 (some .int) RM_X11_rules [.ref (HB.size + 0), .int v1] (IV HB D y n n κ σ0 []) (some (.int q.1)) (B_X11_rules HB D y n κ σ0 q) := by
  refine Met.ofW (cc := cX11_rules) (maxL := 4) (ret := (some .int)) (by decide) rfl ?_
  intro p e s m args below meth c s₁ BL hml hv
  obtain ⟨rfl, hI, hKK⟩ := hv
  have hx := BL.exec
  have hb := BL.bytes
  have hr := BL.returns
  have hts : ∀ w ∈ gtb, w.before _ s = true := fun w hw => atoms_spec BL.pre w (List.mem_cons_of_mem _ hw)
  have hml : c.maxLocals = 4 := hml
  have hown : s.vm.findClass RX11 = some m.cls := findClass_of_methodNamed BL.named
  have hlocks := BL.notSynchronized
  have hk0 := hI.1.2.2.2.2
  have hl := lv_entry ([.ref (HB.size + 0), .int v1]) (n := 4) (Nat.le_of_ble_eq_true rfl)
  rw [lg_entry_eq]
  generalize (lg_sl ([.ref (HB.size + 0), .int v1]) ++ List.replicate (4 - (lg_sl ([.ref (HB.size + 0), .int v1])).length) Slot.unset).toArray = ls at hl ⊢
  have hl : lv_has ls 4 [(0, .ref (HB.size + 0)), (1, .int v1)] := hl
  generalize hargs : ([.ref (HB.size + 0), .int v1] : List Value).toArray = args at *
  obtain ⟨σ, hI, e1, e3, e4, fr⟩ : ∃ σ : St, IV HB D y n n κ σ [] s.heap ∧ σ 1 = G1 ∧ σ 3 = G3 ∧ σ 4 = G4 ∧ ∀ j, j ∉ W_X11_rules → σ j = σ0 j := ⟨σ0, hI, e1, e3, e4, fun _ _ => rfl⟩
  show WX RM_X11_rules p l e s m args below meth c HB (some (.int q.1)) (B_X11_rules HB D y n κ σ0 q) s.heap [] (F0 m 0 ls [])
  generalize s.heap = H at hI ⊢
  unfold f_X11_rules at h
  obtain ⟨locs, hlocs⟩ : ∃ x : List Loc, x = [] := ⟨_, rfl⟩
  rw [← hlocs] at hI ⊢
  refine lv_iload_n hx hb dX11_rules_0 rfl (lv_at hl 1 rfl) ?_
  refine lv_if_lt (tgt := 19) hx hb dX11_rules_1 (by decide) (fun hc => ?_) (fun hc => ?_)
  · replace h := ite_t hc h
    refine lv_iconst (v := (-1)) hx hb dX11_rules_19 (by decide) ?_
    have hq := Option.some.inj h
    exact W.iret (v := (-1)) hx hb hr (fun t ht hW => qc_mk (congrArg (fun z => Outcome.returned (some (Value.int z.1))) hq) (by rw [ht]; exact ⟨σ, hI.nil, e1.trans (congrArg (fun z => z.2.1) hq), e4.trans (congrArg (fun z => z.2.2) hq), fr⟩)) hI.2.2 dX11_rules_20 hlocks
  · replace h := ite_f hc h
    refine lv_iload_n hx hb dX11_rules_4 rfl (lv_at hl 1 rfl) ?_
    refine lv_sipush (v := 200) hx hb dX11_rules_5 (by decide) ?_
    refine lv_icmp_gt (tgt := 19) hx hb dX11_rules_8 (by decide) (fun hc => ?_) (fun hc => ?_)
    · replace h := ite_t hc h
      refine lv_iconst (v := (-1)) hx hb dX11_rules_19 (by decide) ?_
      have hq := Option.some.inj h
      exact W.iret (v := (-1)) hx hb hr (fun t ht hW => qc_mk (congrArg (fun z => Outcome.returned (some (Value.int z.1))) hq) (by rw [ht]; exact ⟨σ, hI.nil, e1.trans (congrArg (fun z => z.2.1) hq), e4.trans (congrArg (fun z => z.2.2) hq), fr⟩)) hI.2.2 dX11_rules_20 hlocks
    · replace h := ite_f hc h
      refine lv_iload_n hx hb dX11_rules_11 rfl (lv_at hl 1 rfl) ?_
      refine lv_aload_n hx hb dX11_rules_12 rfl (lv_at hl 0 rfl) ?_
      refine gt_X11_136 hx hb hts hown hKK hI e1 (lc0 hN) (kc0 hk0) dX11_rules_13 ?_
      refine lv_icmp_le (tgt := 21) hx hb dX11_rules_16 (by decide) (fun hc => ?_) (fun hc => ?_)
      · replace h := ite_t hc h
        refine lv_aload_n hx hb dX11_rules_21 rfl (lv_at hl 0 rfl) ?_
        refine gt_X11_24 hx hb hts hown hKK hI e1 (lc0 hN) (kc0 hk0) dX11_rules_22 ?_
        rcases om_e h with ⟨eo, h⟩ | ⟨t_22, eo, h⟩
        · refine topn eo ?_
          refine lv_aload_n hx hb dX11_rules_25 rfl (lv_at hl 0 rfl) ?_
          refine gf_X11_9 hx hb hts hown hKK hI hN dX11_rules_26 ?_
          refine lv_iload_n hx hb dX11_rules_29 rfl (lv_at hl 1 rfl) ?_
          cases h
        · refine topr eo ?_
          obtain ⟨ha_22, hk_22⟩ := typF hI (lc0 hN) (kc0 hk0) 1 rfl e1 eo
          refine lv_aload_n hx hb dX11_rules_25 rfl (lv_at hl 0 rfl) ?_
          refine gf_X11_9 hx hb hts hown hKK hI hN dX11_rules_26 ?_
          refine lv_iload_n hx hb dX11_rules_29 rfl (lv_at hl 1 rfl) ?_
          obtain ⟨q_30, hq_30, h⟩ := ob_e h
          refine r_callV (As := [.ref (HB.size + 1), .int v1]) (rest := []) hx hb hml hts hown (c_X7_parse l HB D y F n κ σ hN t_22 ha_22 hk_22 1 (lc1 hN) (kc1 hk0) v1 G3 e3 G4 e4 q_30 hq_30) cal_X7_parse im_X7_parse se_X7_parse lm_X11_143 ⟨Nat.le_of_ble_eq_true rfl, Nat.le_of_ble_eq_true rfl⟩ hI.nil hKK (r_recv hKK hI (hE7 HB.size y) rfl ha_22 hk_22) rfl hl.1 hI.2.2 rfl (Nat.le_of_ble_eq_true rfl) dX11_rules_30 ⟨Nat.le_of_ble_eq_true rfl, Nat.le_of_ble_eq_true rfl⟩ rfl rfl rfl (fun H locs hB hlo => ?_)
          obtain ⟨σ, hB, en4, ho⟩ := hB
          have hI := hB.re hlo
          have e4 := en4
          have e1 := (ho 1 (ni rfl)).trans e1
          have e3 := (ho 3 (ni rfl)).trans e3
          have fr := frc fr ho (by decide)
          obtain ⟨v2_33, qq, h⟩ := bn_e h
          refine topi qq ?_
          refine lv_istore_n (lv' := [(2, .int v2_33), (0, .ref (HB.size + 0)), (1, .int v1)]) hx hb dX11_rules_33 rfl hl (by decide) rfl (fun ls hl => ?_)
          refine lv_aload_n hx hb dX11_rules_34 rfl (lv_at hl 1 rfl) ?_
          refine lv_iconst (v := 0) hx hb dX11_rules_35 (by decide) ?_
          obtain ⟨G1_36, qq, h⟩ := bn_e h
          refine pt_X11_136 hx hb hts hown hKK hI e1 (lc0 hN) (kc0 hk0) dX11_rules_36 (fun σ H locs hI ew ho => ?_)
          have e1 := ew.trans qq.symm
          have e3 := (ho 3 (nn rfl)).trans e3
          have e4 := (ho 4 (nn rfl)).trans e4
          have fr := frs fr ho (by decide)
          refine lv_iload_n hx hb dX11_rules_39 rfl (lv_at hl 0 rfl) ?_
          refine lv_if_ne (tgt := 61) hx hb dX11_rules_40 (by decide) (fun hc => ?_) (fun hc => ?_)
          · replace h := ite_f hc h
            refine lv_iload_n hx hb dX11_rules_61 rfl (lv_at hl 0 rfl) ?_
            have hq := Option.some.inj h
            exact W.iret (v := v2_33) hx hb hr (fun t ht hW => qc_mk (congrArg (fun z => Outcome.returned (some (Value.int z.1))) hq) (by rw [ht]; exact ⟨σ, hI.nil, e1.trans (congrArg (fun z => z.2.1) hq), e4.trans (congrArg (fun z => z.2.2) hq), fr⟩)) hI.2.2 dX11_rules_62 hlocks
          · replace h := ite_t hc h
            refine lv_aload_n hx hb dX11_rules_43 rfl (lv_at hl 1 rfl) ?_
            refine gt_X11_20 hx hb hts hown hKK hI e1 (lc0 hN) (kc0 hk0) dX11_rules_44 ?_
            rcases om_e h with ⟨eo, h⟩ | ⟨t_44, eo, h⟩
            · refine topn eo ?_
              refine lv_astore_nN (lv' := [(3, .null), (2, .int v2_33), (0, .ref (HB.size + 0)), (1, .int v1)]) hx hb dX11_rules_47 rfl hl (by decide) rfl (fun ls hl => ?_)
              refine lv_aload_n hx hb dX11_rules_48 rfl (lv_at hl 2 rfl) ?_
              refine lv_aload_n hx hb dX11_rules_49 rfl (lv_at hl 2 rfl) ?_
              refine gt_X11_24 hx hb hts hown hKK hI e1 (lc0 hN) (kc0 hk0) dX11_rules_50 ?_
              rcases om_e h with ⟨eo, h⟩ | ⟨t_50, eo, h⟩
              · refine topn eo ?_
                obtain ⟨G1_53, qq, h⟩ := bn_e h
                refine pt_X11_20 hx hb hts hown hKK hI e1 (lc0 hN) (kc0 hk0) (x := none) (fun hT => hT.setT (nn rfl) (kc0 hk0) (K := 7) (by decide) (by decide) (fun t q => by cases q)) dX11_rules_53 (fun σ H locs hI ew ho => ?_)
                have e1 := ew.trans qq.symm
                have e3 := (ho 3 (nn rfl)).trans e3
                have e4 := (ho 4 (nn rfl)).trans e4
                have fr := frs fr ho (by decide)
                refine lv_aload_n hx hb dX11_rules_56 rfl (lv_at hl 2 rfl) ?_
                refine lv_aload_nN hx hb dX11_rules_57 rfl (lv_at hl 0 rfl) ?_
                obtain ⟨G1_58, qq, h⟩ := bn_e h
                refine pt_X11_24 hx hb hts hown hKK hI e1 (lc0 hN) (kc0 hk0) (x := none) (fun hT => hT.setT (nn rfl) (kc0 hk0) (K := 7) (by decide) (by decide) (fun t q => by cases q)) dX11_rules_58 (fun σ H locs hI ew ho => ?_)
                have e1 := ew.trans qq.symm
                have e3 := (ho 3 (nn rfl)).trans e3
                have e4 := (ho 4 (nn rfl)).trans e4
                have fr := frs fr ho (by decide)
                refine lv_iload_n hx hb dX11_rules_61 rfl (lv_at hl 1 rfl) ?_
                have hq := Option.some.inj h
                exact W.iret (v := v2_33) hx hb hr (fun t ht hW => qc_mk (congrArg (fun z => Outcome.returned (some (Value.int z.1))) hq) (by rw [ht]; exact ⟨σ, hI.nil, e1.trans (congrArg (fun z => z.2.1) hq), e4.trans (congrArg (fun z => z.2.2) hq), fr⟩)) hI.2.2 dX11_rules_62 hlocks
              · refine topr eo ?_
                obtain ⟨ha_50, hk_50⟩ := typF hI (lc0 hN) (kc0 hk0) 1 rfl e1 eo
                obtain ⟨G1_53, qq, h⟩ := bn_e h
                refine pt_X11_20 hx hb hts hown hKK hI e1 (lc0 hN) (kc0 hk0) (x := (some t_50)) (fun hT => hT.setT (nn rfl) (kc0 hk0) (K := 7) (by decide) (by decide) (fun t q => by cases q; exact ⟨ha_50, hk_50⟩)) dX11_rules_53 (fun σ H locs hI ew ho => ?_)
                have e1 := ew.trans qq.symm
                have e3 := (ho 3 (nn rfl)).trans e3
                have e4 := (ho 4 (nn rfl)).trans e4
                have fr := frs fr ho (by decide)
                refine lv_aload_n hx hb dX11_rules_56 rfl (lv_at hl 2 rfl) ?_
                refine lv_aload_nN hx hb dX11_rules_57 rfl (lv_at hl 0 rfl) ?_
                obtain ⟨G1_58, qq, h⟩ := bn_e h
                refine pt_X11_24 hx hb hts hown hKK hI e1 (lc0 hN) (kc0 hk0) (x := none) (fun hT => hT.setT (nn rfl) (kc0 hk0) (K := 7) (by decide) (by decide) (fun t q => by cases q)) dX11_rules_58 (fun σ H locs hI ew ho => ?_)
                have e1 := ew.trans qq.symm
                have e3 := (ho 3 (nn rfl)).trans e3
                have e4 := (ho 4 (nn rfl)).trans e4
                have fr := frs fr ho (by decide)
                refine lv_iload_n hx hb dX11_rules_61 rfl (lv_at hl 1 rfl) ?_
                have hq := Option.some.inj h
                exact W.iret (v := v2_33) hx hb hr (fun t ht hW => qc_mk (congrArg (fun z => Outcome.returned (some (Value.int z.1))) hq) (by rw [ht]; exact ⟨σ, hI.nil, e1.trans (congrArg (fun z => z.2.1) hq), e4.trans (congrArg (fun z => z.2.2) hq), fr⟩)) hI.2.2 dX11_rules_62 hlocks
            · refine topr eo ?_
              obtain ⟨ha_44, hk_44⟩ := typF hI (lc0 hN) (kc0 hk0) 0 rfl e1 eo
              refine lv_astore_n (lv' := [(3, .ref (HB.size + t_44)), (2, .int v2_33), (0, .ref (HB.size + 0)), (1, .int v1)]) hx hb dX11_rules_47 rfl hl (by decide) rfl (fun ls hl => ?_)
              refine lv_aload_n hx hb dX11_rules_48 rfl (lv_at hl 2 rfl) ?_
              refine lv_aload_n hx hb dX11_rules_49 rfl (lv_at hl 2 rfl) ?_
              refine gt_X11_24 hx hb hts hown hKK hI e1 (lc0 hN) (kc0 hk0) dX11_rules_50 ?_
              rcases om_e h with ⟨eo, h⟩ | ⟨t_50, eo, h⟩
              · refine topn eo ?_
                obtain ⟨G1_53, qq, h⟩ := bn_e h
                refine pt_X11_20 hx hb hts hown hKK hI e1 (lc0 hN) (kc0 hk0) (x := none) (fun hT => hT.setT (nn rfl) (kc0 hk0) (K := 7) (by decide) (by decide) (fun t q => by cases q)) dX11_rules_53 (fun σ H locs hI ew ho => ?_)
                have e1 := ew.trans qq.symm
                have e3 := (ho 3 (nn rfl)).trans e3
                have e4 := (ho 4 (nn rfl)).trans e4
                have fr := frs fr ho (by decide)
                refine lv_aload_n hx hb dX11_rules_56 rfl (lv_at hl 2 rfl) ?_
                refine lv_aload_n hx hb dX11_rules_57 rfl (lv_at hl 0 rfl) ?_
                obtain ⟨G1_58, qq, h⟩ := bn_e h
                refine pt_X11_24 hx hb hts hown hKK hI e1 (lc0 hN) (kc0 hk0) (x := (some t_44)) (fun hT => hT.setT (nn rfl) (kc0 hk0) (K := 7) (by decide) (by decide) (fun t q => by cases q; exact ⟨ha_44, hk_44⟩)) dX11_rules_58 (fun σ H locs hI ew ho => ?_)
                have e1 := ew.trans qq.symm
                have e3 := (ho 3 (nn rfl)).trans e3
                have e4 := (ho 4 (nn rfl)).trans e4
                have fr := frs fr ho (by decide)
                refine lv_iload_n hx hb dX11_rules_61 rfl (lv_at hl 1 rfl) ?_
                have hq := Option.some.inj h
                exact W.iret (v := v2_33) hx hb hr (fun t ht hW => qc_mk (congrArg (fun z => Outcome.returned (some (Value.int z.1))) hq) (by rw [ht]; exact ⟨σ, hI.nil, e1.trans (congrArg (fun z => z.2.1) hq), e4.trans (congrArg (fun z => z.2.2) hq), fr⟩)) hI.2.2 dX11_rules_62 hlocks
              · refine topr eo ?_
                obtain ⟨ha_50, hk_50⟩ := typF hI (lc0 hN) (kc0 hk0) 1 rfl e1 eo
                obtain ⟨G1_53, qq, h⟩ := bn_e h
                refine pt_X11_20 hx hb hts hown hKK hI e1 (lc0 hN) (kc0 hk0) (x := (some t_50)) (fun hT => hT.setT (nn rfl) (kc0 hk0) (K := 7) (by decide) (by decide) (fun t q => by cases q; exact ⟨ha_50, hk_50⟩)) dX11_rules_53 (fun σ H locs hI ew ho => ?_)
                have e1 := ew.trans qq.symm
                have e3 := (ho 3 (nn rfl)).trans e3
                have e4 := (ho 4 (nn rfl)).trans e4
                have fr := frs fr ho (by decide)
                refine lv_aload_n hx hb dX11_rules_56 rfl (lv_at hl 2 rfl) ?_
                refine lv_aload_n hx hb dX11_rules_57 rfl (lv_at hl 0 rfl) ?_
                obtain ⟨G1_58, qq, h⟩ := bn_e h
                refine pt_X11_24 hx hb hts hown hKK hI e1 (lc0 hN) (kc0 hk0) (x := (some t_44)) (fun hT => hT.setT (nn rfl) (kc0 hk0) (K := 7) (by decide) (by decide) (fun t q => by cases q; exact ⟨ha_44, hk_44⟩)) dX11_rules_58 (fun σ H locs hI ew ho => ?_)
                have e1 := ew.trans qq.symm
                have e3 := (ho 3 (nn rfl)).trans e3
                have e4 := (ho 4 (nn rfl)).trans e4
                have fr := frs fr ho (by decide)
                refine lv_iload_n hx hb dX11_rules_61 rfl (lv_at hl 1 rfl) ?_
                have hq := Option.some.inj h
                exact W.iret (v := v2_33) hx hb hr (fun t ht hW => qc_mk (congrArg (fun z => Outcome.returned (some (Value.int z.1))) hq) (by rw [ht]; exact ⟨σ, hI.nil, e1.trans (congrArg (fun z => z.2.1) hq), e4.trans (congrArg (fun z => z.2.2) hq), fr⟩)) hI.2.2 dX11_rules_62 hlocks
      · replace h := ite_f hc h
        refine lv_iconst (v := (-1)) hx hb dX11_rules_19 (by decide) ?_
        have hq := Option.some.inj h
        exact W.iret (v := (-1)) hx hb hr (fun t ht hW => qc_mk (congrArg (fun z => Outcome.returned (some (Value.int z.1))) hq) (by rw [ht]; exact ⟨σ, hI.nil, e1.trans (congrArg (fun z => z.2.1) hq), e4.trans (congrArg (fun z => z.2.2) hq), fr⟩)) hI.2.2 dX11_rules_20 hlocks
noncomputable def f_X11_tapeHasText_l24b (F : Nat)  (k24 : Grp → Grp → Int32 → Int32 → Option (Int32)) (G1 : Grp) (G3 : Grp) (v1 : Int32) (v2 : Int32) : Option (Int32) :=
  if v1 ≤ v2 then some 1 else ck v2 ((G3.2.2 1 0).getD 0) (ob (f_X11_isWordSign F (G3.1 1 v2.toNatClampNeg)) (fun q_35 => if q_35 = 0 then ck v2 ((G3.2.2 1 0).getD 0) (if (G3.1 1 v2.toNatClampNeg) = 32 then bn (v2 + 1) (fun v2_65 => k24 G1 G3 v1 v2_65) else ck v2 ((G3.2.2 1 0).getD 0) (if (G3.1 1 v2.toNatClampNeg) = 10 then bn (v2 + 1) (fun v2_65 => k24 G1 G3 v1 v2_65) else some 0)) else bn (v2 + 1) (fun v2_65 => k24 G1 G3 v1 v2_65)))
noncomputable def f_X11_tapeHasText_l24 (F : Nat)  (fu : Nat) : Grp → Grp → Int32 → Int32 → Option (Int32) := Nat.rec (motive := fun _ => Grp → Grp → Int32 → Int32 → Option (Int32)) (fun _ _ _ _ => none) (fun _ ih => f_X11_tapeHasText_l24b F  ih) fu
noncomputable def f_X11_tapeHasText (F : Nat) (G1 : Grp) (G3 : Grp) (v1 : Int32) : Option (Int32) :=
  if v1 < 1 then some 0 else if 160 < v1 then some 0 else if v1 ≤ (G1.1 0 2) then f_X11_tapeHasText_l24 F  F G1 G3 v1 0 else some 0
def RM_X11_tapeHasText : Room := { frames := 2, cells := 0, slots := 0, locals := 40 }
abbrev B_X11_tapeHasText (HB : Heap) (D : va_G) (y : Nat → ClassId) (n : Nat) (κ : Nat → Nat) (σ : St) (q : Int32) : Heap → Prop := fun H => IV HB D y n n κ σ [] H
set_option maxRecDepth 100000 in
set_option maxHeartbeats 4000000 in
theorem c_X11_tapeHasText (l : Launch) (HB : Heap) (D : va_G) (y : Nat → ClassId) (F n : Nat) (κ : Nat → Nat) (σ : St) (hN : N0 ≤ n) (v1 : Int32)  (G1 : Grp) (e1 : σ 1 = G1) (G3 : Grp) (e3 : σ 3 = G3) (q : Int32) (h : f_X11_tapeHasText F G1 G3 v1 = some q) : MT l HB D y yX11_tapeHasText cX11_tapeHasText 3 (some .boolean) RM_X11_tapeHasText [.ref (HB.size + 0), .int v1] (IV HB D y n n κ σ []) (some (.int q)) (B_X11_tapeHasText HB D y n κ σ q) := by
  refine Met.ofW (cc := cX11_tapeHasText) (maxL := 3) (ret := (some .boolean)) (by decide) rfl ?_
  intro p e s m args below meth c s₁ BL hml hv
  obtain ⟨rfl, hI, hKK⟩ := hv
  have hx := BL.exec
  have hb := BL.bytes
  have hr := BL.returns
  have hts : ∀ w ∈ gtb, w.before _ s = true := fun w hw => atoms_spec BL.pre w (List.mem_cons_of_mem _ hw)
  have hml : c.maxLocals = 3 := hml
  have hown : s.vm.findClass RX11 = some m.cls := findClass_of_methodNamed BL.named
  have hlocks := BL.notSynchronized
  have hk0 := hI.1.2.2.2.2
  have hl := lv_entry ([.ref (HB.size + 0), .int v1]) (n := 3) (Nat.le_of_ble_eq_true rfl)
  rw [lg_entry_eq]
  generalize (lg_sl ([.ref (HB.size + 0), .int v1]) ++ List.replicate (3 - (lg_sl ([.ref (HB.size + 0), .int v1])).length) Slot.unset).toArray = ls at hl ⊢
  have hl : lv_has ls 3 [(0, .ref (HB.size + 0)), (1, .int v1)] := hl
  generalize hargs : ([.ref (HB.size + 0), .int v1] : List Value).toArray = args at *
  have b24 : ∀ (fu : Nat) (H : Heap) (locs : List Loc) (ls : Array Slot) (G1 : Grp) (G3 : Grp) (v1 : Int32) (v2 : Int32) , IV HB D y n n κ σ locs H → σ 1 = G1 → σ 3 = G3 → lv_has ls 3 [(0, .ref (HB.size + 0)), (1, .int v1), (2, .int v2)] → f_X11_tapeHasText_l24 F  fu G1 G3 v1 v2 = some q → WX RM_X11_tapeHasText p l e s m args below meth c HB (some (.int q)) (B_X11_tapeHasText HB D y n κ σ q) H locs (F0 m 24 ls []) := by
    intro  fu
    induction fu with
    | zero =>
      intro H locs ls G1 G3 v1 v2 hI e1 e3 hl h
      exact absurd h (by intro h; cases h)
    | succ fu hk24 =>
      intro H locs ls G1 G3 v1 v2 hI e1 e3 hl h
      have h : f_X11_tapeHasText_l24b F  (f_X11_tapeHasText_l24 F  fu) G1 G3 v1 v2 = some q := h
      generalize f_X11_tapeHasText_l24 F  fu = k24 at h hk24
      unfold f_X11_tapeHasText_l24b at h
      refine lv_iload_n hx hb dX11_tapeHasText_24 rfl (lv_at hl 2 rfl) ?_
      refine lv_iload_n hx hb dX11_tapeHasText_25 rfl (lv_at hl 1 rfl) ?_
      refine lv_icmp_ge (tgt := 71) hx hb dX11_tapeHasText_26 (by decide) (fun hc => ?_) (fun hc => ?_)
      · replace h := ite_t hc h
        refine lv_iconst (v := 1) hx hb dX11_tapeHasText_71 (by decide) ?_
        have hq := Option.some.inj h
        exact W.zret (v := 1) (ty := .boolean) hx hb hr rfl (fun t ht hW => qc_mk (congrArg (fun z => Outcome.returned (some (Value.int z))) hq) (by rw [ht]; exact hI.nil)) hI.2.2 dX11_tapeHasText_72 hlocks
      · replace h := ite_f hc h
        refine lv_aload_n hx hb dX11_tapeHasText_29 rfl (lv_at hl 0 rfl) ?_
        refine gf_X11_9 hx hb hts hown hKK hI hN dX11_tapeHasText_30 ?_
        refine lv_iload_n hx hb dX11_tapeHasText_33 rfl (lv_at hl 2 rfl) ?_
        obtain ⟨hin_, h⟩ := ck_e h
        refine la_13 hx hb hKK hI e3 (lc1 hN) (kc1 hk0) hin_ dX11_tapeHasText_34 ?_
        obtain ⟨q_35, hq_35, h⟩ := ob_e h
        refine r_callS (As := [.int (G3.1 1 v2.toNatClampNeg)]) (rest := []) hx hb hml hts hown (c_X11_isWordSign l HB D y F n κ σ hN (G3.1 1 v2.toNatClampNeg)  q_35 hq_35) cal_X11_isWordSign st_X11_isWordSign lm_X11_348 ⟨Nat.le_of_ble_eq_true rfl, Nat.le_of_ble_eq_true rfl⟩ hI.nil hKK rfl hl.1 hI.2.2 rfl (Nat.le_of_ble_eq_true rfl) dX11_tapeHasText_35 ⟨Nat.le_of_ble_eq_true rfl, Nat.le_of_ble_eq_true rfl⟩ rfl rfl rfl (fun H locs hB hlo => ?_)
        have hI := hB.re hlo
        refine lv_if_ne (tgt := 65) hx hb dX11_tapeHasText_38 (by decide) (fun hc => ?_) (fun hc => ?_)
        · replace h := ite_f hc h
          obtain ⟨v2_65, qq, h⟩ := bn_e h
          refine lv_iinc (v := v2_65) (lv' := [(2, .int v2_65), (0, .ref (HB.size + 0)), (1, .int v1)]) hx hb dX11_tapeHasText_65 hl (k := 2) rfl (by rw [qq]; rfl) (by decide) rfl (fun ls hl => ?_)
          refine lv_goto (tgt := 24) hx hb dX11_tapeHasText_68 (by decide) ?_
          exact hk24 H locs ls G1 G3 v1 v2_65  hI e1 e3 (lv_sub hl [1, 2, 0] rfl) h
        · replace h := ite_t hc h
          refine lv_aload_n hx hb dX11_tapeHasText_41 rfl (lv_at hl 0 rfl) ?_
          refine gf_X11_9 hx hb hts hown hKK hI hN dX11_tapeHasText_42 ?_
          refine lv_iload_n hx hb dX11_tapeHasText_45 rfl (lv_at hl 2 rfl) ?_
          obtain ⟨hin_, h⟩ := ck_e h
          refine la_13 hx hb hKK hI e3 (lc1 hN) (kc1 hk0) hin_ dX11_tapeHasText_46 ?_
          refine lv_bipush (v := 32) hx hb dX11_tapeHasText_47 (by decide) ?_
          refine lv_icmp_eq (tgt := 65) hx hb dX11_tapeHasText_49 (by decide) (fun hc => ?_) (fun hc => ?_)
          · replace h := ite_t hc h
            obtain ⟨v2_65, qq, h⟩ := bn_e h
            refine lv_iinc (v := v2_65) (lv' := [(2, .int v2_65), (0, .ref (HB.size + 0)), (1, .int v1)]) hx hb dX11_tapeHasText_65 hl (k := 2) rfl (by rw [qq]; rfl) (by decide) rfl (fun ls hl => ?_)
            refine lv_goto (tgt := 24) hx hb dX11_tapeHasText_68 (by decide) ?_
            exact hk24 H locs ls G1 G3 v1 v2_65  hI e1 e3 (lv_sub hl [1, 2, 0] rfl) h
          · replace h := ite_f hc h
            refine lv_aload_n hx hb dX11_tapeHasText_52 rfl (lv_at hl 0 rfl) ?_
            refine gf_X11_9 hx hb hts hown hKK hI hN dX11_tapeHasText_53 ?_
            refine lv_iload_n hx hb dX11_tapeHasText_56 rfl (lv_at hl 2 rfl) ?_
            obtain ⟨hin_, h⟩ := ck_e h
            refine la_13 hx hb hKK hI e3 (lc1 hN) (kc1 hk0) hin_ dX11_tapeHasText_57 ?_
            refine lv_bipush (v := 10) hx hb dX11_tapeHasText_58 (by decide) ?_
            refine lv_icmp_eq (tgt := 65) hx hb dX11_tapeHasText_60 (by decide) (fun hc => ?_) (fun hc => ?_)
            · replace h := ite_t hc h
              obtain ⟨v2_65, qq, h⟩ := bn_e h
              refine lv_iinc (v := v2_65) (lv' := [(2, .int v2_65), (0, .ref (HB.size + 0)), (1, .int v1)]) hx hb dX11_tapeHasText_65 hl (k := 2) rfl (by rw [qq]; rfl) (by decide) rfl (fun ls hl => ?_)
              refine lv_goto (tgt := 24) hx hb dX11_tapeHasText_68 (by decide) ?_
              exact hk24 H locs ls G1 G3 v1 v2_65  hI e1 e3 (lv_sub hl [1, 2, 0] rfl) h
            · replace h := ite_f hc h
              refine lv_iconst (v := 0) hx hb dX11_tapeHasText_63 (by decide) ?_
              have hq := Option.some.inj h
              exact W.zret (v := 0) (ty := .boolean) hx hb hr rfl (fun t ht hW => qc_mk (congrArg (fun z => Outcome.returned (some (Value.int z))) hq) (by rw [ht]; exact hI.nil)) hI.2.2 dX11_tapeHasText_64 hlocks
  show WX RM_X11_tapeHasText p l e s m args below meth c HB (some (.int q)) (B_X11_tapeHasText HB D y n κ σ q) s.heap [] (F0 m 0 ls [])
  generalize s.heap = H at hI ⊢
  unfold f_X11_tapeHasText at h
  obtain ⟨locs, hlocs⟩ : ∃ x : List Loc, x = [] := ⟨_, rfl⟩
  rw [← hlocs] at hI ⊢
  refine lv_iload_n hx hb dX11_tapeHasText_0 rfl (lv_at hl 1 rfl) ?_
  refine lv_iconst (v := 1) hx hb dX11_tapeHasText_1 (by decide) ?_
  refine lv_icmp_lt (tgt := 20) hx hb dX11_tapeHasText_2 (by decide) (fun hc => ?_) (fun hc => ?_)
  · replace h := ite_t hc h
    refine lv_iconst (v := 0) hx hb dX11_tapeHasText_20 (by decide) ?_
    have hq := Option.some.inj h
    exact W.zret (v := 0) (ty := .boolean) hx hb hr rfl (fun t ht hW => qc_mk (congrArg (fun z => Outcome.returned (some (Value.int z))) hq) (by rw [ht]; exact hI.nil)) hI.2.2 dX11_tapeHasText_21 hlocks
  · replace h := ite_f hc h
    refine lv_iload_n hx hb dX11_tapeHasText_5 rfl (lv_at hl 1 rfl) ?_
    refine lv_sipush (v := 160) hx hb dX11_tapeHasText_6 (by decide) ?_
    refine lv_icmp_gt (tgt := 20) hx hb dX11_tapeHasText_9 (by decide) (fun hc => ?_) (fun hc => ?_)
    · replace h := ite_t hc h
      refine lv_iconst (v := 0) hx hb dX11_tapeHasText_20 (by decide) ?_
      have hq := Option.some.inj h
      exact W.zret (v := 0) (ty := .boolean) hx hb hr rfl (fun t ht hW => qc_mk (congrArg (fun z => Outcome.returned (some (Value.int z))) hq) (by rw [ht]; exact hI.nil)) hI.2.2 dX11_tapeHasText_21 hlocks
    · replace h := ite_f hc h
      refine lv_iload_n hx hb dX11_tapeHasText_12 rfl (lv_at hl 1 rfl) ?_
      refine lv_aload_n hx hb dX11_tapeHasText_13 rfl (lv_at hl 0 rfl) ?_
      refine gt_X11_136 hx hb hts hown hKK hI e1 (lc0 hN) (kc0 hk0) dX11_tapeHasText_14 ?_
      refine lv_icmp_le (tgt := 22) hx hb dX11_tapeHasText_17 (by decide) (fun hc => ?_) (fun hc => ?_)
      · replace h := ite_t hc h
        refine lv_iconst (v := 0) hx hb dX11_tapeHasText_22 (by decide) ?_
        refine lv_istore_n (lv' := [(2, .int 0), (0, .ref (HB.size + 0)), (1, .int v1)]) hx hb dX11_tapeHasText_23 rfl hl (by decide) rfl (fun ls hl => ?_)
        exact b24  F H locs ls G1 G3 v1 0  hI e1 e3 (lv_sub hl [1, 2, 0] rfl) h
      · replace h := ite_f hc h
        refine lv_iconst (v := 0) hx hb dX11_tapeHasText_20 (by decide) ?_
        have hq := Option.some.inj h
        exact W.zret (v := 0) (ty := .boolean) hx hb hr rfl (fun t ht hW => qc_mk (congrArg (fun z => Outcome.returned (some (Value.int z))) hq) (by rw [ht]; exact hI.nil)) hI.2.2 dX11_tapeHasText_21 hlocks
noncomputable def f_X11_look (F : Nat) (G1 : Grp) (G3 : Grp) (G4 : Grp) (G5 : Grp) (v1 : Int32) : Option (Int32 × Grp) :=
  ob (f_X11_tapeHasText F G1 G3 v1) (fun q_2 => if q_2 = 0 then some ((-1), G5) else om (G1.2.2 0 4) (none) (fun t_15 => ob (f_X2_search F G3 G4 G5 23 t_15 1 v1) (fun q_23 => some ((q_23.1 23 0), q_23))))
def RM_X11_look : Room := { frames := 4, cells := 0, slots := 0, locals := 94 }
abbrev W_X11_look : List Nat := [5]
abbrev B_X11_look (HB : Heap) (D : va_G) (y : Nat → ClassId) (n : Nat) (κ : Nat → Nat) (σ0 : St) (q : Int32 × Grp) : Heap → Prop := fun H => ∃ σ : St, IV HB D y n n κ σ [] H ∧ σ 5 = q.2 ∧ ∀ j, j ∉ W_X11_look → σ j = σ0 j
set_option maxRecDepth 100000 in
set_option maxHeartbeats 4000000 in
theorem c_X11_look (l : Launch) (HB : Heap) (D : va_G) (y : Nat → ClassId) (F n : Nat) (κ : Nat → Nat) (σ0 : St) (hN : N0 ≤ n) (v1 : Int32)  (G1 : Grp) (e1 : σ0 1 = G1) (G3 : Grp) (e3 : σ0 3 = G3) (G4 : Grp) (e4 : σ0 4 = G4) (G5 : Grp) (e5 : σ0 5 = G5) (q : Int32 × Grp) (h : f_X11_look F G1 G3 G4 G5 v1 = some q) : MT l HB D y yX11_look cX11_look 2 (some .int) RM_X11_look [.ref (HB.size + 0), .int v1] (IV HB D y n n κ σ0 []) (some (.int q.1)) (B_X11_look HB D y n κ σ0 q) := by
  refine Met.ofW (cc := cX11_look) (maxL := 2) (ret := (some .int)) (by decide) rfl ?_
  intro p e s m args below meth c s₁ BL hml hv
  obtain ⟨rfl, hI, hKK⟩ := hv
  have hx := BL.exec
  have hb := BL.bytes
  have hr := BL.returns
  have hts : ∀ w ∈ gtb, w.before _ s = true := fun w hw => atoms_spec BL.pre w (List.mem_cons_of_mem _ hw)
  have hml : c.maxLocals = 2 := hml
  have hown : s.vm.findClass RX11 = some m.cls := findClass_of_methodNamed BL.named
  have hlocks := BL.notSynchronized
  have hk0 := hI.1.2.2.2.2
  have hl := lv_entry ([.ref (HB.size + 0), .int v1]) (n := 2) (Nat.le_of_ble_eq_true rfl)
  rw [lg_entry_eq]
  generalize (lg_sl ([.ref (HB.size + 0), .int v1]) ++ List.replicate (2 - (lg_sl ([.ref (HB.size + 0), .int v1])).length) Slot.unset).toArray = ls at hl ⊢
  have hl : lv_has ls 2 [(0, .ref (HB.size + 0)), (1, .int v1)] := hl
  generalize hargs : ([.ref (HB.size + 0), .int v1] : List Value).toArray = args at *
  obtain ⟨σ, hI, e1, e3, e4, e5, fr⟩ : ∃ σ : St, IV HB D y n n κ σ [] s.heap ∧ σ 1 = G1 ∧ σ 3 = G3 ∧ σ 4 = G4 ∧ σ 5 = G5 ∧ ∀ j, j ∉ W_X11_look → σ j = σ0 j := ⟨σ0, hI, e1, e3, e4, e5, fun _ _ => rfl⟩
  show WX RM_X11_look p l e s m args below meth c HB (some (.int q.1)) (B_X11_look HB D y n κ σ0 q) s.heap [] (F0 m 0 ls [])
  generalize s.heap = H at hI ⊢
  unfold f_X11_look at h
  obtain ⟨locs, hlocs⟩ : ∃ x : List Loc, x = [] := ⟨_, rfl⟩
  rw [← hlocs] at hI ⊢
  refine lv_aload_n hx hb dX11_look_0 rfl (lv_at hl 0 rfl) ?_
  refine lv_iload_n hx hb dX11_look_1 rfl (lv_at hl 1 rfl) ?_
  obtain ⟨q_2, hq_2, h⟩ := ob_e h
  refine r_callV (As := [.int v1]) (rest := []) hx hb hml hts hown (c_X11_tapeHasText l HB D y F n κ σ hN v1 G1 e1 G3 e3 q_2 hq_2) cal_X11_tapeHasText im_X11_tapeHasText se_X11_tapeHasText lm_X11_147 ⟨Nat.le_of_ble_eq_true rfl, Nat.le_of_ble_eq_true rfl⟩ hI.nil hKK (r_recv hKK hI (hE11 HB.size y) rfl (lc0 hN) (kc0 hk0)) rfl hl.1 hI.2.2 rfl (Nat.le_of_ble_eq_true rfl) dX11_look_2 ⟨Nat.le_of_ble_eq_true rfl, Nat.le_of_ble_eq_true rfl⟩ rfl rfl rfl (fun H locs hB hlo => ?_)
  have hI := hB.re hlo
  refine lv_if_ne (tgt := 10) hx hb dX11_look_5 (by decide) (fun hc => ?_) (fun hc => ?_)
  · replace h := ite_f hc h
    refine lv_aload_n hx hb dX11_look_10 rfl (lv_at hl 0 rfl) ?_
    refine gf_X11_30 hx hb hts hown hKK hI hN dX11_look_11 ?_
    refine lv_aload_n hx hb dX11_look_14 rfl (lv_at hl 0 rfl) ?_
    refine gt_X11_20 hx hb hts hown hKK hI e1 (lc0 hN) (kc0 hk0) dX11_look_15 ?_
    rcases om_e h with ⟨eo, h⟩ | ⟨t_15, eo, h⟩
    · refine topn eo ?_
      refine lv_aload_n hx hb dX11_look_18 rfl (lv_at hl 0 rfl) ?_
      refine gf_X11_9 hx hb hts hown hKK hI hN dX11_look_19 ?_
      refine lv_iload_n hx hb dX11_look_22 rfl (lv_at hl 1 rfl) ?_
      cases h
    · refine topr eo ?_
      obtain ⟨ha_15, hk_15⟩ := typF hI (lc0 hN) (kc0 hk0) 0 rfl e1 eo
      refine lv_aload_n hx hb dX11_look_18 rfl (lv_at hl 0 rfl) ?_
      refine gf_X11_9 hx hb hts hown hKK hI hN dX11_look_19 ?_
      refine lv_iload_n hx hb dX11_look_22 rfl (lv_at hl 1 rfl) ?_
      obtain ⟨q_23, hq_23, h⟩ := ob_e h
      refine r_callV (As := [.ref (HB.size + t_15), .ref (HB.size + 1), .int v1]) (rest := []) hx hb hml hts hown (c_X2_search l HB D y F n κ σ hN 23 (lc23 hN) (kc23 hk0) t_15 ha_15 hk_15 1 (lc1 hN) (kc1 hk0) v1 G3 e3 G4 e4 G5 e5 q_23 hq_23) cal_X2_search im_X2_search se_X2_search lm_X11_150 ⟨Nat.le_of_ble_eq_true rfl, Nat.le_of_ble_eq_true rfl⟩ hI.nil hKK (r_recv hKK hI (hE2 HB.size y) rfl (lc23 hN) (kc23 hk0)) rfl hl.1 hI.2.2 rfl (Nat.le_of_ble_eq_true rfl) dX11_look_23 ⟨Nat.le_of_ble_eq_true rfl, Nat.le_of_ble_eq_true rfl⟩ rfl rfl rfl (fun H locs hB hlo => ?_)
      obtain ⟨σ, hB, en5, ho⟩ := hB
      have hI := hB.re hlo
      have e5 := en5
      have e1 := (ho 1 (ni rfl)).trans e1
      have e3 := (ho 3 (ni rfl)).trans e3
      have e4 := (ho 4 (ni rfl)).trans e4
      have fr := frc fr ho (by decide)
      refine lv_aload_n hx hb dX11_look_26 rfl (lv_at hl 0 rfl) ?_
      refine gf_X11_30 hx hb hts hown hKK hI hN dX11_look_27 ?_
      refine gt_X11_154 hx hb hts hown hKK hI e5 (lc23 hN) (kc23 hk0) dX11_look_30 ?_
      have hq := Option.some.inj h
      exact W.iret (v := (q_23.1 23 0)) hx hb hr (fun t ht hW => qc_mk (congrArg (fun z => Outcome.returned (some (Value.int z.1))) hq) (by rw [ht]; exact ⟨σ, hI.nil, e5.trans (congrArg (fun z => z.2) hq), fr⟩)) hI.2.2 dX11_look_33 hlocks
  · replace h := ite_t hc h
    refine lv_iconst (v := (-1)) hx hb dX11_look_8 (by decide) ?_
    have hq := Option.some.inj h
    exact W.iret (v := (-1)) hx hb hr (fun t ht hW => qc_mk (congrArg (fun z => Outcome.returned (some (Value.int z.1))) hq) (by rw [ht]; exact ⟨σ, hI.nil, e5.trans (congrArg (fun z => z.2) hq), fr⟩)) hI.2.2 dX11_look_9 hlocks
noncomputable def f_X11_found (F : Nat) (G5 : Grp) (v1 : Int32) (v2 : Int32) : Option (Int32) :=
  ob (f_X11_within F v1 0 ((G5.1 23 0) - 1)) (fun q_11 => if q_11 = 0 then some (-1) else if v2 = 0 then ck v1 160 (some (G5.1 24 v1.toNatClampNeg)) else if v2 = 1 then ck v1 160 (some (G5.1 25 v1.toNatClampNeg)) else if v2 = 2 then ck v1 160 (some (G5.1 26 v1.toNatClampNeg)) else if v2 = 3 then ck v1 160 (some (G5.1 27 v1.toNatClampNeg)) else some (-1))
def RM_X11_found : Room := { frames := 1, cells := 0, slots := 0, locals := 22 }
abbrev B_X11_found (HB : Heap) (D : va_G) (y : Nat → ClassId) (n : Nat) (κ : Nat → Nat) (σ : St) (q : Int32) : Heap → Prop := fun H => IV HB D y n n κ σ [] H
set_option maxRecDepth 100000 in
set_option maxHeartbeats 4000000 in
theorem c_X11_found (l : Launch) (HB : Heap) (D : va_G) (y : Nat → ClassId) (F n : Nat) (κ : Nat → Nat) (σ : St) (hN : N0 ≤ n) (v1 : Int32)  (v2 : Int32)  (G5 : Grp) (e5 : σ 5 = G5) (q : Int32) (h : f_X11_found F G5 v1 v2 = some q) : MT l HB D y yX11_found cX11_found 3 (some .int) RM_X11_found [.ref (HB.size + 0), .int v1, .int v2] (IV HB D y n n κ σ []) (some (.int q)) (B_X11_found HB D y n κ σ q) := by
  refine Met.ofW (cc := cX11_found) (maxL := 3) (ret := (some .int)) (by decide) rfl ?_
  intro p e s m args below meth c s₁ BL hml hv
  obtain ⟨rfl, hI, hKK⟩ := hv
  have hx := BL.exec
  have hb := BL.bytes
  have hr := BL.returns
  have hts : ∀ w ∈ gtb, w.before _ s = true := fun w hw => atoms_spec BL.pre w (List.mem_cons_of_mem _ hw)
  have hml : c.maxLocals = 3 := hml
  have hown : s.vm.findClass RX11 = some m.cls := findClass_of_methodNamed BL.named
  have hlocks := BL.notSynchronized
  have hk0 := hI.1.2.2.2.2
  have hl := lv_entry ([.ref (HB.size + 0), .int v1, .int v2]) (n := 3) (Nat.le_of_ble_eq_true rfl)
  rw [lg_entry_eq]
  generalize (lg_sl ([.ref (HB.size + 0), .int v1, .int v2]) ++ List.replicate (3 - (lg_sl ([.ref (HB.size + 0), .int v1, .int v2])).length) Slot.unset).toArray = ls at hl ⊢
  have hl : lv_has ls 3 [(0, .ref (HB.size + 0)), (1, .int v1), (2, .int v2)] := hl
  generalize hargs : ([.ref (HB.size + 0), .int v1, .int v2] : List Value).toArray = args at *
  show WX RM_X11_found p l e s m args below meth c HB (some (.int q)) (B_X11_found HB D y n κ σ q) s.heap [] (F0 m 0 ls [])
  generalize s.heap = H at hI ⊢
  unfold f_X11_found at h
  obtain ⟨locs, hlocs⟩ : ∃ x : List Loc, x = [] := ⟨_, rfl⟩
  rw [← hlocs] at hI ⊢
  refine lv_iload_n hx hb dX11_found_0 rfl (lv_at hl 1 rfl) ?_
  refine lv_iconst (v := 0) hx hb dX11_found_1 (by decide) ?_
  refine lv_aload_n hx hb dX11_found_2 rfl (lv_at hl 0 rfl) ?_
  refine gf_X11_30 hx hb hts hown hKK hI hN dX11_found_3 ?_
  refine gt_X11_154 hx hb hts hown hKK hI e5 (lc23 hN) (kc23 hk0) dX11_found_6 ?_
  refine lv_iconst (v := 1) hx hb dX11_found_9 (by decide) ?_
  refine lv_isub hx hb dX11_found_10 ?_
  obtain ⟨q_11, hq_11, h⟩ := ob_e h
  refine r_callS (As := [.int v1, .int 0, .int ((G5.1 23 0) - 1)]) (rest := []) hx hb hml hts hown (c_X11_within l HB D y F n κ σ hN v1 0 ((G5.1 23 0) - 1)  q_11 hq_11) cal_X11_within st_X11_within lm_X11_80 ⟨Nat.le_of_ble_eq_true rfl, Nat.le_of_ble_eq_true rfl⟩ hI.nil hKK rfl hl.1 hI.2.2 rfl (Nat.le_of_ble_eq_true rfl) dX11_found_11 ⟨Nat.le_of_ble_eq_true rfl, Nat.le_of_ble_eq_true rfl⟩ rfl rfl rfl (fun H locs hB hlo => ?_)
  have hI := hB.re hlo
  refine lv_if_ne (tgt := 19) hx hb dX11_found_14 (by decide) (fun hc => ?_) (fun hc => ?_)
  · replace h := ite_f hc h
    refine lv_iload_n hx hb dX11_found_19 rfl (lv_at hl 2 rfl) ?_
    by_cases hc0 : v2 = 0
    · replace h := ite_t hc0 h
      refine lv_tableIn (off := 32) (tgt := 52) hx hb dX11_found_20 (by rw [hc0]; decide) (by rw [hc0]; decide) (by rw [hc0]; decide) (by decide) ?_
      refine lv_aload_n hx hb dX11_found_52 rfl (lv_at hl 0 rfl) ?_
      refine gf_X11_30 hx hb hts hown hKK hI hN dX11_found_53 ?_
      refine gf_X11_157 hx hb hts hown hKK hI (lc23 hN) (kc23 hk0) dX11_found_56 ?_
      refine lv_iload_n hx hb dX11_found_59 rfl (lv_at hl 1 rfl) ?_
      obtain ⟨hin_, h⟩ := ck_e h
      refine la_18 hx hb hKK hI e5 (lc24 hN) (kc24 hk0) hin_ dX11_found_60 ?_
      have hq := Option.some.inj h
      exact W.iret (v := (G5.1 24 v1.toNatClampNeg)) hx hb hr (fun t ht hW => qc_mk (congrArg (fun z => Outcome.returned (some (Value.int z))) hq) (by rw [ht]; exact hI.nil)) hI.2.2 dX11_found_61 hlocks
    · replace h := ite_f hc0 h
      by_cases hc1 : v2 = 1
      · replace h := ite_t hc1 h
        refine lv_tableIn (off := 42) (tgt := 62) hx hb dX11_found_20 (by rw [hc1]; decide) (by rw [hc1]; decide) (by rw [hc1]; decide) (by decide) ?_
        refine lv_aload_n hx hb dX11_found_62 rfl (lv_at hl 0 rfl) ?_
        refine gf_X11_30 hx hb hts hown hKK hI hN dX11_found_63 ?_
        refine gf_X11_160 hx hb hts hown hKK hI (lc23 hN) (kc23 hk0) dX11_found_66 ?_
        refine lv_iload_n hx hb dX11_found_69 rfl (lv_at hl 1 rfl) ?_
        obtain ⟨hin_, h⟩ := ck_e h
        refine la_18 hx hb hKK hI e5 (lc25 hN) (kc25 hk0) hin_ dX11_found_70 ?_
        have hq := Option.some.inj h
        exact W.iret (v := (G5.1 25 v1.toNatClampNeg)) hx hb hr (fun t ht hW => qc_mk (congrArg (fun z => Outcome.returned (some (Value.int z))) hq) (by rw [ht]; exact hI.nil)) hI.2.2 dX11_found_71 hlocks
      · replace h := ite_f hc1 h
        by_cases hc2 : v2 = 2
        · replace h := ite_t hc2 h
          refine lv_tableIn (off := 52) (tgt := 72) hx hb dX11_found_20 (by rw [hc2]; decide) (by rw [hc2]; decide) (by rw [hc2]; decide) (by decide) ?_
          refine lv_aload_n hx hb dX11_found_72 rfl (lv_at hl 0 rfl) ?_
          refine gf_X11_30 hx hb hts hown hKK hI hN dX11_found_73 ?_
          refine gf_X11_163 hx hb hts hown hKK hI (lc23 hN) (kc23 hk0) dX11_found_76 ?_
          refine lv_iload_n hx hb dX11_found_79 rfl (lv_at hl 1 rfl) ?_
          obtain ⟨hin_, h⟩ := ck_e h
          refine la_18 hx hb hKK hI e5 (lc26 hN) (kc26 hk0) hin_ dX11_found_80 ?_
          have hq := Option.some.inj h
          exact W.iret (v := (G5.1 26 v1.toNatClampNeg)) hx hb hr (fun t ht hW => qc_mk (congrArg (fun z => Outcome.returned (some (Value.int z))) hq) (by rw [ht]; exact hI.nil)) hI.2.2 dX11_found_81 hlocks
        · replace h := ite_f hc2 h
          by_cases hc3 : v2 = 3
          · replace h := ite_t hc3 h
            refine lv_tableIn (off := 62) (tgt := 82) hx hb dX11_found_20 (by rw [hc3]; decide) (by rw [hc3]; decide) (by rw [hc3]; decide) (by decide) ?_
            refine lv_aload_n hx hb dX11_found_82 rfl (lv_at hl 0 rfl) ?_
            refine gf_X11_30 hx hb hts hown hKK hI hN dX11_found_83 ?_
            refine gf_X11_166 hx hb hts hown hKK hI (lc23 hN) (kc23 hk0) dX11_found_86 ?_
            refine lv_iload_n hx hb dX11_found_89 rfl (lv_at hl 1 rfl) ?_
            obtain ⟨hin_, h⟩ := ck_e h
            refine la_18 hx hb hKK hI e5 (lc27 hN) (kc27 hk0) hin_ dX11_found_90 ?_
            have hq := Option.some.inj h
            exact W.iret (v := (G5.1 27 v1.toNatClampNeg)) hx hb hr (fun t ht hW => qc_mk (congrArg (fun z => Outcome.returned (some (Value.int z))) hq) (by rw [ht]; exact hI.nil)) hI.2.2 dX11_found_91 hlocks
          · replace h := ite_f hc3 h
            refine lv_tableOut (tgt := 92) hx hb dX11_found_20 (swo (fun j h1 h2 => ?_)) (by decide) ?_
            · have hj : j = 0 ∨ j = 1 ∨ j = 2 ∨ j = 3 := by omega
              rcases hj with rfl | rfl | rfl | rfl
              · exact lv_neT hc0 (by decide)
              · exact lv_neT hc1 (by decide)
              · exact lv_neT hc2 (by decide)
              · exact lv_neT hc3 (by decide)
            · refine lv_iconst (v := (-1)) hx hb dX11_found_92 (by decide) ?_
              have hq := Option.some.inj h
              exact W.iret (v := (-1)) hx hb hr (fun t ht hW => qc_mk (congrArg (fun z => Outcome.returned (some (Value.int z))) hq) (by rw [ht]; exact hI.nil)) hI.2.2 dX11_found_93 hlocks
  · replace h := ite_t hc h
    refine lv_iconst (v := (-1)) hx hb dX11_found_17 (by decide) ?_
    have hq := Option.some.inj h
    exact W.iret (v := (-1)) hx hb hr (fun t ht hW => qc_mk (congrArg (fun z => Outcome.returned (some (Value.int z))) hq) (by rw [ht]; exact hI.nil)) hI.2.2 dX11_found_18 hlocks
noncomputable def f_X11_translator (F : Nat) (G16 : Grp) (v1 : Int32) (v2 : Int32) (v3 : Int32) (v4 : Int32) : Option (Int32 × Grp) :=
  ob (f_X11_within F v1 0 262143) (fun q_8 => if q_8 = 0 then some ((-1), G16) else ob (f_X11_within F v2 0 262143) (fun q_18 => if q_18 = 0 then some ((-1), G16) else ob (f_X11_within F v3 1 4) (fun q_29 => if q_29 = 0 then some ((-1), G16) else ob (f_X11_within F v4 0 127) (fun q_40 => if q_40 = 0 then some ((-1), G16) else ob (f_X9_add F G16 (v1.toInt64 ||| (v2.toInt64 <<< ((18 : Int32).toInt64 &&& 63))) v3 v4) (fun q_63 => some (q_63.1, q_63.2))))))
def RM_X11_translator : Room := { frames := 1, cells := 0, slots := 0, locals := 24 }
abbrev W_X11_translator : List Nat := [16]
abbrev B_X11_translator (HB : Heap) (D : va_G) (y : Nat → ClassId) (n : Nat) (κ : Nat → Nat) (σ0 : St) (q : Int32 × Grp) : Heap → Prop := fun H => ∃ σ : St, IV HB D y n n κ σ [] H ∧ σ 16 = q.2 ∧ ∀ j, j ∉ W_X11_translator → σ j = σ0 j
set_option maxRecDepth 100000 in
set_option maxHeartbeats 4000000 in
theorem c_X11_translator (l : Launch) (HB : Heap) (D : va_G) (y : Nat → ClassId) (F n : Nat) (κ : Nat → Nat) (σ0 : St) (hN : N0 ≤ n) (v1 : Int32)  (v2 : Int32)  (v3 : Int32)  (v4 : Int32)  (G16 : Grp) (e16 : σ0 16 = G16) (q : Int32 × Grp) (h : f_X11_translator F G16 v1 v2 v3 v4 = some q) : MT l HB D y yX11_translator cX11_translator 6 (some .int) RM_X11_translator [.ref (HB.size + 0), .int v1, .int v2, .int v3, .int v4] (IV HB D y n n κ σ0 []) (some (.int q.1)) (B_X11_translator HB D y n κ σ0 q) := by
  refine Met.ofW (cc := cX11_translator) (maxL := 6) (ret := (some .int)) (by decide) rfl ?_
  intro p e s m args below meth c s₁ BL hml hv
  obtain ⟨rfl, hI, hKK⟩ := hv
  have hx := BL.exec
  have hb := BL.bytes
  have hr := BL.returns
  have hts : ∀ w ∈ gtb, w.before _ s = true := fun w hw => atoms_spec BL.pre w (List.mem_cons_of_mem _ hw)
  have hml : c.maxLocals = 6 := hml
  have hown : s.vm.findClass RX11 = some m.cls := findClass_of_methodNamed BL.named
  have hlocks := BL.notSynchronized
  have hk0 := hI.1.2.2.2.2
  have hl := lv_entry ([.ref (HB.size + 0), .int v1, .int v2, .int v3, .int v4]) (n := 6) (Nat.le_of_ble_eq_true rfl)
  rw [lg_entry_eq]
  generalize (lg_sl ([.ref (HB.size + 0), .int v1, .int v2, .int v3, .int v4]) ++ List.replicate (6 - (lg_sl ([.ref (HB.size + 0), .int v1, .int v2, .int v3, .int v4])).length) Slot.unset).toArray = ls at hl ⊢
  have hl : lv_has ls 6 [(0, .ref (HB.size + 0)), (1, .int v1), (2, .int v2), (3, .int v3), (4, .int v4)] := hl
  generalize hargs : ([.ref (HB.size + 0), .int v1, .int v2, .int v3, .int v4] : List Value).toArray = args at *
  obtain ⟨σ, hI, e16, fr⟩ : ∃ σ : St, IV HB D y n n κ σ [] s.heap ∧ σ 16 = G16 ∧ ∀ j, j ∉ W_X11_translator → σ j = σ0 j := ⟨σ0, hI, e16, fun _ _ => rfl⟩
  show WX RM_X11_translator p l e s m args below meth c HB (some (.int q.1)) (B_X11_translator HB D y n κ σ0 q) s.heap [] (F0 m 0 ls [])
  generalize s.heap = H at hI ⊢
  unfold f_X11_translator at h
  obtain ⟨locs, hlocs⟩ : ∃ x : List Loc, x = [] := ⟨_, rfl⟩
  rw [← hlocs] at hI ⊢
  refine lv_ldc (v := 262143) hx hb hown (hts _ lk_X11_185) dX11_translator_0 ?_
  refine lv_istore (lv' := [(5, .int 262143), (0, .ref (HB.size + 0)), (1, .int v1), (2, .int v2), (3, .int v3), (4, .int v4)]) hx hb dX11_translator_2 hl (by decide) rfl (fun ls hl => ?_)
  refine lv_iload_n hx hb dX11_translator_4 rfl (lv_at hl 2 rfl) ?_
  refine lv_iconst (v := 0) hx hb dX11_translator_5 (by decide) ?_
  refine lv_iload hx hb dX11_translator_6 (lv_at hl 0 rfl) ?_
  obtain ⟨q_8, hq_8, h⟩ := ob_e h
  refine r_callS (As := [.int v1, .int 0, .int 262143]) (rest := []) hx hb hml hts hown (c_X11_within l HB D y F n κ σ hN v1 0 262143  q_8 hq_8) cal_X11_within st_X11_within lm_X11_80 ⟨Nat.le_of_ble_eq_true rfl, Nat.le_of_ble_eq_true rfl⟩ hI.nil hKK rfl hl.1 hI.2.2 rfl (Nat.le_of_ble_eq_true rfl) dX11_translator_8 ⟨Nat.le_of_ble_eq_true rfl, Nat.le_of_ble_eq_true rfl⟩ rfl rfl rfl (fun H locs hB hlo => ?_)
  have hI := hB.re hlo
  refine lv_if_eq (tgt := 24) hx hb dX11_translator_11 (by decide) (fun hc => ?_) (fun hc => ?_)
  · replace h := ite_t hc h
    refine lv_iconst (v := (-1)) hx hb dX11_translator_24 (by decide) ?_
    have hq := Option.some.inj h
    exact W.iret (v := (-1)) hx hb hr (fun t ht hW => qc_mk (congrArg (fun z => Outcome.returned (some (Value.int z.1))) hq) (by rw [ht]; exact ⟨σ, hI.nil, e16.trans (congrArg (fun z => z.2) hq), fr⟩)) hI.2.2 dX11_translator_25 hlocks
  · replace h := ite_f hc h
    refine lv_iload_n hx hb dX11_translator_14 rfl (lv_at hl 3 rfl) ?_
    refine lv_iconst (v := 0) hx hb dX11_translator_15 (by decide) ?_
    refine lv_iload hx hb dX11_translator_16 (lv_at hl 0 rfl) ?_
    obtain ⟨q_18, hq_18, h⟩ := ob_e h
    refine r_callS (As := [.int v2, .int 0, .int 262143]) (rest := []) hx hb hml hts hown (c_X11_within l HB D y F n κ σ hN v2 0 262143  q_18 hq_18) cal_X11_within st_X11_within lm_X11_80 ⟨Nat.le_of_ble_eq_true rfl, Nat.le_of_ble_eq_true rfl⟩ hI.nil hKK rfl hl.1 hI.2.2 rfl (Nat.le_of_ble_eq_true rfl) dX11_translator_18 ⟨Nat.le_of_ble_eq_true rfl, Nat.le_of_ble_eq_true rfl⟩ rfl rfl rfl (fun H locs hB hlo => ?_)
    have hI := hB.re hlo
    refine lv_if_ne (tgt := 26) hx hb dX11_translator_21 (by decide) (fun hc => ?_) (fun hc => ?_)
    · replace h := ite_f hc h
      refine lv_iload_n hx hb dX11_translator_26 rfl (lv_at hl 4 rfl) ?_
      refine lv_iconst (v := 1) hx hb dX11_translator_27 (by decide) ?_
      refine lv_iconst (v := 4) hx hb dX11_translator_28 (by decide) ?_
      obtain ⟨q_29, hq_29, h⟩ := ob_e h
      refine r_callS (As := [.int v3, .int 1, .int 4]) (rest := []) hx hb hml hts hown (c_X11_within l HB D y F n κ σ hN v3 1 4  q_29 hq_29) cal_X11_within st_X11_within lm_X11_80 ⟨Nat.le_of_ble_eq_true rfl, Nat.le_of_ble_eq_true rfl⟩ hI.nil hKK rfl hl.1 hI.2.2 rfl (Nat.le_of_ble_eq_true rfl) dX11_translator_29 ⟨Nat.le_of_ble_eq_true rfl, Nat.le_of_ble_eq_true rfl⟩ rfl rfl rfl (fun H locs hB hlo => ?_)
      have hI := hB.re hlo
      refine lv_if_eq (tgt := 46) hx hb dX11_translator_32 (by decide) (fun hc => ?_) (fun hc => ?_)
      · replace h := ite_t hc h
        refine lv_iconst (v := (-1)) hx hb dX11_translator_46 (by decide) ?_
        have hq := Option.some.inj h
        exact W.iret (v := (-1)) hx hb hr (fun t ht hW => qc_mk (congrArg (fun z => Outcome.returned (some (Value.int z.1))) hq) (by rw [ht]; exact ⟨σ, hI.nil, e16.trans (congrArg (fun z => z.2) hq), fr⟩)) hI.2.2 dX11_translator_47 hlocks
      · replace h := ite_f hc h
        refine lv_iload hx hb dX11_translator_35 (lv_at hl 5 rfl) ?_
        refine lv_iconst (v := 0) hx hb dX11_translator_37 (by decide) ?_
        refine lv_bipush (v := 127) hx hb dX11_translator_38 (by decide) ?_
        obtain ⟨q_40, hq_40, h⟩ := ob_e h
        refine r_callS (As := [.int v4, .int 0, .int 127]) (rest := []) hx hb hml hts hown (c_X11_within l HB D y F n κ σ hN v4 0 127  q_40 hq_40) cal_X11_within st_X11_within lm_X11_80 ⟨Nat.le_of_ble_eq_true rfl, Nat.le_of_ble_eq_true rfl⟩ hI.nil hKK rfl hl.1 hI.2.2 rfl (Nat.le_of_ble_eq_true rfl) dX11_translator_40 ⟨Nat.le_of_ble_eq_true rfl, Nat.le_of_ble_eq_true rfl⟩ rfl rfl rfl (fun H locs hB hlo => ?_)
        have hI := hB.re hlo
        refine lv_if_ne (tgt := 48) hx hb dX11_translator_43 (by decide) (fun hc => ?_) (fun hc => ?_)
        · replace h := ite_f hc h
          refine lv_aload_n hx hb dX11_translator_48 rfl (lv_at hl 1 rfl) ?_
          refine gf_X11_53 hx hb hts hown hKK hI hN dX11_translator_49 ?_
          refine lv_iload_n hx hb dX11_translator_52 rfl (lv_at hl 2 rfl) ?_
          refine lv_i2l hx hb dX11_translator_53 rfl ?_
          refine lv_iload_n hx hb dX11_translator_54 rfl (lv_at hl 3 rfl) ?_
          refine lv_i2l hx hb dX11_translator_55 rfl ?_
          refine lv_bipush (v := 18) hx hb dX11_translator_56 (by decide) ?_
          refine lv_lshl hx hb dX11_translator_58 rfl ?_
          refine lv_lor hx hb dX11_translator_59 ?_
          refine lv_iload_n hx hb dX11_translator_60 rfl (lv_at hl 4 rfl) ?_
          refine lv_iload hx hb dX11_translator_61 (lv_at hl 5 rfl) ?_
          obtain ⟨q_63, hq_63, h⟩ := ob_e h
          refine r_callV (As := [.long (v1.toInt64 ||| (v2.toInt64 <<< ((18 : Int32).toInt64 &&& 63))), .int v3, .int v4]) (rest := []) hx hb hml hts hown (c_X9_add l HB D y F n κ σ hN (v1.toInt64 ||| (v2.toInt64 <<< ((18 : Int32).toInt64 &&& 63))) v3 v4 G16 e16 q_63 hq_63) cal_X9_add im_X9_add se_X9_add lm_X11_186 ⟨Nat.le_of_ble_eq_true rfl, Nat.le_of_ble_eq_true rfl⟩ hI.nil hKK (r_recv hKK hI (hE9 HB.size y) rfl (lc60 hN) (kc60 hk0)) rfl hl.1 hI.2.2 rfl (Nat.le_of_ble_eq_true rfl) dX11_translator_63 ⟨Nat.le_of_ble_eq_true rfl, Nat.le_of_ble_eq_true rfl⟩ rfl rfl rfl (fun H locs hB hlo => ?_)
          obtain ⟨σ, hB, en16, ho⟩ := hB
          have hI := hB.re hlo
          have e16 := en16
          have fr := frc fr ho (by decide)
          have hq := Option.some.inj h
          exact W.iret (v := q_63.1) hx hb hr (fun t ht hW => qc_mk (congrArg (fun z => Outcome.returned (some (Value.int z.1))) hq) (by rw [ht]; exact ⟨σ, hI.nil, e16.trans (congrArg (fun z => z.2) hq), fr⟩)) hI.2.2 dX11_translator_66 hlocks
        · replace h := ite_t hc h
          refine lv_iconst (v := (-1)) hx hb dX11_translator_46 (by decide) ?_
          have hq := Option.some.inj h
          exact W.iret (v := (-1)) hx hb hr (fun t ht hW => qc_mk (congrArg (fun z => Outcome.returned (some (Value.int z.1))) hq) (by rw [ht]; exact ⟨σ, hI.nil, e16.trans (congrArg (fun z => z.2) hq), fr⟩)) hI.2.2 dX11_translator_47 hlocks
    · replace h := ite_t hc h
      refine lv_iconst (v := (-1)) hx hb dX11_translator_24 (by decide) ?_
      have hq := Option.some.inj h
      exact W.iret (v := (-1)) hx hb hr (fun t ht hW => qc_mk (congrArg (fun z => Outcome.returned (some (Value.int z.1))) hq) (by rw [ht]; exact ⟨σ, hI.nil, e16.trans (congrArg (fun z => z.2) hq), fr⟩)) hI.2.2 dX11_translator_25 hlocks
noncomputable def f_X11_day (F : Nat) (G1 : Grp) (G2 : Grp) (G3 : Grp) (G4 : Grp) (G5 : Grp) (G6 : Grp) (G9 : Grp) (G10 : Grp) (G11 : Grp) (G12 : Grp) (G13 : Grp) (G14 : Grp) (G15 : Grp) (G16 : Grp) (G17 : Grp)  : Option (Int32 × Grp × Grp × Grp × Grp × Grp × Grp × Grp × Grp × Grp × Grp) :=
  if (G1.1 0 0) < 3599 then bn (gI G1 0 0 ((G1.1 0 0) + 1)) (fun G1_19 => ob (f_X6_unpack F G10 G11 G13 (G1_19.1 0 0)) (fun q_30 => om (G1_19.2.2 0 4) (none) (fun t_38 => ob (f_X6_readSome F G2 G3 G4 G5 G6 G9 G10 G12 (q_30.2) G14 t_38 (G1_19.1 0 0)) (fun q_45 => ob (f_X9_translate F G6 (q_45.2.2.1) G10 (q_45.2.2.2.2) G16 G17 (G1_19.1 0 0)) (fun q_64 => ob (f_X6_bring F G6 (q_64.1) G10 (q_64.2.1) (G1_19.1 0 0)) (fun q_75 => ob (f_X6_send F G2 G10 (q_30.1) (q_75.2) (G1_19.1 0 0)) (fun q_86 => ob (f_X6_addLags F G10 (q_86.2) G15) (fun q_93 => some ((G1_19.1 0 0), G1_19, q_45.1, q_45.2.1, q_75.1, q_86.1, q_45.2.2.2.1, q_86.2, q_93, q_64.2.2.1, q_64.2.2.2))))))))) else some ((-1), G1, G3, G5, G9, G11, G12, G13, G15, G16, G17)
def RM_X11_day : Room := { frames := 12, cells := 0, slots := 0, locals := 416 }
abbrev W_X11_day : List Nat := [1, 3, 5, 9, 11, 12, 13, 15, 16, 17]
abbrev B_X11_day (HB : Heap) (D : va_G) (y : Nat → ClassId) (n : Nat) (κ : Nat → Nat) (σ0 : St) (q : Int32 × Grp × Grp × Grp × Grp × Grp × Grp × Grp × Grp × Grp × Grp) : Heap → Prop := fun H => ∃ σ : St, IV HB D y n n κ σ [] H ∧ σ 1 = q.2.1 ∧ σ 3 = q.2.2.1 ∧ σ 5 = q.2.2.2.1 ∧ σ 9 = q.2.2.2.2.1 ∧ σ 11 = q.2.2.2.2.2.1 ∧ σ 12 = q.2.2.2.2.2.2.1 ∧ σ 13 = q.2.2.2.2.2.2.2.1 ∧ σ 15 = q.2.2.2.2.2.2.2.2.1 ∧ σ 16 = q.2.2.2.2.2.2.2.2.2.1 ∧ σ 17 = q.2.2.2.2.2.2.2.2.2.2 ∧ ∀ j, j ∉ W_X11_day → σ j = σ0 j
set_option maxRecDepth 100000 in
set_option maxHeartbeats 4000000 in
theorem c_X11_day (l : Launch) (HB : Heap) (D : va_G) (y : Nat → ClassId) (F n : Nat) (κ : Nat → Nat) (σ0 : St) (hN : N0 ≤ n)  (G1 : Grp) (e1 : σ0 1 = G1) (G2 : Grp) (e2 : σ0 2 = G2) (G3 : Grp) (e3 : σ0 3 = G3) (G4 : Grp) (e4 : σ0 4 = G4) (G5 : Grp) (e5 : σ0 5 = G5) (G6 : Grp) (e6 : σ0 6 = G6) (G9 : Grp) (e9 : σ0 9 = G9) (G10 : Grp) (e10 : σ0 10 = G10) (G11 : Grp) (e11 : σ0 11 = G11) (G12 : Grp) (e12 : σ0 12 = G12) (G13 : Grp) (e13 : σ0 13 = G13) (G14 : Grp) (e14 : σ0 14 = G14) (G15 : Grp) (e15 : σ0 15 = G15) (G16 : Grp) (e16 : σ0 16 = G16) (G17 : Grp) (e17 : σ0 17 = G17) (q : Int32 × Grp × Grp × Grp × Grp × Grp × Grp × Grp × Grp × Grp × Grp) (h : f_X11_day F G1 G2 G3 G4 G5 G6 G9 G10 G11 G12 G13 G14 G15 G16 G17 = some q) : MT l HB D y yX11_day cX11_day 1 (some .int) RM_X11_day [.ref (HB.size + 0)] (IV HB D y n n κ σ0 []) (some (.int q.1)) (B_X11_day HB D y n κ σ0 q) := by
  refine Met.ofW (cc := cX11_day) (maxL := 1) (ret := (some .int)) (by decide) rfl ?_
  intro p e s m args below meth c s₁ BL hml hv
  obtain ⟨rfl, hI, hKK⟩ := hv
  have hx := BL.exec
  have hb := BL.bytes
  have hr := BL.returns
  have hts : ∀ w ∈ gtb, w.before _ s = true := fun w hw => atoms_spec BL.pre w (List.mem_cons_of_mem _ hw)
  have hml : c.maxLocals = 1 := hml
  have hown : s.vm.findClass RX11 = some m.cls := findClass_of_methodNamed BL.named
  have hlocks := BL.notSynchronized
  have hk0 := hI.1.2.2.2.2
  have hl := lv_entry ([.ref (HB.size + 0)]) (n := 1) (Nat.le_of_ble_eq_true rfl)
  rw [lg_entry_eq]
  generalize (lg_sl ([.ref (HB.size + 0)]) ++ List.replicate (1 - (lg_sl ([.ref (HB.size + 0)])).length) Slot.unset).toArray = ls at hl ⊢
  have hl : lv_has ls 1 [(0, .ref (HB.size + 0))] := hl
  generalize hargs : ([.ref (HB.size + 0)] : List Value).toArray = args at *
  obtain ⟨σ, hI, e1, e2, e3, e4, e5, e6, e9, e10, e11, e12, e13, e14, e15, e16, e17, fr⟩ : ∃ σ : St, IV HB D y n n κ σ [] s.heap ∧ σ 1 = G1 ∧ σ 2 = G2 ∧ σ 3 = G3 ∧ σ 4 = G4 ∧ σ 5 = G5 ∧ σ 6 = G6 ∧ σ 9 = G9 ∧ σ 10 = G10 ∧ σ 11 = G11 ∧ σ 12 = G12 ∧ σ 13 = G13 ∧ σ 14 = G14 ∧ σ 15 = G15 ∧ σ 16 = G16 ∧ σ 17 = G17 ∧ ∀ j, j ∉ W_X11_day → σ j = σ0 j := ⟨σ0, hI, e1, e2, e3, e4, e5, e6, e9, e10, e11, e12, e13, e14, e15, e16, e17, fun _ _ => rfl⟩
  show WX RM_X11_day p l e s m args below meth c HB (some (.int q.1)) (B_X11_day HB D y n κ σ0 q) s.heap [] (F0 m 0 ls [])
  generalize s.heap = H at hI ⊢
  unfold f_X11_day at h
  obtain ⟨locs, hlocs⟩ : ∃ x : List Loc, x = [] := ⟨_, rfl⟩
  rw [← hlocs] at hI ⊢
  refine lv_aload_n hx hb dX11_day_0 rfl (lv_at hl 0 rfl) ?_
  refine gt_X11_106 hx hb hts hown hKK hI e1 (lc0 hN) (kc0 hk0) dX11_day_1 ?_
  refine lv_sipush (v := 3599) hx hb dX11_day_4 (by decide) ?_
  refine lv_icmp_lt (tgt := 12) hx hb dX11_day_7 (by decide) (fun hc => ?_) (fun hc => ?_)
  · replace h := ite_t hc h
    refine lv_aload_n hx hb dX11_day_12 rfl (lv_at hl 0 rfl) ?_
    refine lv_dup hx hb dX11_day_13 rfl ?_
    refine gt_X11_106 hx hb hts hown hKK hI e1 (lc0 hN) (kc0 hk0) dX11_day_14 ?_
    refine lv_iconst (v := 1) hx hb dX11_day_17 (by decide) ?_
    refine lv_iadd hx hb dX11_day_18 ?_
    obtain ⟨G1_19, qq, h⟩ := bn_e h
    refine pt_X11_106 hx hb hts hown hKK hI e1 (lc0 hN) (kc0 hk0) dX11_day_19 (fun σ H locs hI ew ho => ?_)
    have e1 := ew.trans qq.symm
    have e2 := (ho 2 (nn rfl)).trans e2
    have e3 := (ho 3 (nn rfl)).trans e3
    have e4 := (ho 4 (nn rfl)).trans e4
    have e5 := (ho 5 (nn rfl)).trans e5
    have e6 := (ho 6 (nn rfl)).trans e6
    have e9 := (ho 9 (nn rfl)).trans e9
    have e10 := (ho 10 (nn rfl)).trans e10
    have e11 := (ho 11 (nn rfl)).trans e11
    have e12 := (ho 12 (nn rfl)).trans e12
    have e13 := (ho 13 (nn rfl)).trans e13
    have e14 := (ho 14 (nn rfl)).trans e14
    have e15 := (ho 15 (nn rfl)).trans e15
    have e16 := (ho 16 (nn rfl)).trans e16
    have e17 := (ho 17 (nn rfl)).trans e17
    have fr := frs fr ho (by decide)
    refine lv_aload_n hx hb dX11_day_22 rfl (lv_at hl 0 rfl) ?_
    refine gf_X11_46 hx hb hts hown hKK hI hN dX11_day_23 ?_
    refine lv_aload_n hx hb dX11_day_26 rfl (lv_at hl 0 rfl) ?_
    refine gt_X11_106 hx hb hts hown hKK hI e1 (lc0 hN) (kc0 hk0) dX11_day_27 ?_
    obtain ⟨q_30, hq_30, h⟩ := ob_e h
    refine r_callV (As := [.int (G1_19.1 0 0)]) (rest := []) hx hb hml hts hown (c_X6_unpack l HB D y F n κ σ hN (G1_19.1 0 0) G10 e10 G11 e11 G13 e13 q_30 hq_30) cal_X6_unpack im_X6_unpack se_X6_unpack lm_X11_189 ⟨Nat.le_of_ble_eq_true rfl, Nat.le_of_ble_eq_true rfl⟩ hI.nil hKK (r_recv hKK hI (hE6 HB.size y) rfl (lc44 hN) (kc44 hk0)) rfl hl.1 hI.2.2 rfl (Nat.le_of_ble_eq_true rfl) dX11_day_30 ⟨Nat.le_of_ble_eq_true rfl, Nat.le_of_ble_eq_true rfl⟩ rfl rfl rfl (fun H locs hB hlo => ?_)
    obtain ⟨σ, hB, en11, en13, ho⟩ := hB
    have hI := hB.re hlo
    have e11 := en11
    have e13 := en13
    have e1 := (ho 1 (ni rfl)).trans e1
    have e2 := (ho 2 (ni rfl)).trans e2
    have e3 := (ho 3 (ni rfl)).trans e3
    have e4 := (ho 4 (ni rfl)).trans e4
    have e5 := (ho 5 (ni rfl)).trans e5
    have e6 := (ho 6 (ni rfl)).trans e6
    have e9 := (ho 9 (ni rfl)).trans e9
    have e10 := (ho 10 (ni rfl)).trans e10
    have e12 := (ho 12 (ni rfl)).trans e12
    have e14 := (ho 14 (ni rfl)).trans e14
    have e15 := (ho 15 (ni rfl)).trans e15
    have e16 := (ho 16 (ni rfl)).trans e16
    have e17 := (ho 17 (ni rfl)).trans e17
    have fr := frc fr ho (by decide)
    refine lv_aload_n hx hb dX11_day_33 rfl (lv_at hl 0 rfl) ?_
    refine gf_X11_46 hx hb hts hown hKK hI hN dX11_day_34 ?_
    refine lv_aload_n hx hb dX11_day_37 rfl (lv_at hl 0 rfl) ?_
    refine gt_X11_20 hx hb hts hown hKK hI e1 (lc0 hN) (kc0 hk0) dX11_day_38 ?_
    rcases om_e h with ⟨eo, h⟩ | ⟨t_38, eo, h⟩
    · refine topn eo ?_
      refine lv_aload_n hx hb dX11_day_41 rfl (lv_at hl 0 rfl) ?_
      refine gt_X11_106 hx hb hts hown hKK hI e1 (lc0 hN) (kc0 hk0) dX11_day_42 ?_
      cases h
    · refine topr eo ?_
      obtain ⟨ha_38, hk_38⟩ := typF hI (lc0 hN) (kc0 hk0) 0 rfl e1 eo
      refine lv_aload_n hx hb dX11_day_41 rfl (lv_at hl 0 rfl) ?_
      refine gt_X11_106 hx hb hts hown hKK hI e1 (lc0 hN) (kc0 hk0) dX11_day_42 ?_
      obtain ⟨q_45, hq_45, h⟩ := ob_e h
      refine r_callV (As := [.ref (HB.size + t_38), .int (G1_19.1 0 0)]) (rest := []) hx hb hml hts hown (c_X6_readSome l HB D y F n κ σ hN t_38 ha_38 hk_38 (G1_19.1 0 0) G2 e2 G3 e3 G4 e4 G5 e5 G6 e6 G9 e9 G10 e10 G12 e12 (q_30.2) e13 G14 e14 q_45 hq_45) cal_X6_readSome im_X6_readSome se_X6_readSome lm_X11_192 ⟨Nat.le_of_ble_eq_true rfl, Nat.le_of_ble_eq_true rfl⟩ hI.nil hKK (r_recv hKK hI (hE6 HB.size y) rfl (lc44 hN) (kc44 hk0)) rfl hl.1 hI.2.2 rfl (Nat.le_of_ble_eq_true rfl) dX11_day_45 ⟨Nat.le_of_ble_eq_true rfl, Nat.le_of_ble_eq_true rfl⟩ rfl rfl rfl (fun H locs hB hlo => ?_)
      obtain ⟨σ, hB, en3, en5, en9, en12, en13, ho⟩ := hB
      have hI := hB.re hlo
      have e3 := en3
      have e5 := en5
      have e9 := en9
      have e12 := en12
      have e13 := en13
      have e1 := (ho 1 (ni rfl)).trans e1
      have e2 := (ho 2 (ni rfl)).trans e2
      have e4 := (ho 4 (ni rfl)).trans e4
      have e6 := (ho 6 (ni rfl)).trans e6
      have e10 := (ho 10 (ni rfl)).trans e10
      have e11 := (ho 11 (ni rfl)).trans e11
      have e14 := (ho 14 (ni rfl)).trans e14
      have e15 := (ho 15 (ni rfl)).trans e15
      have e16 := (ho 16 (ni rfl)).trans e16
      have e17 := (ho 17 (ni rfl)).trans e17
      have fr := frc fr ho (by decide)
      refine lv_aload_n hx hb dX11_day_48 rfl (lv_at hl 0 rfl) ?_
      refine gf_X11_53 hx hb hts hown hKK hI hN dX11_day_49 ?_
      refine lv_aload_n hx hb dX11_day_52 rfl (lv_at hl 0 rfl) ?_
      refine gf_X11_46 hx hb hts hown hKK hI hN dX11_day_53 ?_
      refine lv_aload_n hx hb dX11_day_56 rfl (lv_at hl 0 rfl) ?_
      refine gf_X11_37 hx hb hts hown hKK hI hN dX11_day_57 ?_
      refine lv_aload_n hx hb dX11_day_60 rfl (lv_at hl 0 rfl) ?_
      refine gt_X11_106 hx hb hts hown hKK hI e1 (lc0 hN) (kc0 hk0) dX11_day_61 ?_
      obtain ⟨q_64, hq_64, h⟩ := ob_e h
      refine r_callV (As := [.ref (HB.size + 44), .ref (HB.size + 32), .int (G1_19.1 0 0)]) (rest := []) hx hb hml hts hown (c_X9_translate l HB D y F n κ σ hN (G1_19.1 0 0) G6 e6 (q_45.2.2.1) e9 G10 e10 (q_45.2.2.2.2) e13 G16 e16 G17 e17 q_64 hq_64) cal_X9_translate im_X9_translate se_X9_translate lm_X11_196 ⟨Nat.le_of_ble_eq_true rfl, Nat.le_of_ble_eq_true rfl⟩ hI.nil hKK (r_recv hKK hI (hE9 HB.size y) rfl (lc60 hN) (kc60 hk0)) rfl hl.1 hI.2.2 rfl (Nat.le_of_ble_eq_true rfl) dX11_day_64 ⟨Nat.le_of_ble_eq_true rfl, Nat.le_of_ble_eq_true rfl⟩ rfl rfl rfl (fun H locs hB hlo => ?_)
      obtain ⟨σ, hB, en9, en13, en16, en17, ho⟩ := hB
      have hI := hB.re hlo
      have e9 := en9
      have e13 := en13
      have e16 := en16
      have e17 := en17
      have e1 := (ho 1 (ni rfl)).trans e1
      have e2 := (ho 2 (ni rfl)).trans e2
      have e3 := (ho 3 (ni rfl)).trans e3
      have e4 := (ho 4 (ni rfl)).trans e4
      have e5 := (ho 5 (ni rfl)).trans e5
      have e6 := (ho 6 (ni rfl)).trans e6
      have e10 := (ho 10 (ni rfl)).trans e10
      have e11 := (ho 11 (ni rfl)).trans e11
      have e12 := (ho 12 (ni rfl)).trans e12
      have e14 := (ho 14 (ni rfl)).trans e14
      have e15 := (ho 15 (ni rfl)).trans e15
      have fr := frc fr ho (by decide)
      refine lv_aload_n hx hb dX11_day_67 rfl (lv_at hl 0 rfl) ?_
      refine gf_X11_46 hx hb hts hown hKK hI hN dX11_day_68 ?_
      refine lv_aload_n hx hb dX11_day_71 rfl (lv_at hl 0 rfl) ?_
      refine gt_X11_106 hx hb hts hown hKK hI e1 (lc0 hN) (kc0 hk0) dX11_day_72 ?_
      obtain ⟨q_75, hq_75, h⟩ := ob_e h
      refine r_callV (As := [.int (G1_19.1 0 0)]) (rest := []) hx hb hml hts hown (c_X6_bring l HB D y F n κ σ hN (G1_19.1 0 0) G6 e6 (q_64.1) e9 G10 e10 (q_64.2.1) e13 q_75 hq_75) cal_X6_bring im_X6_bring se_X6_bring lm_X11_200 ⟨Nat.le_of_ble_eq_true rfl, Nat.le_of_ble_eq_true rfl⟩ hI.nil hKK (r_recv hKK hI (hE6 HB.size y) rfl (lc44 hN) (kc44 hk0)) rfl hl.1 hI.2.2 rfl (Nat.le_of_ble_eq_true rfl) dX11_day_75 ⟨Nat.le_of_ble_eq_true rfl, Nat.le_of_ble_eq_true rfl⟩ rfl rfl rfl (fun H locs hB hlo => ?_)
      obtain ⟨σ, hB, en9, en13, ho⟩ := hB
      have hI := hB.re hlo
      have e9 := en9
      have e13 := en13
      have e1 := (ho 1 (ni rfl)).trans e1
      have e2 := (ho 2 (ni rfl)).trans e2
      have e3 := (ho 3 (ni rfl)).trans e3
      have e4 := (ho 4 (ni rfl)).trans e4
      have e5 := (ho 5 (ni rfl)).trans e5
      have e6 := (ho 6 (ni rfl)).trans e6
      have e10 := (ho 10 (ni rfl)).trans e10
      have e11 := (ho 11 (ni rfl)).trans e11
      have e12 := (ho 12 (ni rfl)).trans e12
      have e14 := (ho 14 (ni rfl)).trans e14
      have e15 := (ho 15 (ni rfl)).trans e15
      have e16 := (ho 16 (ni rfl)).trans e16
      have e17 := (ho 17 (ni rfl)).trans e17
      have fr := frc fr ho (by decide)
      refine lv_aload_n hx hb dX11_day_78 rfl (lv_at hl 0 rfl) ?_
      refine gf_X11_46 hx hb hts hown hKK hI hN dX11_day_79 ?_
      refine lv_aload_n hx hb dX11_day_82 rfl (lv_at hl 0 rfl) ?_
      refine gt_X11_106 hx hb hts hown hKK hI e1 (lc0 hN) (kc0 hk0) dX11_day_83 ?_
      obtain ⟨q_86, hq_86, h⟩ := ob_e h
      refine r_callV (As := [.int (G1_19.1 0 0)]) (rest := []) hx hb hml hts hown (c_X6_send l HB D y F n κ σ hN (G1_19.1 0 0) G2 e2 G10 e10 (q_30.1) e11 (q_75.2) e13 q_86 hq_86) cal_X6_send im_X6_send se_X6_send lm_X11_203 ⟨Nat.le_of_ble_eq_true rfl, Nat.le_of_ble_eq_true rfl⟩ hI.nil hKK (r_recv hKK hI (hE6 HB.size y) rfl (lc44 hN) (kc44 hk0)) rfl hl.1 hI.2.2 rfl (Nat.le_of_ble_eq_true rfl) dX11_day_86 ⟨Nat.le_of_ble_eq_true rfl, Nat.le_of_ble_eq_true rfl⟩ rfl rfl rfl (fun H locs hB hlo => ?_)
      obtain ⟨σ, hB, en11, en13, ho⟩ := hB
      have hI := hB.re hlo
      have e11 := en11
      have e13 := en13
      have e1 := (ho 1 (ni rfl)).trans e1
      have e2 := (ho 2 (ni rfl)).trans e2
      have e3 := (ho 3 (ni rfl)).trans e3
      have e4 := (ho 4 (ni rfl)).trans e4
      have e5 := (ho 5 (ni rfl)).trans e5
      have e6 := (ho 6 (ni rfl)).trans e6
      have e9 := (ho 9 (ni rfl)).trans e9
      have e10 := (ho 10 (ni rfl)).trans e10
      have e12 := (ho 12 (ni rfl)).trans e12
      have e14 := (ho 14 (ni rfl)).trans e14
      have e15 := (ho 15 (ni rfl)).trans e15
      have e16 := (ho 16 (ni rfl)).trans e16
      have e17 := (ho 17 (ni rfl)).trans e17
      have fr := frc fr ho (by decide)
      refine lv_aload_n hx hb dX11_day_89 rfl (lv_at hl 0 rfl) ?_
      refine gf_X11_46 hx hb hts hown hKK hI hN dX11_day_90 ?_
      obtain ⟨q_93, hq_93, h⟩ := ob_e h
      refine r_callV (As := []) (rest := []) hx hb hml hts hown (c_X6_addLags l HB D y F n κ σ hN  G10 e10 (q_86.2) e13 G15 e15 q_93 hq_93) cal_X6_addLags im_X6_addLags se_X6_addLags lm_X11_206 ⟨Nat.le_of_ble_eq_true rfl, Nat.le_of_ble_eq_true rfl⟩ hI.nil hKK (r_recv hKK hI (hE6 HB.size y) rfl (lc44 hN) (kc44 hk0)) rfl hl.1 hI.2.2 rfl (Nat.le_of_ble_eq_true rfl) dX11_day_93 ⟨Nat.le_of_ble_eq_true rfl, Nat.le_of_ble_eq_true rfl⟩ rfl rfl rfl (fun H locs hB hlo => ?_)
      obtain ⟨σ, hB, en15, ho⟩ := hB
      have hI := hB.re hlo
      have e15 := en15
      have e1 := (ho 1 (ni rfl)).trans e1
      have e2 := (ho 2 (ni rfl)).trans e2
      have e3 := (ho 3 (ni rfl)).trans e3
      have e4 := (ho 4 (ni rfl)).trans e4
      have e5 := (ho 5 (ni rfl)).trans e5
      have e6 := (ho 6 (ni rfl)).trans e6
      have e9 := (ho 9 (ni rfl)).trans e9
      have e10 := (ho 10 (ni rfl)).trans e10
      have e11 := (ho 11 (ni rfl)).trans e11
      have e12 := (ho 12 (ni rfl)).trans e12
      have e13 := (ho 13 (ni rfl)).trans e13
      have e14 := (ho 14 (ni rfl)).trans e14
      have e16 := (ho 16 (ni rfl)).trans e16
      have e17 := (ho 17 (ni rfl)).trans e17
      have fr := frc fr ho (by decide)
      refine lv_aload_n hx hb dX11_day_96 rfl (lv_at hl 0 rfl) ?_
      refine gt_X11_106 hx hb hts hown hKK hI e1 (lc0 hN) (kc0 hk0) dX11_day_97 ?_
      have hq := Option.some.inj h
      exact W.iret (v := (G1_19.1 0 0)) hx hb hr (fun t ht hW => qc_mk (congrArg (fun z => Outcome.returned (some (Value.int z.1))) hq) (by rw [ht]; exact ⟨σ, hI.nil, e1.trans (congrArg (fun z => z.2.1) hq), e3.trans (congrArg (fun z => z.2.2.1) hq), e5.trans (congrArg (fun z => z.2.2.2.1) hq), e9.trans (congrArg (fun z => z.2.2.2.2.1) hq), e11.trans (congrArg (fun z => z.2.2.2.2.2.1) hq), e12.trans (congrArg (fun z => z.2.2.2.2.2.2.1) hq), e13.trans (congrArg (fun z => z.2.2.2.2.2.2.2.1) hq), e15.trans (congrArg (fun z => z.2.2.2.2.2.2.2.2.1) hq), e16.trans (congrArg (fun z => z.2.2.2.2.2.2.2.2.2.1) hq), e17.trans (congrArg (fun z => z.2.2.2.2.2.2.2.2.2.2) hq), fr⟩)) hI.2.2 dX11_day_100 hlocks
  · replace h := ite_f hc h
    refine lv_iconst (v := (-1)) hx hb dX11_day_10 (by decide) ?_
    have hq := Option.some.inj h
    exact W.iret (v := (-1)) hx hb hr (fun t ht hW => qc_mk (congrArg (fun z => Outcome.returned (some (Value.int z.1))) hq) (by rw [ht]; exact ⟨σ, hI.nil, e1.trans (congrArg (fun z => z.2.1) hq), e3.trans (congrArg (fun z => z.2.2.1) hq), e5.trans (congrArg (fun z => z.2.2.2.1) hq), e9.trans (congrArg (fun z => z.2.2.2.2.1) hq), e11.trans (congrArg (fun z => z.2.2.2.2.2.1) hq), e12.trans (congrArg (fun z => z.2.2.2.2.2.2.1) hq), e13.trans (congrArg (fun z => z.2.2.2.2.2.2.2.1) hq), e15.trans (congrArg (fun z => z.2.2.2.2.2.2.2.2.1) hq), e16.trans (congrArg (fun z => z.2.2.2.2.2.2.2.2.2.1) hq), e17.trans (congrArg (fun z => z.2.2.2.2.2.2.2.2.2.2) hq), fr⟩)) hI.2.2 dX11_day_11 hlocks
noncomputable def f_X11_decide (F : Nat) (G1 : Grp) (G3 : Grp) (G4 : Grp) (G5 : Grp) (G6 : Grp) (G9 : Grp) (G10 : Grp) (G12 : Grp) (G13 : Grp) (G14 : Grp) (v1 : Int32) (v2 : Int32) : Option (Int32 × Grp × Grp × Grp × Grp × Grp) :=
  ob (f_X6_letterAt F G10 v1) (fun q_5 => om q_5 (some (0, G3, G5, G9, G12, G13)) (fun t_5 => if (G13.1 t_5 8) = 3 then if v2 = 0 then ob (f_X4_move F G13 t_5 7 (G1.1 0 0)) (fun q_53 => some (1, G3, G5, G9, G12, q_53)) else om (G1.2.2 0 4) (none) (fun t_33 => ob (f_X6_passHeld F G3 G4 G5 G6 G9 G12 G13 G14 t_5 t_33 (G1.1 0 0)) (fun q_40 => some (1, q_40.1, q_40.2.1, q_40.2.2.1, q_40.2.2.2.1, q_40.2.2.2.2))) else some (0, G3, G5, G9, G12, G13)))
def RM_X11_decide : Room := { frames := 5, cells := 0, slots := 0, locals := 117 }
abbrev W_X11_decide : List Nat := [3, 5, 9, 12, 13]
abbrev B_X11_decide (HB : Heap) (D : va_G) (y : Nat → ClassId) (n : Nat) (κ : Nat → Nat) (σ0 : St) (q : Int32 × Grp × Grp × Grp × Grp × Grp) : Heap → Prop := fun H => ∃ σ : St, IV HB D y n n κ σ [] H ∧ σ 3 = q.2.1 ∧ σ 5 = q.2.2.1 ∧ σ 9 = q.2.2.2.1 ∧ σ 12 = q.2.2.2.2.1 ∧ σ 13 = q.2.2.2.2.2 ∧ ∀ j, j ∉ W_X11_decide → σ j = σ0 j
set_option maxRecDepth 100000 in
set_option maxHeartbeats 4000000 in
theorem c_X11_decide (l : Launch) (HB : Heap) (D : va_G) (y : Nat → ClassId) (F n : Nat) (κ : Nat → Nat) (σ0 : St) (hN : N0 ≤ n) (v1 : Int32)  (v2 : Int32)  (G1 : Grp) (e1 : σ0 1 = G1) (G3 : Grp) (e3 : σ0 3 = G3) (G4 : Grp) (e4 : σ0 4 = G4) (G5 : Grp) (e5 : σ0 5 = G5) (G6 : Grp) (e6 : σ0 6 = G6) (G9 : Grp) (e9 : σ0 9 = G9) (G10 : Grp) (e10 : σ0 10 = G10) (G12 : Grp) (e12 : σ0 12 = G12) (G13 : Grp) (e13 : σ0 13 = G13) (G14 : Grp) (e14 : σ0 14 = G14) (q : Int32 × Grp × Grp × Grp × Grp × Grp) (h : f_X11_decide F G1 G3 G4 G5 G6 G9 G10 G12 G13 G14 v1 v2 = some q) : MT l HB D y yX11_decide cX11_decide 4 (some .boolean) RM_X11_decide [.ref (HB.size + 0), .int v1, .int v2] (IV HB D y n n κ σ0 []) (some (.int q.1)) (B_X11_decide HB D y n κ σ0 q) := by
  refine Met.ofW (cc := cX11_decide) (maxL := 4) (ret := (some .boolean)) (by decide) rfl ?_
  intro p e s m args below meth c s₁ BL hml hv
  obtain ⟨rfl, hI, hKK⟩ := hv
  have hx := BL.exec
  have hb := BL.bytes
  have hr := BL.returns
  have hts : ∀ w ∈ gtb, w.before _ s = true := fun w hw => atoms_spec BL.pre w (List.mem_cons_of_mem _ hw)
  have hml : c.maxLocals = 4 := hml
  have hown : s.vm.findClass RX11 = some m.cls := findClass_of_methodNamed BL.named
  have hlocks := BL.notSynchronized
  have hk0 := hI.1.2.2.2.2
  have hl := lv_entry ([.ref (HB.size + 0), .int v1, .int v2]) (n := 4) (Nat.le_of_ble_eq_true rfl)
  rw [lg_entry_eq]
  generalize (lg_sl ([.ref (HB.size + 0), .int v1, .int v2]) ++ List.replicate (4 - (lg_sl ([.ref (HB.size + 0), .int v1, .int v2])).length) Slot.unset).toArray = ls at hl ⊢
  have hl : lv_has ls 4 [(0, .ref (HB.size + 0)), (1, .int v1), (2, .int v2)] := hl
  generalize hargs : ([.ref (HB.size + 0), .int v1, .int v2] : List Value).toArray = args at *
  obtain ⟨σ, hI, e1, e3, e4, e5, e6, e9, e10, e12, e13, e14, fr⟩ : ∃ σ : St, IV HB D y n n κ σ [] s.heap ∧ σ 1 = G1 ∧ σ 3 = G3 ∧ σ 4 = G4 ∧ σ 5 = G5 ∧ σ 6 = G6 ∧ σ 9 = G9 ∧ σ 10 = G10 ∧ σ 12 = G12 ∧ σ 13 = G13 ∧ σ 14 = G14 ∧ ∀ j, j ∉ W_X11_decide → σ j = σ0 j := ⟨σ0, hI, e1, e3, e4, e5, e6, e9, e10, e12, e13, e14, fun _ _ => rfl⟩
  show WX RM_X11_decide p l e s m args below meth c HB (some (.int q.1)) (B_X11_decide HB D y n κ σ0 q) s.heap [] (F0 m 0 ls [])
  generalize s.heap = H at hI ⊢
  unfold f_X11_decide at h
  obtain ⟨locs, hlocs⟩ : ∃ x : List Loc, x = [] := ⟨_, rfl⟩
  rw [← hlocs] at hI ⊢
  refine lv_aload_n hx hb dX11_decide_0 rfl (lv_at hl 0 rfl) ?_
  refine gf_X11_46 hx hb hts hown hKK hI hN dX11_decide_1 ?_
  refine lv_iload_n hx hb dX11_decide_4 rfl (lv_at hl 1 rfl) ?_
  obtain ⟨q_5, hq_5, h⟩ := ob_e h
  refine r_callV (As := [.int v1]) (rest := []) hx hb hml hts hown (c_X6_letterAt l HB D y F n κ σ hN v1 G10 e10 q_5 hq_5) cal_X6_letterAt im_X6_letterAt se_X6_letterAt lm_X11_209 ⟨Nat.le_of_ble_eq_true rfl, Nat.le_of_ble_eq_true rfl⟩ hI.nil hKK (r_recv hKK hI (hE6 HB.size y) rfl (lc44 hN) (kc44 hk0)) rfl hl.1 hI.2.2 rfl (Nat.le_of_ble_eq_true rfl) dX11_decide_5 ⟨Nat.le_of_ble_eq_true rfl, Nat.le_of_ble_eq_true rfl⟩ rfl rfl rfl (fun H locs hB hlo => ?_)
  obtain ⟨hB, hf_5⟩ := hB
  have hI := hB.re hlo
  rcases om_e h with ⟨eo, h⟩ | ⟨t_5, eo, h⟩
  · refine topn eo ?_
    refine lv_astore_nN (lv' := [(3, .null), (0, .ref (HB.size + 0)), (1, .int v1), (2, .int v2)]) hx hb dX11_decide_8 rfl hl (by decide) rfl (fun ls hl => ?_)
    refine lv_aload_nN hx hb dX11_decide_9 rfl (lv_at hl 0 rfl) ?_
    refine lv_ifnullN (tgt := 21) hx hb dX11_decide_10 (by decide) ?_
    refine lv_iconst (v := 0) hx hb dX11_decide_21 (by decide) ?_
    have hq := Option.some.inj h
    exact W.zret (v := 0) (ty := .boolean) hx hb hr rfl (fun t ht hW => qc_mk (congrArg (fun z => Outcome.returned (some (Value.int z.1))) hq) (by rw [ht]; exact ⟨σ, hI.nil, e3.trans (congrArg (fun z => z.2.1) hq), e5.trans (congrArg (fun z => z.2.2.1) hq), e9.trans (congrArg (fun z => z.2.2.2.1) hq), e12.trans (congrArg (fun z => z.2.2.2.2.1) hq), e13.trans (congrArg (fun z => z.2.2.2.2.2) hq), fr⟩)) hI.2.2 dX11_decide_22 hlocks
  · refine topr eo ?_
    obtain ⟨ha_5, hk_5⟩ := hf_5 _ eo
    refine lv_astore_n (lv' := [(3, .ref (HB.size + t_5)), (0, .ref (HB.size + 0)), (1, .int v1), (2, .int v2)]) hx hb dX11_decide_8 rfl hl (by decide) rfl (fun ls hl => ?_)
    refine lv_aload_n hx hb dX11_decide_9 rfl (lv_at hl 0 rfl) ?_
    refine lv_ifnull hx hb dX11_decide_10 ?_
    refine lv_aload_n hx hb dX11_decide_13 rfl (lv_at hl 0 rfl) ?_
    refine gt_X11_213 hx hb hts hown hKK hI e13 ha_5 hk_5 dX11_decide_14 ?_
    refine lv_iconst (v := 3) hx hb dX11_decide_17 (by decide) ?_
    refine lv_icmp_eq (tgt := 23) hx hb dX11_decide_18 (by decide) (fun hc => ?_) (fun hc => ?_)
    · replace h := ite_t hc h
      refine lv_iload_n hx hb dX11_decide_23 rfl (lv_at hl 3 rfl) ?_
      refine lv_if_eq (tgt := 46) hx hb dX11_decide_24 (by decide) (fun hc => ?_) (fun hc => ?_)
      · replace h := ite_t hc h
        refine lv_aload_n hx hb dX11_decide_46 rfl (lv_at hl 0 rfl) ?_
        refine lv_bipush (v := 7) hx hb dX11_decide_47 (by decide) ?_
        refine lv_aload_n hx hb dX11_decide_49 rfl (lv_at hl 1 rfl) ?_
        refine gt_X11_106 hx hb hts hown hKK hI e1 (lc0 hN) (kc0 hk0) dX11_decide_50 ?_
        obtain ⟨q_53, hq_53, h⟩ := ob_e h
        refine r_callV (As := [.int 7, .int (G1.1 0 0)]) (rest := []) hx hb hml hts hown (c_X4_move l HB D y F n κ σ hN t_5 ha_5 hk_5 7 (G1.1 0 0) G13 e13 q_53 hq_53) cal_X4_move im_X4_move se_X4_move lm_X11_220 ⟨Nat.le_of_ble_eq_true rfl, Nat.le_of_ble_eq_true rfl⟩ hI.nil hKK (r_recv hKK hI (hE4 HB.size y) rfl ha_5 hk_5) rfl hl.1 hI.2.2 rfl (Nat.le_of_ble_eq_true rfl) dX11_decide_53 ⟨Nat.le_of_ble_eq_true rfl, Nat.le_of_ble_eq_true rfl⟩ rfl rfl rfl (fun H locs hB hlo => ?_)
        obtain ⟨σ, hB, en13, ho⟩ := hB
        have hI := hB.re hlo
        have e13 := en13
        have e1 := (ho 1 (ni rfl)).trans e1
        have e3 := (ho 3 (ni rfl)).trans e3
        have e4 := (ho 4 (ni rfl)).trans e4
        have e5 := (ho 5 (ni rfl)).trans e5
        have e6 := (ho 6 (ni rfl)).trans e6
        have e9 := (ho 9 (ni rfl)).trans e9
        have e10 := (ho 10 (ni rfl)).trans e10
        have e12 := (ho 12 (ni rfl)).trans e12
        have e14 := (ho 14 (ni rfl)).trans e14
        have fr := frc fr ho (by decide)
        refine lv_iconst (v := 1) hx hb dX11_decide_56 (by decide) ?_
        have hq := Option.some.inj h
        exact W.zret (v := 1) (ty := .boolean) hx hb hr rfl (fun t ht hW => qc_mk (congrArg (fun z => Outcome.returned (some (Value.int z.1))) hq) (by rw [ht]; exact ⟨σ, hI.nil, e3.trans (congrArg (fun z => z.2.1) hq), e5.trans (congrArg (fun z => z.2.2.1) hq), e9.trans (congrArg (fun z => z.2.2.2.1) hq), e12.trans (congrArg (fun z => z.2.2.2.2.1) hq), e13.trans (congrArg (fun z => z.2.2.2.2.2) hq), fr⟩)) hI.2.2 dX11_decide_57 hlocks
      · replace h := ite_f hc h
        refine lv_aload_n hx hb dX11_decide_27 rfl (lv_at hl 1 rfl) ?_
        refine gf_X11_46 hx hb hts hown hKK hI hN dX11_decide_28 ?_
        refine lv_aload_n hx hb dX11_decide_31 rfl (lv_at hl 0 rfl) ?_
        refine lv_aload_n hx hb dX11_decide_32 rfl (lv_at hl 1 rfl) ?_
        refine gt_X11_20 hx hb hts hown hKK hI e1 (lc0 hN) (kc0 hk0) dX11_decide_33 ?_
        rcases om_e h with ⟨eo, h⟩ | ⟨t_33, eo, h⟩
        · refine topn eo ?_
          refine lv_aload_n hx hb dX11_decide_36 rfl (lv_at hl 1 rfl) ?_
          refine gt_X11_106 hx hb hts hown hKK hI e1 (lc0 hN) (kc0 hk0) dX11_decide_37 ?_
          cases h
        · refine topr eo ?_
          obtain ⟨ha_33, hk_33⟩ := typF hI (lc0 hN) (kc0 hk0) 0 rfl e1 eo
          refine lv_aload_n hx hb dX11_decide_36 rfl (lv_at hl 1 rfl) ?_
          refine gt_X11_106 hx hb hts hown hKK hI e1 (lc0 hN) (kc0 hk0) dX11_decide_37 ?_
          obtain ⟨q_40, hq_40, h⟩ := ob_e h
          refine r_callV (As := [.ref (HB.size + t_5), .ref (HB.size + t_33), .int (G1.1 0 0)]) (rest := []) hx hb hml hts hown (c_X6_passHeld l HB D y F n κ σ hN t_5 ha_5 hk_5 t_33 ha_33 hk_33 (G1.1 0 0) G3 e3 G4 e4 G5 e5 G6 e6 G9 e9 G12 e12 G13 e13 G14 e14 q_40 hq_40) cal_X6_passHeld im_X6_passHeld se_X6_passHeld lm_X11_216 ⟨Nat.le_of_ble_eq_true rfl, Nat.le_of_ble_eq_true rfl⟩ hI.nil hKK (r_recv hKK hI (hE6 HB.size y) rfl (lc44 hN) (kc44 hk0)) rfl hl.1 hI.2.2 rfl (Nat.le_of_ble_eq_true rfl) dX11_decide_40 ⟨Nat.le_of_ble_eq_true rfl, Nat.le_of_ble_eq_true rfl⟩ rfl rfl rfl (fun H locs hB hlo => ?_)
          obtain ⟨σ, hB, en3, en5, en9, en12, en13, ho⟩ := hB
          have hI := hB.re hlo
          have e3 := en3
          have e5 := en5
          have e9 := en9
          have e12 := en12
          have e13 := en13
          have e1 := (ho 1 (ni rfl)).trans e1
          have e4 := (ho 4 (ni rfl)).trans e4
          have e6 := (ho 6 (ni rfl)).trans e6
          have e10 := (ho 10 (ni rfl)).trans e10
          have e14 := (ho 14 (ni rfl)).trans e14
          have fr := frc fr ho (by decide)
          refine lv_goto (tgt := 56) hx hb dX11_decide_43 (by decide) ?_
          refine lv_iconst (v := 1) hx hb dX11_decide_56 (by decide) ?_
          have hq := Option.some.inj h
          exact W.zret (v := 1) (ty := .boolean) hx hb hr rfl (fun t ht hW => qc_mk (congrArg (fun z => Outcome.returned (some (Value.int z.1))) hq) (by rw [ht]; exact ⟨σ, hI.nil, e3.trans (congrArg (fun z => z.2.1) hq), e5.trans (congrArg (fun z => z.2.2.1) hq), e9.trans (congrArg (fun z => z.2.2.2.1) hq), e12.trans (congrArg (fun z => z.2.2.2.2.1) hq), e13.trans (congrArg (fun z => z.2.2.2.2.2) hq), fr⟩)) hI.2.2 dX11_decide_57 hlocks
    · replace h := ite_f hc h
      refine lv_iconst (v := 0) hx hb dX11_decide_21 (by decide) ?_
      have hq := Option.some.inj h
      exact W.zret (v := 0) (ty := .boolean) hx hb hr rfl (fun t ht hW => qc_mk (congrArg (fun z => Outcome.returned (some (Value.int z.1))) hq) (by rw [ht]; exact ⟨σ, hI.nil, e3.trans (congrArg (fun z => z.2.1) hq), e5.trans (congrArg (fun z => z.2.2.1) hq), e9.trans (congrArg (fun z => z.2.2.2.1) hq), e12.trans (congrArg (fun z => z.2.2.2.2.1) hq), e13.trans (congrArg (fun z => z.2.2.2.2.2) hq), fr⟩)) hI.2.2 dX11_decide_22 hlocks
noncomputable def f_X11_lose (F : Nat) (G1 : Grp) (G10 : Grp) (G11 : Grp) (G13 : Grp) (v1 : Int32) : Option (Int32 × Grp × Grp) :=
  ob (f_X6_isOnWay F G11 v1) (fun q_5 => if q_5 = 0 then some ((-1), G11, G13) else ob (f_X6_empty F G10 G11 G13 v1 8 (G1.1 0 0)) (fun q_22 => some (q_22.1, q_22.2.1, q_22.2.2)))
def RM_X11_lose : Room := { frames := 3, cells := 0, slots := 0, locals := 68 }
abbrev W_X11_lose : List Nat := [11, 13]
abbrev B_X11_lose (HB : Heap) (D : va_G) (y : Nat → ClassId) (n : Nat) (κ : Nat → Nat) (σ0 : St) (q : Int32 × Grp × Grp) : Heap → Prop := fun H => ∃ σ : St, IV HB D y n n κ σ [] H ∧ σ 11 = q.2.1 ∧ σ 13 = q.2.2 ∧ ∀ j, j ∉ W_X11_lose → σ j = σ0 j
set_option maxRecDepth 100000 in
set_option maxHeartbeats 4000000 in
theorem c_X11_lose (l : Launch) (HB : Heap) (D : va_G) (y : Nat → ClassId) (F n : Nat) (κ : Nat → Nat) (σ0 : St) (hN : N0 ≤ n) (v1 : Int32)  (G1 : Grp) (e1 : σ0 1 = G1) (G10 : Grp) (e10 : σ0 10 = G10) (G11 : Grp) (e11 : σ0 11 = G11) (G13 : Grp) (e13 : σ0 13 = G13) (q : Int32 × Grp × Grp) (h : f_X11_lose F G1 G10 G11 G13 v1 = some q) : MT l HB D y yX11_lose cX11_lose 2 (some .int) RM_X11_lose [.ref (HB.size + 0), .int v1] (IV HB D y n n κ σ0 []) (some (.int q.1)) (B_X11_lose HB D y n κ σ0 q) := by
  refine Met.ofW (cc := cX11_lose) (maxL := 2) (ret := (some .int)) (by decide) rfl ?_
  intro p e s m args below meth c s₁ BL hml hv
  obtain ⟨rfl, hI, hKK⟩ := hv
  have hx := BL.exec
  have hb := BL.bytes
  have hr := BL.returns
  have hts : ∀ w ∈ gtb, w.before _ s = true := fun w hw => atoms_spec BL.pre w (List.mem_cons_of_mem _ hw)
  have hml : c.maxLocals = 2 := hml
  have hown : s.vm.findClass RX11 = some m.cls := findClass_of_methodNamed BL.named
  have hlocks := BL.notSynchronized
  have hk0 := hI.1.2.2.2.2
  have hl := lv_entry ([.ref (HB.size + 0), .int v1]) (n := 2) (Nat.le_of_ble_eq_true rfl)
  rw [lg_entry_eq]
  generalize (lg_sl ([.ref (HB.size + 0), .int v1]) ++ List.replicate (2 - (lg_sl ([.ref (HB.size + 0), .int v1])).length) Slot.unset).toArray = ls at hl ⊢
  have hl : lv_has ls 2 [(0, .ref (HB.size + 0)), (1, .int v1)] := hl
  generalize hargs : ([.ref (HB.size + 0), .int v1] : List Value).toArray = args at *
  obtain ⟨σ, hI, e1, e10, e11, e13, fr⟩ : ∃ σ : St, IV HB D y n n κ σ [] s.heap ∧ σ 1 = G1 ∧ σ 10 = G10 ∧ σ 11 = G11 ∧ σ 13 = G13 ∧ ∀ j, j ∉ W_X11_lose → σ j = σ0 j := ⟨σ0, hI, e1, e10, e11, e13, fun _ _ => rfl⟩
  show WX RM_X11_lose p l e s m args below meth c HB (some (.int q.1)) (B_X11_lose HB D y n κ σ0 q) s.heap [] (F0 m 0 ls [])
  generalize s.heap = H at hI ⊢
  unfold f_X11_lose at h
  obtain ⟨locs, hlocs⟩ : ∃ x : List Loc, x = [] := ⟨_, rfl⟩
  rw [← hlocs] at hI ⊢
  refine lv_aload_n hx hb dX11_lose_0 rfl (lv_at hl 0 rfl) ?_
  refine gf_X11_46 hx hb hts hown hKK hI hN dX11_lose_1 ?_
  refine lv_iload_n hx hb dX11_lose_4 rfl (lv_at hl 1 rfl) ?_
  obtain ⟨q_5, hq_5, h⟩ := ob_e h
  refine r_callV (As := [.int v1]) (rest := []) hx hb hml hts hown (c_X6_isOnWay l HB D y F n κ σ hN v1 G11 e11 q_5 hq_5) cal_X6_isOnWay im_X6_isOnWay se_X6_isOnWay lm_X11_224 ⟨Nat.le_of_ble_eq_true rfl, Nat.le_of_ble_eq_true rfl⟩ hI.nil hKK (r_recv hKK hI (hE6 HB.size y) rfl (lc44 hN) (kc44 hk0)) rfl hl.1 hI.2.2 rfl (Nat.le_of_ble_eq_true rfl) dX11_lose_5 ⟨Nat.le_of_ble_eq_true rfl, Nat.le_of_ble_eq_true rfl⟩ rfl rfl rfl (fun H locs hB hlo => ?_)
  have hI := hB.re hlo
  refine lv_if_eq (tgt := 28) hx hb dX11_lose_8 (by decide) (fun hc => ?_) (fun hc => ?_)
  · replace h := ite_t hc h
    refine lv_iconst (v := (-1)) hx hb dX11_lose_28 (by decide) ?_
    have hq := Option.some.inj h
    exact W.iret (v := (-1)) hx hb hr (fun t ht hW => qc_mk (congrArg (fun z => Outcome.returned (some (Value.int z.1))) hq) (by rw [ht]; exact ⟨σ, hI.nil, e11.trans (congrArg (fun z => z.2.1) hq), e13.trans (congrArg (fun z => z.2.2) hq), fr⟩)) hI.2.2 dX11_lose_29 hlocks
  · replace h := ite_f hc h
    refine lv_aload_n hx hb dX11_lose_11 rfl (lv_at hl 0 rfl) ?_
    refine gf_X11_46 hx hb hts hown hKK hI hN dX11_lose_12 ?_
    refine lv_iload_n hx hb dX11_lose_15 rfl (lv_at hl 1 rfl) ?_
    refine lv_bipush (v := 8) hx hb dX11_lose_16 (by decide) ?_
    refine lv_aload_n hx hb dX11_lose_18 rfl (lv_at hl 0 rfl) ?_
    refine gt_X11_106 hx hb hts hown hKK hI e1 (lc0 hN) (kc0 hk0) dX11_lose_19 ?_
    obtain ⟨q_22, hq_22, h⟩ := ob_e h
    refine r_callV (As := [.int v1, .int 8, .int (G1.1 0 0)]) (rest := []) hx hb hml hts hown (c_X6_empty l HB D y F n κ σ hN v1 8 (G1.1 0 0) G10 e10 G11 e11 G13 e13 q_22 hq_22) cal_X6_empty im_X6_empty se_X6_empty lm_X11_227 ⟨Nat.le_of_ble_eq_true rfl, Nat.le_of_ble_eq_true rfl⟩ hI.nil hKK (r_recv hKK hI (hE6 HB.size y) rfl (lc44 hN) (kc44 hk0)) rfl hl.1 hI.2.2 rfl (Nat.le_of_ble_eq_true rfl) dX11_lose_22 ⟨Nat.le_of_ble_eq_true rfl, Nat.le_of_ble_eq_true rfl⟩ rfl rfl rfl (fun H locs hB hlo => ?_)
    obtain ⟨σ, hB, en11, en13, ho⟩ := hB
    have hI := hB.re hlo
    have e11 := en11
    have e13 := en13
    have e1 := (ho 1 (ni rfl)).trans e1
    have e10 := (ho 10 (ni rfl)).trans e10
    have fr := frc fr ho (by decide)
    refine lv_goto (tgt := 29) hx hb dX11_lose_25 (by decide) ?_
    have hq := Option.some.inj h
    exact W.iret (v := q_22.1) hx hb hr (fun t ht hW => qc_mk (congrArg (fun z => Outcome.returned (some (Value.int z.1))) hq) (by rw [ht]; exact ⟨σ, hI.nil, e11.trans (congrArg (fun z => z.2.1) hq), e13.trans (congrArg (fun z => z.2.2) hq), fr⟩)) hI.2.2 dX11_lose_29 hlocks
noncomputable def f_X11_about (F : Nat) (G3 : Grp) (G9 : Grp) (G10 : Grp) (G13 : Grp) (G15 : Grp) (v1 : Int32) (v2 : Int32) : Option (Int32) :=
  ob (f_X6_letterAt F G10 v1) (fun q_5 => om q_5 (some (-1)) (fun t_5 => ob (f_X4_tell F G3 G9 G13 G15 t_5 v2) (fun q_19 => some q_19)))
def RM_X11_about : Room := { frames := 2, cells := 0, slots := 0, locals := 43 }
abbrev B_X11_about (HB : Heap) (D : va_G) (y : Nat → ClassId) (n : Nat) (κ : Nat → Nat) (σ : St) (q : Int32) : Heap → Prop := fun H => IV HB D y n n κ σ [] H
set_option maxRecDepth 100000 in
set_option maxHeartbeats 4000000 in
theorem c_X11_about (l : Launch) (HB : Heap) (D : va_G) (y : Nat → ClassId) (F n : Nat) (κ : Nat → Nat) (σ : St) (hN : N0 ≤ n) (v1 : Int32)  (v2 : Int32)  (G3 : Grp) (e3 : σ 3 = G3) (G9 : Grp) (e9 : σ 9 = G9) (G10 : Grp) (e10 : σ 10 = G10) (G13 : Grp) (e13 : σ 13 = G13) (G15 : Grp) (e15 : σ 15 = G15) (q : Int32) (h : f_X11_about F G3 G9 G10 G13 G15 v1 v2 = some q) : MT l HB D y yX11_about cX11_about 4 (some .int) RM_X11_about [.ref (HB.size + 0), .int v1, .int v2] (IV HB D y n n κ σ []) (some (.int q)) (B_X11_about HB D y n κ σ q) := by
  refine Met.ofW (cc := cX11_about) (maxL := 4) (ret := (some .int)) (by decide) rfl ?_
  intro p e s m args below meth c s₁ BL hml hv
  obtain ⟨rfl, hI, hKK⟩ := hv
  have hx := BL.exec
  have hb := BL.bytes
  have hr := BL.returns
  have hts : ∀ w ∈ gtb, w.before _ s = true := fun w hw => atoms_spec BL.pre w (List.mem_cons_of_mem _ hw)
  have hml : c.maxLocals = 4 := hml
  have hown : s.vm.findClass RX11 = some m.cls := findClass_of_methodNamed BL.named
  have hlocks := BL.notSynchronized
  have hk0 := hI.1.2.2.2.2
  have hl := lv_entry ([.ref (HB.size + 0), .int v1, .int v2]) (n := 4) (Nat.le_of_ble_eq_true rfl)
  rw [lg_entry_eq]
  generalize (lg_sl ([.ref (HB.size + 0), .int v1, .int v2]) ++ List.replicate (4 - (lg_sl ([.ref (HB.size + 0), .int v1, .int v2])).length) Slot.unset).toArray = ls at hl ⊢
  have hl : lv_has ls 4 [(0, .ref (HB.size + 0)), (1, .int v1), (2, .int v2)] := hl
  generalize hargs : ([.ref (HB.size + 0), .int v1, .int v2] : List Value).toArray = args at *
  show WX RM_X11_about p l e s m args below meth c HB (some (.int q)) (B_X11_about HB D y n κ σ q) s.heap [] (F0 m 0 ls [])
  generalize s.heap = H at hI ⊢
  unfold f_X11_about at h
  obtain ⟨locs, hlocs⟩ : ∃ x : List Loc, x = [] := ⟨_, rfl⟩
  rw [← hlocs] at hI ⊢
  refine lv_aload_n hx hb dX11_about_0 rfl (lv_at hl 0 rfl) ?_
  refine gf_X11_46 hx hb hts hown hKK hI hN dX11_about_1 ?_
  refine lv_iload_n hx hb dX11_about_4 rfl (lv_at hl 1 rfl) ?_
  obtain ⟨q_5, hq_5, h⟩ := ob_e h
  refine r_callV (As := [.int v1]) (rest := []) hx hb hml hts hown (c_X6_letterAt l HB D y F n κ σ hN v1 G10 e10 q_5 hq_5) cal_X6_letterAt im_X6_letterAt se_X6_letterAt lm_X11_209 ⟨Nat.le_of_ble_eq_true rfl, Nat.le_of_ble_eq_true rfl⟩ hI.nil hKK (r_recv hKK hI (hE6 HB.size y) rfl (lc44 hN) (kc44 hk0)) rfl hl.1 hI.2.2 rfl (Nat.le_of_ble_eq_true rfl) dX11_about_5 ⟨Nat.le_of_ble_eq_true rfl, Nat.le_of_ble_eq_true rfl⟩ rfl rfl rfl (fun H locs hB hlo => ?_)
  obtain ⟨hB, hf_5⟩ := hB
  have hI := hB.re hlo
  rcases om_e h with ⟨eo, h⟩ | ⟨t_5, eo, h⟩
  · refine topn eo ?_
    refine lv_astore_nN (lv' := [(3, .null), (0, .ref (HB.size + 0)), (1, .int v1), (2, .int v2)]) hx hb dX11_about_8 rfl hl (by decide) rfl (fun ls hl => ?_)
    refine lv_aload_nN hx hb dX11_about_9 rfl (lv_at hl 0 rfl) ?_
    refine lv_ifnonnullN hx hb dX11_about_10 ?_
    refine lv_iconst (v := (-1)) hx hb dX11_about_13 (by decide) ?_
    refine lv_goto (tgt := 22) hx hb dX11_about_14 (by decide) ?_
    have hq := Option.some.inj h
    exact W.iret (v := (-1)) hx hb hr (fun t ht hW => qc_mk (congrArg (fun z => Outcome.returned (some (Value.int z))) hq) (by rw [ht]; exact hI.nil)) hI.2.2 dX11_about_22 hlocks
  · refine topr eo ?_
    obtain ⟨ha_5, hk_5⟩ := hf_5 _ eo
    refine lv_astore_n (lv' := [(3, .ref (HB.size + t_5)), (0, .ref (HB.size + 0)), (1, .int v1), (2, .int v2)]) hx hb dX11_about_8 rfl hl (by decide) rfl (fun ls hl => ?_)
    refine lv_aload_n hx hb dX11_about_9 rfl (lv_at hl 0 rfl) ?_
    refine lv_ifnonnull (tgt := 17) hx hb dX11_about_10 (by decide) ?_
    refine lv_aload_n hx hb dX11_about_17 rfl (lv_at hl 0 rfl) ?_
    refine lv_iload_n hx hb dX11_about_18 rfl (lv_at hl 3 rfl) ?_
    obtain ⟨q_19, hq_19, h⟩ := ob_e h
    refine r_callV (As := [.int v2]) (rest := []) hx hb hml hts hown (c_X4_tell l HB D y F n κ σ hN t_5 ha_5 hk_5 v2 G3 e3 G9 e9 G13 e13 G15 e15 q_19 hq_19) cal_X4_tell im_X4_tell se_X4_tell lm_X11_230 ⟨Nat.le_of_ble_eq_true rfl, Nat.le_of_ble_eq_true rfl⟩ hI.nil hKK (r_recv hKK hI (hE4 HB.size y) rfl ha_5 hk_5) rfl hl.1 hI.2.2 rfl (Nat.le_of_ble_eq_true rfl) dX11_about_19 ⟨Nat.le_of_ble_eq_true rfl, Nat.le_of_ble_eq_true rfl⟩ rfl rfl rfl (fun H locs hB hlo => ?_)
    have hI := hB.re hlo
    have hq := Option.some.inj h
    exact W.iret (v := q_19) hx hb hr (fun t ht hW => qc_mk (congrArg (fun z => Outcome.returned (some (Value.int z))) hq) (by rw [ht]; exact hI.nil)) hI.2.2 dX11_about_22 hlocks
noncomputable def f_X11_hints (F : Nat) (G7 : Grp) (G9 : Grp) (v1 : Int32) : Option (Int32) :=
  ob (f_X3_pairAt F G7 v1) (fun q_5 => om q_5 (some (-1)) (fun t_5 => some (G9.1 t_5 7)))
def RM_X11_hints : Room := { frames := 2, cells := 0, slots := 0, locals := 43 }
abbrev B_X11_hints (HB : Heap) (D : va_G) (y : Nat → ClassId) (n : Nat) (κ : Nat → Nat) (σ : St) (q : Int32) : Heap → Prop := fun H => IV HB D y n n κ σ [] H
set_option maxRecDepth 100000 in
set_option maxHeartbeats 4000000 in
theorem c_X11_hints (l : Launch) (HB : Heap) (D : va_G) (y : Nat → ClassId) (F n : Nat) (κ : Nat → Nat) (σ : St) (hN : N0 ≤ n) (v1 : Int32)  (G7 : Grp) (e7 : σ 7 = G7) (G9 : Grp) (e9 : σ 9 = G9) (q : Int32) (h : f_X11_hints F G7 G9 v1 = some q) : MT l HB D y yX11_hints cX11_hints 3 (some .int) RM_X11_hints [.ref (HB.size + 0), .int v1] (IV HB D y n n κ σ []) (some (.int q)) (B_X11_hints HB D y n κ σ q) := by
  refine Met.ofW (cc := cX11_hints) (maxL := 3) (ret := (some .int)) (by decide) rfl ?_
  intro p e s m args below meth c s₁ BL hml hv
  obtain ⟨rfl, hI, hKK⟩ := hv
  have hx := BL.exec
  have hb := BL.bytes
  have hr := BL.returns
  have hts : ∀ w ∈ gtb, w.before _ s = true := fun w hw => atoms_spec BL.pre w (List.mem_cons_of_mem _ hw)
  have hml : c.maxLocals = 3 := hml
  have hown : s.vm.findClass RX11 = some m.cls := findClass_of_methodNamed BL.named
  have hlocks := BL.notSynchronized
  have hk0 := hI.1.2.2.2.2
  have hl := lv_entry ([.ref (HB.size + 0), .int v1]) (n := 3) (Nat.le_of_ble_eq_true rfl)
  rw [lg_entry_eq]
  generalize (lg_sl ([.ref (HB.size + 0), .int v1]) ++ List.replicate (3 - (lg_sl ([.ref (HB.size + 0), .int v1])).length) Slot.unset).toArray = ls at hl ⊢
  have hl : lv_has ls 3 [(0, .ref (HB.size + 0)), (1, .int v1)] := hl
  generalize hargs : ([.ref (HB.size + 0), .int v1] : List Value).toArray = args at *
  show WX RM_X11_hints p l e s m args below meth c HB (some (.int q)) (B_X11_hints HB D y n κ σ q) s.heap [] (F0 m 0 ls [])
  generalize s.heap = H at hI ⊢
  unfold f_X11_hints at h
  obtain ⟨locs, hlocs⟩ : ∃ x : List Loc, x = [] := ⟨_, rfl⟩
  rw [← hlocs] at hI ⊢
  refine lv_aload_n hx hb dX11_hints_0 rfl (lv_at hl 0 rfl) ?_
  refine gf_X11_37 hx hb hts hown hKK hI hN dX11_hints_1 ?_
  refine lv_iload_n hx hb dX11_hints_4 rfl (lv_at hl 1 rfl) ?_
  obtain ⟨q_5, hq_5, h⟩ := ob_e h
  refine r_callV (As := [.int v1]) (rest := []) hx hb hml hts hown (c_X3_pairAt l HB D y F n κ σ hN v1 G7 e7 q_5 hq_5) cal_X3_pairAt im_X3_pairAt se_X3_pairAt lm_X11_233 ⟨Nat.le_of_ble_eq_true rfl, Nat.le_of_ble_eq_true rfl⟩ hI.nil hKK (r_recv hKK hI (hE3 HB.size y) rfl (lc32 hN) (kc32 hk0)) rfl hl.1 hI.2.2 rfl (Nat.le_of_ble_eq_true rfl) dX11_hints_5 ⟨Nat.le_of_ble_eq_true rfl, Nat.le_of_ble_eq_true rfl⟩ rfl rfl rfl (fun H locs hB hlo => ?_)
  obtain ⟨hB, hf_5⟩ := hB
  have hI := hB.re hlo
  rcases om_e h with ⟨eo, h⟩ | ⟨t_5, eo, h⟩
  · refine topn eo ?_
    refine lv_astore_nN (lv' := [(2, .null), (0, .ref (HB.size + 0)), (1, .int v1)]) hx hb dX11_hints_8 rfl hl (by decide) rfl (fun ls hl => ?_)
    refine lv_aload_nN hx hb dX11_hints_9 rfl (lv_at hl 0 rfl) ?_
    refine lv_ifnonnullN hx hb dX11_hints_10 ?_
    refine lv_iconst (v := (-1)) hx hb dX11_hints_13 (by decide) ?_
    refine lv_goto (tgt := 21) hx hb dX11_hints_14 (by decide) ?_
    have hq := Option.some.inj h
    exact W.iret (v := (-1)) hx hb hr (fun t ht hW => qc_mk (congrArg (fun z => Outcome.returned (some (Value.int z))) hq) (by rw [ht]; exact hI.nil)) hI.2.2 dX11_hints_21 hlocks
  · refine topr eo ?_
    obtain ⟨ha_5, hk_5⟩ := hf_5 _ eo
    refine lv_astore_n (lv' := [(2, .ref (HB.size + t_5)), (0, .ref (HB.size + 0)), (1, .int v1)]) hx hb dX11_hints_8 rfl hl (by decide) rfl (fun ls hl => ?_)
    refine lv_aload_n hx hb dX11_hints_9 rfl (lv_at hl 0 rfl) ?_
    refine lv_ifnonnull (tgt := 17) hx hb dX11_hints_10 (by decide) ?_
    refine lv_aload_n hx hb dX11_hints_17 rfl (lv_at hl 0 rfl) ?_
    refine gt_X11_236 hx hb hts hown hKK hI e9 ha_5 hk_5 dX11_hints_18 ?_
    have hq := Option.some.inj h
    exact W.iret (v := (G9.1 t_5 7)) hx hb hr (fun t ht hW => qc_mk (congrArg (fun z => Outcome.returned (some (Value.int z))) hq) (by rw [ht]; exact hI.nil)) hI.2.2 dX11_hints_21 hlocks
noncomputable def f_X11_unlike (F : Nat) (G2 : Grp) (G9 : Grp) (G10 : Grp) (G12 : Grp) (G13 : Grp) (G14 : Grp) (v1 : Int32) : Option (Int32) :=
  ob (f_X6_letterAt F G10 v1) (fun q_5 => om q_5 (some (-1)) (fun t_5 => ob (f_X6_isUnlike F G2 G9 G12 G13 G14 t_5) (fun q_20 => if q_20 = 0 then some 0 else some 1)))
def RM_X11_unlike : Room := { frames := 2, cells := 0, slots := 0, locals := 65 }
abbrev B_X11_unlike (HB : Heap) (D : va_G) (y : Nat → ClassId) (n : Nat) (κ : Nat → Nat) (σ : St) (q : Int32) : Heap → Prop := fun H => IV HB D y n n κ σ [] H
set_option maxRecDepth 100000 in
set_option maxHeartbeats 4000000 in
theorem c_X11_unlike (l : Launch) (HB : Heap) (D : va_G) (y : Nat → ClassId) (F n : Nat) (κ : Nat → Nat) (σ : St) (hN : N0 ≤ n) (v1 : Int32)  (G2 : Grp) (e2 : σ 2 = G2) (G9 : Grp) (e9 : σ 9 = G9) (G10 : Grp) (e10 : σ 10 = G10) (G12 : Grp) (e12 : σ 12 = G12) (G13 : Grp) (e13 : σ 13 = G13) (G14 : Grp) (e14 : σ 14 = G14) (q : Int32) (h : f_X11_unlike F G2 G9 G10 G12 G13 G14 v1 = some q) : MT l HB D y yX11_unlike cX11_unlike 3 (some .int) RM_X11_unlike [.ref (HB.size + 0), .int v1] (IV HB D y n n κ σ []) (some (.int q)) (B_X11_unlike HB D y n κ σ q) := by
  refine Met.ofW (cc := cX11_unlike) (maxL := 3) (ret := (some .int)) (by decide) rfl ?_
  intro p e s m args below meth c s₁ BL hml hv
  obtain ⟨rfl, hI, hKK⟩ := hv
  have hx := BL.exec
  have hb := BL.bytes
  have hr := BL.returns
  have hts : ∀ w ∈ gtb, w.before _ s = true := fun w hw => atoms_spec BL.pre w (List.mem_cons_of_mem _ hw)
  have hml : c.maxLocals = 3 := hml
  have hown : s.vm.findClass RX11 = some m.cls := findClass_of_methodNamed BL.named
  have hlocks := BL.notSynchronized
  have hk0 := hI.1.2.2.2.2
  have hl := lv_entry ([.ref (HB.size + 0), .int v1]) (n := 3) (Nat.le_of_ble_eq_true rfl)
  rw [lg_entry_eq]
  generalize (lg_sl ([.ref (HB.size + 0), .int v1]) ++ List.replicate (3 - (lg_sl ([.ref (HB.size + 0), .int v1])).length) Slot.unset).toArray = ls at hl ⊢
  have hl : lv_has ls 3 [(0, .ref (HB.size + 0)), (1, .int v1)] := hl
  generalize hargs : ([.ref (HB.size + 0), .int v1] : List Value).toArray = args at *
  show WX RM_X11_unlike p l e s m args below meth c HB (some (.int q)) (B_X11_unlike HB D y n κ σ q) s.heap [] (F0 m 0 ls [])
  generalize s.heap = H at hI ⊢
  unfold f_X11_unlike at h
  obtain ⟨locs, hlocs⟩ : ∃ x : List Loc, x = [] := ⟨_, rfl⟩
  rw [← hlocs] at hI ⊢
  refine lv_aload_n hx hb dX11_unlike_0 rfl (lv_at hl 0 rfl) ?_
  refine gf_X11_46 hx hb hts hown hKK hI hN dX11_unlike_1 ?_
  refine lv_iload_n hx hb dX11_unlike_4 rfl (lv_at hl 1 rfl) ?_
  obtain ⟨q_5, hq_5, h⟩ := ob_e h
  refine r_callV (As := [.int v1]) (rest := []) hx hb hml hts hown (c_X6_letterAt l HB D y F n κ σ hN v1 G10 e10 q_5 hq_5) cal_X6_letterAt im_X6_letterAt se_X6_letterAt lm_X11_209 ⟨Nat.le_of_ble_eq_true rfl, Nat.le_of_ble_eq_true rfl⟩ hI.nil hKK (r_recv hKK hI (hE6 HB.size y) rfl (lc44 hN) (kc44 hk0)) rfl hl.1 hI.2.2 rfl (Nat.le_of_ble_eq_true rfl) dX11_unlike_5 ⟨Nat.le_of_ble_eq_true rfl, Nat.le_of_ble_eq_true rfl⟩ rfl rfl rfl (fun H locs hB hlo => ?_)
  obtain ⟨hB, hf_5⟩ := hB
  have hI := hB.re hlo
  rcases om_e h with ⟨eo, h⟩ | ⟨t_5, eo, h⟩
  · refine topn eo ?_
    refine lv_astore_nN (lv' := [(2, .null), (0, .ref (HB.size + 0)), (1, .int v1)]) hx hb dX11_unlike_8 rfl hl (by decide) rfl (fun ls hl => ?_)
    refine lv_aload_nN hx hb dX11_unlike_9 rfl (lv_at hl 0 rfl) ?_
    refine lv_ifnonnullN hx hb dX11_unlike_10 ?_
    refine lv_iconst (v := (-1)) hx hb dX11_unlike_13 (by decide) ?_
    have hq := Option.some.inj h
    exact W.iret (v := (-1)) hx hb hr (fun t ht hW => qc_mk (congrArg (fun z => Outcome.returned (some (Value.int z))) hq) (by rw [ht]; exact hI.nil)) hI.2.2 dX11_unlike_14 hlocks
  · refine topr eo ?_
    obtain ⟨ha_5, hk_5⟩ := hf_5 _ eo
    refine lv_astore_n (lv' := [(2, .ref (HB.size + t_5)), (0, .ref (HB.size + 0)), (1, .int v1)]) hx hb dX11_unlike_8 rfl hl (by decide) rfl (fun ls hl => ?_)
    refine lv_aload_n hx hb dX11_unlike_9 rfl (lv_at hl 0 rfl) ?_
    refine lv_ifnonnull (tgt := 15) hx hb dX11_unlike_10 (by decide) ?_
    refine lv_aload_n hx hb dX11_unlike_15 rfl (lv_at hl 1 rfl) ?_
    refine gf_X11_46 hx hb hts hown hKK hI hN dX11_unlike_16 ?_
    refine lv_aload_n hx hb dX11_unlike_19 rfl (lv_at hl 0 rfl) ?_
    obtain ⟨q_20, hq_20, h⟩ := ob_e h
    refine r_callV (As := [.ref (HB.size + t_5)]) (rest := []) hx hb hml hts hown (c_X6_isUnlike l HB D y F n κ σ hN t_5 ha_5 hk_5 G2 e2 G9 e9 G12 e12 G13 e13 G14 e14 q_20 hq_20) cal_X6_isUnlike im_X6_isUnlike se_X6_isUnlike lm_X11_239 ⟨Nat.le_of_ble_eq_true rfl, Nat.le_of_ble_eq_true rfl⟩ hI.nil hKK (r_recv hKK hI (hE6 HB.size y) rfl (lc44 hN) (kc44 hk0)) rfl hl.1 hI.2.2 rfl (Nat.le_of_ble_eq_true rfl) dX11_unlike_20 ⟨Nat.le_of_ble_eq_true rfl, Nat.le_of_ble_eq_true rfl⟩ rfl rfl rfl (fun H locs hB hlo => ?_)
    have hI := hB.re hlo
    refine lv_if_eq (tgt := 30) hx hb dX11_unlike_23 (by decide) (fun hc => ?_) (fun hc => ?_)
    · replace h := ite_t hc h
      refine lv_iconst (v := 0) hx hb dX11_unlike_30 (by decide) ?_
      have hq := Option.some.inj h
      exact W.iret (v := 0) hx hb hr (fun t ht hW => qc_mk (congrArg (fun z => Outcome.returned (some (Value.int z))) hq) (by rw [ht]; exact hI.nil)) hI.2.2 dX11_unlike_31 hlocks
    · replace h := ite_f hc h
      refine lv_iconst (v := 1) hx hb dX11_unlike_26 (by decide) ?_
      refine lv_goto (tgt := 31) hx hb dX11_unlike_27 (by decide) ?_
      have hq := Option.some.inj h
      exact W.iret (v := 1) hx hb hr (fun t ht hW => qc_mk (congrArg (fun z => Outcome.returned (some (Value.int z))) hq) (by rw [ht]; exact hI.nil)) hI.2.2 dX11_unlike_31 hlocks
noncomputable def f_X11_lag (F : Nat) (G10 : Grp) (G15 : Grp) (v1 : Int32) : Option (Int32) :=
  ob (f_X11_within F v1 0 5) (fun q_3 => if q_3 = 0 then some (-1) else ob (f_X6_lagIn F G10 G15 v1) (fun q_14 => some q_14))
def RM_X11_lag : Room := { frames := 1, cells := 0, slots := 0, locals := 23 }
abbrev B_X11_lag (HB : Heap) (D : va_G) (y : Nat → ClassId) (n : Nat) (κ : Nat → Nat) (σ : St) (q : Int32) : Heap → Prop := fun H => IV HB D y n n κ σ [] H
set_option maxRecDepth 100000 in
set_option maxHeartbeats 4000000 in
theorem c_X11_lag (l : Launch) (HB : Heap) (D : va_G) (y : Nat → ClassId) (F n : Nat) (κ : Nat → Nat) (σ : St) (hN : N0 ≤ n) (v1 : Int32)  (G10 : Grp) (e10 : σ 10 = G10) (G15 : Grp) (e15 : σ 15 = G15) (q : Int32) (h : f_X11_lag F G10 G15 v1 = some q) : MT l HB D y yX11_lag cX11_lag 2 (some .int) RM_X11_lag [.ref (HB.size + 0), .int v1] (IV HB D y n n κ σ []) (some (.int q)) (B_X11_lag HB D y n κ σ q) := by
  refine Met.ofW (cc := cX11_lag) (maxL := 2) (ret := (some .int)) (by decide) rfl ?_
  intro p e s m args below meth c s₁ BL hml hv
  obtain ⟨rfl, hI, hKK⟩ := hv
  have hx := BL.exec
  have hb := BL.bytes
  have hr := BL.returns
  have hts : ∀ w ∈ gtb, w.before _ s = true := fun w hw => atoms_spec BL.pre w (List.mem_cons_of_mem _ hw)
  have hml : c.maxLocals = 2 := hml
  have hown : s.vm.findClass RX11 = some m.cls := findClass_of_methodNamed BL.named
  have hlocks := BL.notSynchronized
  have hk0 := hI.1.2.2.2.2
  have hl := lv_entry ([.ref (HB.size + 0), .int v1]) (n := 2) (Nat.le_of_ble_eq_true rfl)
  rw [lg_entry_eq]
  generalize (lg_sl ([.ref (HB.size + 0), .int v1]) ++ List.replicate (2 - (lg_sl ([.ref (HB.size + 0), .int v1])).length) Slot.unset).toArray = ls at hl ⊢
  have hl : lv_has ls 2 [(0, .ref (HB.size + 0)), (1, .int v1)] := hl
  generalize hargs : ([.ref (HB.size + 0), .int v1] : List Value).toArray = args at *
  show WX RM_X11_lag p l e s m args below meth c HB (some (.int q)) (B_X11_lag HB D y n κ σ q) s.heap [] (F0 m 0 ls [])
  generalize s.heap = H at hI ⊢
  unfold f_X11_lag at h
  obtain ⟨locs, hlocs⟩ : ∃ x : List Loc, x = [] := ⟨_, rfl⟩
  rw [← hlocs] at hI ⊢
  refine lv_iload_n hx hb dX11_lag_0 rfl (lv_at hl 1 rfl) ?_
  refine lv_iconst (v := 0) hx hb dX11_lag_1 (by decide) ?_
  refine lv_iconst (v := 5) hx hb dX11_lag_2 (by decide) ?_
  obtain ⟨q_3, hq_3, h⟩ := ob_e h
  refine r_callS (As := [.int v1, .int 0, .int 5]) (rest := []) hx hb hml hts hown (c_X11_within l HB D y F n κ σ hN v1 0 5  q_3 hq_3) cal_X11_within st_X11_within lm_X11_80 ⟨Nat.le_of_ble_eq_true rfl, Nat.le_of_ble_eq_true rfl⟩ hI.nil hKK rfl hl.1 hI.2.2 rfl (Nat.le_of_ble_eq_true rfl) dX11_lag_3 ⟨Nat.le_of_ble_eq_true rfl, Nat.le_of_ble_eq_true rfl⟩ rfl rfl rfl (fun H locs hB hlo => ?_)
  have hI := hB.re hlo
  refine lv_if_eq (tgt := 20) hx hb dX11_lag_6 (by decide) (fun hc => ?_) (fun hc => ?_)
  · replace h := ite_t hc h
    refine lv_iconst (v := (-1)) hx hb dX11_lag_20 (by decide) ?_
    have hq := Option.some.inj h
    exact W.iret (v := (-1)) hx hb hr (fun t ht hW => qc_mk (congrArg (fun z => Outcome.returned (some (Value.int z))) hq) (by rw [ht]; exact hI.nil)) hI.2.2 dX11_lag_21 hlocks
  · replace h := ite_f hc h
    refine lv_aload_n hx hb dX11_lag_9 rfl (lv_at hl 0 rfl) ?_
    refine gf_X11_46 hx hb hts hown hKK hI hN dX11_lag_10 ?_
    refine lv_iload_n hx hb dX11_lag_13 rfl (lv_at hl 1 rfl) ?_
    obtain ⟨q_14, hq_14, h⟩ := ob_e h
    refine r_callV (As := [.int v1]) (rest := []) hx hb hml hts hown (c_X6_lagIn l HB D y F n κ σ hN v1 G10 e10 G15 e15 q_14 hq_14) cal_X6_lagIn im_X6_lagIn se_X6_lagIn lm_X11_243 ⟨Nat.le_of_ble_eq_true rfl, Nat.le_of_ble_eq_true rfl⟩ hI.nil hKK (r_recv hKK hI (hE6 HB.size y) rfl (lc44 hN) (kc44 hk0)) rfl hl.1 hI.2.2 rfl (Nat.le_of_ble_eq_true rfl) dX11_lag_14 ⟨Nat.le_of_ble_eq_true rfl, Nat.le_of_ble_eq_true rfl⟩ rfl rfl rfl (fun H locs hB hlo => ?_)
    have hI := hB.re hlo
    refine lv_goto (tgt := 21) hx hb dX11_lag_17 (by decide) ?_
    have hq := Option.some.inj h
    exact W.iret (v := q_14) hx hb hr (fun t ht hW => qc_mk (congrArg (fun z => Outcome.returned (some (Value.int z))) hq) (by rw [ht]; exact hI.nil)) hI.2.2 dX11_lag_21 hlocks
noncomputable def f_X11_gift (F : Nat) (G1 : Grp) (G2 : Grp) (G6 : Grp) (G7 : Grp) (G9 : Grp) (G18 : Grp) (v1 : Int32) (v2 : Int32) : Option (Int32 × Grp) :=
  ob (f_X3_openPairAt F G7 G9 v1) (fun q_5 => om q_5 (some ((-1), G18)) (fun t_5 => ob (f_X11_within F v2 1 1000000) (fun q_17 => if q_17 = 0 then some ((-1), G18) else ck (G9.1 t_5 2) 16 (ob (f_X1_give F G2 G18 (G9.1 t_5 2) (G6.1 36 (G9.1 t_5 2).toNatClampNeg) v2 ((G1.1 0 0) / 360)) (fun q_54 => some (q_54.1, q_54.2))))))
def RM_X11_gift : Room := { frames := 3, cells := 0, slots := 0, locals := 69 }
abbrev W_X11_gift : List Nat := [18]
abbrev B_X11_gift (HB : Heap) (D : va_G) (y : Nat → ClassId) (n : Nat) (κ : Nat → Nat) (σ0 : St) (q : Int32 × Grp) : Heap → Prop := fun H => ∃ σ : St, IV HB D y n n κ σ [] H ∧ σ 18 = q.2 ∧ ∀ j, j ∉ W_X11_gift → σ j = σ0 j
set_option maxRecDepth 100000 in
set_option maxHeartbeats 4000000 in
theorem c_X11_gift (l : Launch) (HB : Heap) (D : va_G) (y : Nat → ClassId) (F n : Nat) (κ : Nat → Nat) (σ0 : St) (hN : N0 ≤ n) (v1 : Int32)  (v2 : Int32)  (G1 : Grp) (e1 : σ0 1 = G1) (G2 : Grp) (e2 : σ0 2 = G2) (G6 : Grp) (e6 : σ0 6 = G6) (G7 : Grp) (e7 : σ0 7 = G7) (G9 : Grp) (e9 : σ0 9 = G9) (G18 : Grp) (e18 : σ0 18 = G18) (q : Int32 × Grp) (h : f_X11_gift F G1 G2 G6 G7 G9 G18 v1 v2 = some q) : MT l HB D y yX11_gift cX11_gift 4 (some .int) RM_X11_gift [.ref (HB.size + 0), .int v1, .int v2] (IV HB D y n n κ σ0 []) (some (.int q.1)) (B_X11_gift HB D y n κ σ0 q) := by
  refine Met.ofW (cc := cX11_gift) (maxL := 4) (ret := (some .int)) (by decide) rfl ?_
  intro p e s m args below meth c s₁ BL hml hv
  obtain ⟨rfl, hI, hKK⟩ := hv
  have hx := BL.exec
  have hb := BL.bytes
  have hr := BL.returns
  have hts : ∀ w ∈ gtb, w.before _ s = true := fun w hw => atoms_spec BL.pre w (List.mem_cons_of_mem _ hw)
  have hml : c.maxLocals = 4 := hml
  have hown : s.vm.findClass RX11 = some m.cls := findClass_of_methodNamed BL.named
  have hlocks := BL.notSynchronized
  have hk0 := hI.1.2.2.2.2
  have hl := lv_entry ([.ref (HB.size + 0), .int v1, .int v2]) (n := 4) (Nat.le_of_ble_eq_true rfl)
  rw [lg_entry_eq]
  generalize (lg_sl ([.ref (HB.size + 0), .int v1, .int v2]) ++ List.replicate (4 - (lg_sl ([.ref (HB.size + 0), .int v1, .int v2])).length) Slot.unset).toArray = ls at hl ⊢
  have hl : lv_has ls 4 [(0, .ref (HB.size + 0)), (1, .int v1), (2, .int v2)] := hl
  generalize hargs : ([.ref (HB.size + 0), .int v1, .int v2] : List Value).toArray = args at *
  obtain ⟨σ, hI, e1, e2, e6, e7, e9, e18, fr⟩ : ∃ σ : St, IV HB D y n n κ σ [] s.heap ∧ σ 1 = G1 ∧ σ 2 = G2 ∧ σ 6 = G6 ∧ σ 7 = G7 ∧ σ 9 = G9 ∧ σ 18 = G18 ∧ ∀ j, j ∉ W_X11_gift → σ j = σ0 j := ⟨σ0, hI, e1, e2, e6, e7, e9, e18, fun _ _ => rfl⟩
  show WX RM_X11_gift p l e s m args below meth c HB (some (.int q.1)) (B_X11_gift HB D y n κ σ0 q) s.heap [] (F0 m 0 ls [])
  generalize s.heap = H at hI ⊢
  unfold f_X11_gift at h
  obtain ⟨locs, hlocs⟩ : ∃ x : List Loc, x = [] := ⟨_, rfl⟩
  rw [← hlocs] at hI ⊢
  refine lv_aload_n hx hb dX11_gift_0 rfl (lv_at hl 0 rfl) ?_
  refine gf_X11_37 hx hb hts hown hKK hI hN dX11_gift_1 ?_
  refine lv_iload_n hx hb dX11_gift_4 rfl (lv_at hl 1 rfl) ?_
  obtain ⟨q_5, hq_5, h⟩ := ob_e h
  refine r_callV (As := [.int v1]) (rest := []) hx hb hml hts hown (c_X3_openPairAt l HB D y F n κ σ hN v1 G7 e7 G9 e9 q_5 hq_5) cal_X3_openPairAt im_X3_openPairAt se_X3_openPairAt lm_X11_121 ⟨Nat.le_of_ble_eq_true rfl, Nat.le_of_ble_eq_true rfl⟩ hI.nil hKK (r_recv hKK hI (hE3 HB.size y) rfl (lc32 hN) (kc32 hk0)) rfl hl.1 hI.2.2 rfl (Nat.le_of_ble_eq_true rfl) dX11_gift_5 ⟨Nat.le_of_ble_eq_true rfl, Nat.le_of_ble_eq_true rfl⟩ rfl rfl rfl (fun H locs hB hlo => ?_)
  obtain ⟨hB, hf_5⟩ := hB
  have hI := hB.re hlo
  rcases om_e h with ⟨eo, h⟩ | ⟨t_5, eo, h⟩
  · refine topn eo ?_
    refine lv_astore_nN (lv' := [(3, .null), (0, .ref (HB.size + 0)), (1, .int v1), (2, .int v2)]) hx hb dX11_gift_8 rfl hl (by decide) rfl (fun ls hl => ?_)
    refine lv_aload_nN hx hb dX11_gift_9 rfl (lv_at hl 0 rfl) ?_
    refine lv_ifnullN (tgt := 23) hx hb dX11_gift_10 (by decide) ?_
    refine lv_iconst (v := (-1)) hx hb dX11_gift_23 (by decide) ?_
    have hq := Option.some.inj h
    exact W.iret (v := (-1)) hx hb hr (fun t ht hW => qc_mk (congrArg (fun z => Outcome.returned (some (Value.int z.1))) hq) (by rw [ht]; exact ⟨σ, hI.nil, e18.trans (congrArg (fun z => z.2) hq), fr⟩)) hI.2.2 dX11_gift_24 hlocks
  · refine topr eo ?_
    obtain ⟨ha_5, hk_5⟩ := hf_5 _ eo
    refine lv_astore_n (lv' := [(3, .ref (HB.size + t_5)), (0, .ref (HB.size + 0)), (1, .int v1), (2, .int v2)]) hx hb dX11_gift_8 rfl hl (by decide) rfl (fun ls hl => ?_)
    refine lv_aload_n hx hb dX11_gift_9 rfl (lv_at hl 0 rfl) ?_
    refine lv_ifnull hx hb dX11_gift_10 ?_
    refine lv_iload_n hx hb dX11_gift_13 rfl (lv_at hl 3 rfl) ?_
    refine lv_iconst (v := 1) hx hb dX11_gift_14 (by decide) ?_
    refine lv_ldc (v := 1000000) hx hb hown (hts _ lk_X11_246) dX11_gift_15 ?_
    obtain ⟨q_17, hq_17, h⟩ := ob_e h
    refine r_callS (As := [.int v2, .int 1, .int 1000000]) (rest := []) hx hb hml hts hown (c_X11_within l HB D y F n κ σ hN v2 1 1000000  q_17 hq_17) cal_X11_within st_X11_within lm_X11_80 ⟨Nat.le_of_ble_eq_true rfl, Nat.le_of_ble_eq_true rfl⟩ hI.nil hKK rfl hl.1 hI.2.2 rfl (Nat.le_of_ble_eq_true rfl) dX11_gift_17 ⟨Nat.le_of_ble_eq_true rfl, Nat.le_of_ble_eq_true rfl⟩ rfl rfl rfl (fun H locs hB hlo => ?_)
    have hI := hB.re hlo
    refine lv_if_ne (tgt := 25) hx hb dX11_gift_20 (by decide) (fun hc => ?_) (fun hc => ?_)
    · replace h := ite_f hc h
      refine lv_aload_n hx hb dX11_gift_25 rfl (lv_at hl 1 rfl) ?_
      refine gf_X11_62 hx hb hts hown hKK hI hN dX11_gift_26 ?_
      refine lv_aload_n hx hb dX11_gift_29 rfl (lv_at hl 0 rfl) ?_
      refine gt_X11_247 hx hb hts hown hKK hI e9 ha_5 hk_5 dX11_gift_30 ?_
      refine lv_aload_n hx hb dX11_gift_33 rfl (lv_at hl 1 rfl) ?_
      refine gf_X11_37 hx hb hts hown hKK hI hN dX11_gift_34 ?_
      refine gf_X11_250 hx hb hts hown hKK hI hN dX11_gift_37 ?_
      refine lv_aload_n hx hb dX11_gift_40 rfl (lv_at hl 0 rfl) ?_
      refine gt_X11_247 hx hb hts hown hKK hI e9 ha_5 hk_5 dX11_gift_41 ?_
      obtain ⟨hin_, h⟩ := ck_e h
      refine la_21 hx hb hKK hI e6 (lc36 hN) (kc36 hk0) hin_ dX11_gift_44 ?_
      refine lv_iload_n hx hb dX11_gift_45 rfl (lv_at hl 3 rfl) ?_
      refine lv_aload_n hx hb dX11_gift_46 rfl (lv_at hl 1 rfl) ?_
      refine gt_X11_106 hx hb hts hown hKK hI e1 (lc0 hN) (kc0 hk0) dX11_gift_47 ?_
      refine lv_sipush (v := 360) hx hb dX11_gift_50 (by decide) ?_
      refine lv_idiv hx hb dX11_gift_53 (by decide) ?_
      obtain ⟨q_54, hq_54, h⟩ := ob_e h
      refine r_callV (As := [.int (G9.1 t_5 2), .int (G6.1 36 (G9.1 t_5 2).toNatClampNeg), .int v2, .int ((G1.1 0 0) / 360)]) (rest := []) hx hb hml hts hown (c_X1_give l HB D y F n κ σ hN (G9.1 t_5 2) (G6.1 36 (G9.1 t_5 2).toNatClampNeg) v2 ((G1.1 0 0) / 360) G2 e2 G18 e18 q_54 hq_54) cal_X1_give im_X1_give se_X1_give lm_X11_253 ⟨Nat.le_of_ble_eq_true rfl, Nat.le_of_ble_eq_true rfl⟩ hI.nil hKK (r_recv hKK hI (hE1 HB.size y) rfl (lc70 hN) (kc70 hk0)) rfl hl.1 hI.2.2 rfl (Nat.le_of_ble_eq_true rfl) dX11_gift_54 ⟨Nat.le_of_ble_eq_true rfl, Nat.le_of_ble_eq_true rfl⟩ rfl rfl rfl (fun H locs hB hlo => ?_)
      obtain ⟨σ, hB, en18, ho⟩ := hB
      have hI := hB.re hlo
      have e18 := en18
      have e1 := (ho 1 (ni rfl)).trans e1
      have e2 := (ho 2 (ni rfl)).trans e2
      have e6 := (ho 6 (ni rfl)).trans e6
      have e7 := (ho 7 (ni rfl)).trans e7
      have e9 := (ho 9 (ni rfl)).trans e9
      have fr := frc fr ho (by decide)
      have hq := Option.some.inj h
      exact W.iret (v := q_54.1) hx hb hr (fun t ht hW => qc_mk (congrArg (fun z => Outcome.returned (some (Value.int z.1))) hq) (by rw [ht]; exact ⟨σ, hI.nil, e18.trans (congrArg (fun z => z.2) hq), fr⟩)) hI.2.2 dX11_gift_57 hlocks
    · replace h := ite_t hc h
      refine lv_iconst (v := (-1)) hx hb dX11_gift_23 (by decide) ?_
      have hq := Option.some.inj h
      exact W.iret (v := (-1)) hx hb hr (fun t ht hW => qc_mk (congrArg (fun z => Outcome.returned (some (Value.int z.1))) hq) (by rw [ht]; exact ⟨σ, hI.nil, e18.trans (congrArg (fun z => z.2) hq), fr⟩)) hI.2.2 dX11_gift_24 hlocks
noncomputable def f_X11_coin (F : Nat) (G1 : Grp) (G18 : Grp) (v1 : Int32) : Option (Int64) :=
  ob (f_X1_tell F G18 v1 ((G1.1 0 0) / 360)) (fun q_13 => some q_13)
def RM_X11_coin : Room := { frames := 2, cells := 0, slots := 0, locals := 44 }
abbrev B_X11_coin (HB : Heap) (D : va_G) (y : Nat → ClassId) (n : Nat) (κ : Nat → Nat) (σ : St) (q : Int64) : Heap → Prop := fun H => IV HB D y n n κ σ [] H
set_option maxRecDepth 100000 in
set_option maxHeartbeats 4000000 in
theorem c_X11_coin (l : Launch) (HB : Heap) (D : va_G) (y : Nat → ClassId) (F n : Nat) (κ : Nat → Nat) (σ : St) (hN : N0 ≤ n) (v1 : Int32)  (G1 : Grp) (e1 : σ 1 = G1) (G18 : Grp) (e18 : σ 18 = G18) (q : Int64) (h : f_X11_coin F G1 G18 v1 = some q) : MT l HB D y yX11_coin cX11_coin 2 (some .long) RM_X11_coin [.ref (HB.size + 0), .int v1] (IV HB D y n n κ σ []) (some (.long q)) (B_X11_coin HB D y n κ σ q) := by
  refine Met.ofW (cc := cX11_coin) (maxL := 2) (ret := (some .long)) (by decide) rfl ?_
  intro p e s m args below meth c s₁ BL hml hv
  obtain ⟨rfl, hI, hKK⟩ := hv
  have hx := BL.exec
  have hb := BL.bytes
  have hr := BL.returns
  have hts : ∀ w ∈ gtb, w.before _ s = true := fun w hw => atoms_spec BL.pre w (List.mem_cons_of_mem _ hw)
  have hml : c.maxLocals = 2 := hml
  have hown : s.vm.findClass RX11 = some m.cls := findClass_of_methodNamed BL.named
  have hlocks := BL.notSynchronized
  have hk0 := hI.1.2.2.2.2
  have hl := lv_entry ([.ref (HB.size + 0), .int v1]) (n := 2) (Nat.le_of_ble_eq_true rfl)
  rw [lg_entry_eq]
  generalize (lg_sl ([.ref (HB.size + 0), .int v1]) ++ List.replicate (2 - (lg_sl ([.ref (HB.size + 0), .int v1])).length) Slot.unset).toArray = ls at hl ⊢
  have hl : lv_has ls 2 [(0, .ref (HB.size + 0)), (1, .int v1)] := hl
  generalize hargs : ([.ref (HB.size + 0), .int v1] : List Value).toArray = args at *
  show WX RM_X11_coin p l e s m args below meth c HB (some (.long q)) (B_X11_coin HB D y n κ σ q) s.heap [] (F0 m 0 ls [])
  generalize s.heap = H at hI ⊢
  unfold f_X11_coin at h
  obtain ⟨locs, hlocs⟩ : ∃ x : List Loc, x = [] := ⟨_, rfl⟩
  rw [← hlocs] at hI ⊢
  refine lv_aload_n hx hb dX11_coin_0 rfl (lv_at hl 0 rfl) ?_
  refine gf_X11_62 hx hb hts hown hKK hI hN dX11_coin_1 ?_
  refine lv_iload_n hx hb dX11_coin_4 rfl (lv_at hl 1 rfl) ?_
  refine lv_aload_n hx hb dX11_coin_5 rfl (lv_at hl 0 rfl) ?_
  refine gt_X11_106 hx hb hts hown hKK hI e1 (lc0 hN) (kc0 hk0) dX11_coin_6 ?_
  refine lv_sipush (v := 360) hx hb dX11_coin_9 (by decide) ?_
  refine lv_idiv hx hb dX11_coin_12 (by decide) ?_
  obtain ⟨q_13, hq_13, h⟩ := ob_e h
  refine r_callV (As := [.int v1, .int ((G1.1 0 0) / 360)]) (rest := []) hx hb hml hts hown (c_X1_tell l HB D y F n κ σ hN v1 ((G1.1 0 0) / 360) G18 e18 q_13 hq_13) cal_X1_tell im_X1_tell se_X1_tell lm_X11_256 ⟨Nat.le_of_ble_eq_true rfl, Nat.le_of_ble_eq_true rfl⟩ hI.nil hKK (r_recv hKK hI (hE1 HB.size y) rfl (lc70 hN) (kc70 hk0)) rfl hl.1 hI.2.2 rfl (Nat.le_of_ble_eq_true rfl) dX11_coin_13 ⟨Nat.le_of_ble_eq_true rfl, Nat.le_of_ble_eq_true rfl⟩ rfl rfl rfl (fun H locs hB hlo => ?_)
  have hI := hB.re hlo
  have hq := Option.some.inj h
  exact W.lret (v := q_13) hx hb hr (fun t ht hW => qc_mk (congrArg (fun z => Outcome.returned (some (Value.long z))) hq) (by rw [ht]; exact hI.nil)) hI.2.2 dX11_coin_16 hlocks
noncomputable def f_X11_project (F : Nat) (G6 : Grp) (G19 : Grp) (v1 : Int32) (v2 : Int32) (v3 : Int32) : Option (Int32 × Grp) :=
  ob (f_X3_hasVillage F G6 v1) (fun q_5 => if q_5 = 0 then some ((-1), G19) else ob (f_X11_within F v2 1 1000000) (fun q_15 => if q_15 = 0 then some ((-1), G19) else ob (f_X11_within F v3 0 1000) (fun q_26 => if q_26 = 0 then some ((-1), G19) else ob (f_X1_addProject F G19 v1 v2 v3) (fun q_41 => some (q_41.1, q_41.2)))))
def RM_X11_project : Room := { frames := 2, cells := 0, slots := 0, locals := 43 }
abbrev W_X11_project : List Nat := [19]
abbrev B_X11_project (HB : Heap) (D : va_G) (y : Nat → ClassId) (n : Nat) (κ : Nat → Nat) (σ0 : St) (q : Int32 × Grp) : Heap → Prop := fun H => ∃ σ : St, IV HB D y n n κ σ [] H ∧ σ 19 = q.2 ∧ ∀ j, j ∉ W_X11_project → σ j = σ0 j
set_option maxRecDepth 100000 in
set_option maxHeartbeats 4000000 in
theorem c_X11_project (l : Launch) (HB : Heap) (D : va_G) (y : Nat → ClassId) (F n : Nat) (κ : Nat → Nat) (σ0 : St) (hN : N0 ≤ n) (v1 : Int32)  (v2 : Int32)  (v3 : Int32)  (G6 : Grp) (e6 : σ0 6 = G6) (G19 : Grp) (e19 : σ0 19 = G19) (q : Int32 × Grp) (h : f_X11_project F G6 G19 v1 v2 v3 = some q) : MT l HB D y yX11_project cX11_project 4 (some .int) RM_X11_project [.ref (HB.size + 0), .int v1, .int v2, .int v3] (IV HB D y n n κ σ0 []) (some (.int q.1)) (B_X11_project HB D y n κ σ0 q) := by
  refine Met.ofW (cc := cX11_project) (maxL := 4) (ret := (some .int)) (by decide) rfl ?_
  intro p e s m args below meth c s₁ BL hml hv
  obtain ⟨rfl, hI, hKK⟩ := hv
  have hx := BL.exec
  have hb := BL.bytes
  have hr := BL.returns
  have hts : ∀ w ∈ gtb, w.before _ s = true := fun w hw => atoms_spec BL.pre w (List.mem_cons_of_mem _ hw)
  have hml : c.maxLocals = 4 := hml
  have hown : s.vm.findClass RX11 = some m.cls := findClass_of_methodNamed BL.named
  have hlocks := BL.notSynchronized
  have hk0 := hI.1.2.2.2.2
  have hl := lv_entry ([.ref (HB.size + 0), .int v1, .int v2, .int v3]) (n := 4) (Nat.le_of_ble_eq_true rfl)
  rw [lg_entry_eq]
  generalize (lg_sl ([.ref (HB.size + 0), .int v1, .int v2, .int v3]) ++ List.replicate (4 - (lg_sl ([.ref (HB.size + 0), .int v1, .int v2, .int v3])).length) Slot.unset).toArray = ls at hl ⊢
  have hl : lv_has ls 4 [(0, .ref (HB.size + 0)), (1, .int v1), (2, .int v2), (3, .int v3)] := hl
  generalize hargs : ([.ref (HB.size + 0), .int v1, .int v2, .int v3] : List Value).toArray = args at *
  obtain ⟨σ, hI, e6, e19, fr⟩ : ∃ σ : St, IV HB D y n n κ σ [] s.heap ∧ σ 6 = G6 ∧ σ 19 = G19 ∧ ∀ j, j ∉ W_X11_project → σ j = σ0 j := ⟨σ0, hI, e6, e19, fun _ _ => rfl⟩
  show WX RM_X11_project p l e s m args below meth c HB (some (.int q.1)) (B_X11_project HB D y n κ σ0 q) s.heap [] (F0 m 0 ls [])
  generalize s.heap = H at hI ⊢
  unfold f_X11_project at h
  obtain ⟨locs, hlocs⟩ : ∃ x : List Loc, x = [] := ⟨_, rfl⟩
  rw [← hlocs] at hI ⊢
  refine lv_aload_n hx hb dX11_project_0 rfl (lv_at hl 0 rfl) ?_
  refine gf_X11_37 hx hb hts hown hKK hI hN dX11_project_1 ?_
  refine lv_iload_n hx hb dX11_project_4 rfl (lv_at hl 1 rfl) ?_
  obtain ⟨q_5, hq_5, h⟩ := ob_e h
  refine r_callV (As := [.int v1]) (rest := []) hx hb hml hts hown (c_X3_hasVillage l HB D y F n κ σ hN v1 G6 e6 q_5 hq_5) cal_X3_hasVillage im_X3_hasVillage se_X3_hasVillage lm_X11_92 ⟨Nat.le_of_ble_eq_true rfl, Nat.le_of_ble_eq_true rfl⟩ hI.nil hKK (r_recv hKK hI (hE3 HB.size y) rfl (lc32 hN) (kc32 hk0)) rfl hl.1 hI.2.2 rfl (Nat.le_of_ble_eq_true rfl) dX11_project_5 ⟨Nat.le_of_ble_eq_true rfl, Nat.le_of_ble_eq_true rfl⟩ rfl rfl rfl (fun H locs hB hlo => ?_)
  have hI := hB.re hlo
  refine lv_if_eq (tgt := 32) hx hb dX11_project_8 (by decide) (fun hc => ?_) (fun hc => ?_)
  · replace h := ite_t hc h
    refine lv_iconst (v := (-1)) hx hb dX11_project_32 (by decide) ?_
    have hq := Option.some.inj h
    exact W.iret (v := (-1)) hx hb hr (fun t ht hW => qc_mk (congrArg (fun z => Outcome.returned (some (Value.int z.1))) hq) (by rw [ht]; exact ⟨σ, hI.nil, e19.trans (congrArg (fun z => z.2) hq), fr⟩)) hI.2.2 dX11_project_33 hlocks
  · replace h := ite_f hc h
    refine lv_iload_n hx hb dX11_project_11 rfl (lv_at hl 2 rfl) ?_
    refine lv_iconst (v := 1) hx hb dX11_project_12 (by decide) ?_
    refine lv_ldc (v := 1000000) hx hb hown (hts _ lk_X11_246) dX11_project_13 ?_
    obtain ⟨q_15, hq_15, h⟩ := ob_e h
    refine r_callS (As := [.int v2, .int 1, .int 1000000]) (rest := []) hx hb hml hts hown (c_X11_within l HB D y F n κ σ hN v2 1 1000000  q_15 hq_15) cal_X11_within st_X11_within lm_X11_80 ⟨Nat.le_of_ble_eq_true rfl, Nat.le_of_ble_eq_true rfl⟩ hI.nil hKK rfl hl.1 hI.2.2 rfl (Nat.le_of_ble_eq_true rfl) dX11_project_15 ⟨Nat.le_of_ble_eq_true rfl, Nat.le_of_ble_eq_true rfl⟩ rfl rfl rfl (fun H locs hB hlo => ?_)
    have hI := hB.re hlo
    refine lv_if_eq (tgt := 32) hx hb dX11_project_18 (by decide) (fun hc => ?_) (fun hc => ?_)
    · replace h := ite_t hc h
      refine lv_iconst (v := (-1)) hx hb dX11_project_32 (by decide) ?_
      have hq := Option.some.inj h
      exact W.iret (v := (-1)) hx hb hr (fun t ht hW => qc_mk (congrArg (fun z => Outcome.returned (some (Value.int z.1))) hq) (by rw [ht]; exact ⟨σ, hI.nil, e19.trans (congrArg (fun z => z.2) hq), fr⟩)) hI.2.2 dX11_project_33 hlocks
    · replace h := ite_f hc h
      refine lv_iload_n hx hb dX11_project_21 rfl (lv_at hl 3 rfl) ?_
      refine lv_iconst (v := 0) hx hb dX11_project_22 (by decide) ?_
      refine lv_sipush (v := 1000) hx hb dX11_project_23 (by decide) ?_
      obtain ⟨q_26, hq_26, h⟩ := ob_e h
      refine r_callS (As := [.int v3, .int 0, .int 1000]) (rest := []) hx hb hml hts hown (c_X11_within l HB D y F n κ σ hN v3 0 1000  q_26 hq_26) cal_X11_within st_X11_within lm_X11_80 ⟨Nat.le_of_ble_eq_true rfl, Nat.le_of_ble_eq_true rfl⟩ hI.nil hKK rfl hl.1 hI.2.2 rfl (Nat.le_of_ble_eq_true rfl) dX11_project_26 ⟨Nat.le_of_ble_eq_true rfl, Nat.le_of_ble_eq_true rfl⟩ rfl rfl rfl (fun H locs hB hlo => ?_)
      have hI := hB.re hlo
      refine lv_if_ne (tgt := 34) hx hb dX11_project_29 (by decide) (fun hc => ?_) (fun hc => ?_)
      · replace h := ite_f hc h
        refine lv_aload_n hx hb dX11_project_34 rfl (lv_at hl 0 rfl) ?_
        refine gf_X11_62 hx hb hts hown hKK hI hN dX11_project_35 ?_
        refine lv_iload_n hx hb dX11_project_38 rfl (lv_at hl 1 rfl) ?_
        refine lv_iload_n hx hb dX11_project_39 rfl (lv_at hl 2 rfl) ?_
        refine lv_iload_n hx hb dX11_project_40 rfl (lv_at hl 3 rfl) ?_
        obtain ⟨q_41, hq_41, h⟩ := ob_e h
        refine r_callV (As := [.int v1, .int v2, .int v3]) (rest := []) hx hb hml hts hown (c_X1_addProject l HB D y F n κ σ hN v1 v2 v3 G19 e19 q_41 hq_41) cal_X1_addProject im_X1_addProject se_X1_addProject lm_X11_259 ⟨Nat.le_of_ble_eq_true rfl, Nat.le_of_ble_eq_true rfl⟩ hI.nil hKK (r_recv hKK hI (hE1 HB.size y) rfl (lc70 hN) (kc70 hk0)) rfl hl.1 hI.2.2 rfl (Nat.le_of_ble_eq_true rfl) dX11_project_41 ⟨Nat.le_of_ble_eq_true rfl, Nat.le_of_ble_eq_true rfl⟩ rfl rfl rfl (fun H locs hB hlo => ?_)
        obtain ⟨σ, hB, en19, ho⟩ := hB
        have hI := hB.re hlo
        have e19 := en19
        have e6 := (ho 6 (ni rfl)).trans e6
        have fr := frc fr ho (by decide)
        have hq := Option.some.inj h
        exact W.iret (v := q_41.1) hx hb hr (fun t ht hW => qc_mk (congrArg (fun z => Outcome.returned (some (Value.int z.1))) hq) (by rw [ht]; exact ⟨σ, hI.nil, e19.trans (congrArg (fun z => z.2) hq), fr⟩)) hI.2.2 dX11_project_44 hlocks
      · replace h := ite_t hc h
        refine lv_iconst (v := (-1)) hx hb dX11_project_32 (by decide) ?_
        have hq := Option.some.inj h
        exact W.iret (v := (-1)) hx hb hr (fun t ht hW => qc_mk (congrArg (fun z => Outcome.returned (some (Value.int z.1))) hq) (by rw [ht]; exact ⟨σ, hI.nil, e19.trans (congrArg (fun z => z.2) hq), fr⟩)) hI.2.2 dX11_project_33 hlocks
noncomputable def f_X11_choice (F : Nat) (G6 : Grp) (G18 : Grp) (G19 : Grp) (v1 : Int32) : Option (Int32) :=
  ob (f_X3_hasVillage F G6 v1) (fun q_5 => if q_5 = 0 then some (-1) else ob (f_X1_choose F G18 G19 v1) (fun q_16 => some q_16))
def RM_X11_choice : Room := { frames := 2, cells := 0, slots := 0, locals := 53 }
abbrev B_X11_choice (HB : Heap) (D : va_G) (y : Nat → ClassId) (n : Nat) (κ : Nat → Nat) (σ : St) (q : Int32) : Heap → Prop := fun H => IV HB D y n n κ σ [] H
set_option maxRecDepth 100000 in
set_option maxHeartbeats 4000000 in
theorem c_X11_choice (l : Launch) (HB : Heap) (D : va_G) (y : Nat → ClassId) (F n : Nat) (κ : Nat → Nat) (σ : St) (hN : N0 ≤ n) (v1 : Int32)  (G6 : Grp) (e6 : σ 6 = G6) (G18 : Grp) (e18 : σ 18 = G18) (G19 : Grp) (e19 : σ 19 = G19) (q : Int32) (h : f_X11_choice F G6 G18 G19 v1 = some q) : MT l HB D y yX11_choice cX11_choice 2 (some .int) RM_X11_choice [.ref (HB.size + 0), .int v1] (IV HB D y n n κ σ []) (some (.int q)) (B_X11_choice HB D y n κ σ q) := by
  refine Met.ofW (cc := cX11_choice) (maxL := 2) (ret := (some .int)) (by decide) rfl ?_
  intro p e s m args below meth c s₁ BL hml hv
  obtain ⟨rfl, hI, hKK⟩ := hv
  have hx := BL.exec
  have hb := BL.bytes
  have hr := BL.returns
  have hts : ∀ w ∈ gtb, w.before _ s = true := fun w hw => atoms_spec BL.pre w (List.mem_cons_of_mem _ hw)
  have hml : c.maxLocals = 2 := hml
  have hown : s.vm.findClass RX11 = some m.cls := findClass_of_methodNamed BL.named
  have hlocks := BL.notSynchronized
  have hk0 := hI.1.2.2.2.2
  have hl := lv_entry ([.ref (HB.size + 0), .int v1]) (n := 2) (Nat.le_of_ble_eq_true rfl)
  rw [lg_entry_eq]
  generalize (lg_sl ([.ref (HB.size + 0), .int v1]) ++ List.replicate (2 - (lg_sl ([.ref (HB.size + 0), .int v1])).length) Slot.unset).toArray = ls at hl ⊢
  have hl : lv_has ls 2 [(0, .ref (HB.size + 0)), (1, .int v1)] := hl
  generalize hargs : ([.ref (HB.size + 0), .int v1] : List Value).toArray = args at *
  show WX RM_X11_choice p l e s m args below meth c HB (some (.int q)) (B_X11_choice HB D y n κ σ q) s.heap [] (F0 m 0 ls [])
  generalize s.heap = H at hI ⊢
  unfold f_X11_choice at h
  obtain ⟨locs, hlocs⟩ : ∃ x : List Loc, x = [] := ⟨_, rfl⟩
  rw [← hlocs] at hI ⊢
  refine lv_aload_n hx hb dX11_choice_0 rfl (lv_at hl 0 rfl) ?_
  refine gf_X11_37 hx hb hts hown hKK hI hN dX11_choice_1 ?_
  refine lv_iload_n hx hb dX11_choice_4 rfl (lv_at hl 1 rfl) ?_
  obtain ⟨q_5, hq_5, h⟩ := ob_e h
  refine r_callV (As := [.int v1]) (rest := []) hx hb hml hts hown (c_X3_hasVillage l HB D y F n κ σ hN v1 G6 e6 q_5 hq_5) cal_X3_hasVillage im_X3_hasVillage se_X3_hasVillage lm_X11_92 ⟨Nat.le_of_ble_eq_true rfl, Nat.le_of_ble_eq_true rfl⟩ hI.nil hKK (r_recv hKK hI (hE3 HB.size y) rfl (lc32 hN) (kc32 hk0)) rfl hl.1 hI.2.2 rfl (Nat.le_of_ble_eq_true rfl) dX11_choice_5 ⟨Nat.le_of_ble_eq_true rfl, Nat.le_of_ble_eq_true rfl⟩ rfl rfl rfl (fun H locs hB hlo => ?_)
  have hI := hB.re hlo
  refine lv_if_eq (tgt := 22) hx hb dX11_choice_8 (by decide) (fun hc => ?_) (fun hc => ?_)
  · replace h := ite_t hc h
    refine lv_iconst (v := (-1)) hx hb dX11_choice_22 (by decide) ?_
    have hq := Option.some.inj h
    exact W.iret (v := (-1)) hx hb hr (fun t ht hW => qc_mk (congrArg (fun z => Outcome.returned (some (Value.int z))) hq) (by rw [ht]; exact hI.nil)) hI.2.2 dX11_choice_23 hlocks
  · replace h := ite_f hc h
    refine lv_aload_n hx hb dX11_choice_11 rfl (lv_at hl 0 rfl) ?_
    refine gf_X11_62 hx hb hts hown hKK hI hN dX11_choice_12 ?_
    refine lv_iload_n hx hb dX11_choice_15 rfl (lv_at hl 1 rfl) ?_
    obtain ⟨q_16, hq_16, h⟩ := ob_e h
    refine r_callV (As := [.int v1]) (rest := []) hx hb hml hts hown (c_X1_choose l HB D y F n κ σ hN v1 G18 e18 G19 e19 q_16 hq_16) cal_X1_choose im_X1_choose se_X1_choose lm_X11_262 ⟨Nat.le_of_ble_eq_true rfl, Nat.le_of_ble_eq_true rfl⟩ hI.nil hKK (r_recv hKK hI (hE1 HB.size y) rfl (lc70 hN) (kc70 hk0)) rfl hl.1 hI.2.2 rfl (Nat.le_of_ble_eq_true rfl) dX11_choice_16 ⟨Nat.le_of_ble_eq_true rfl, Nat.le_of_ble_eq_true rfl⟩ rfl rfl rfl (fun H locs hB hlo => ?_)
    have hI := hB.re hlo
    refine lv_goto (tgt := 23) hx hb dX11_choice_19 (by decide) ?_
    have hq := Option.some.inj h
    exact W.iret (v := q_16) hx hb hr (fun t ht hW => qc_mk (congrArg (fun z => Outcome.returned (some (Value.int z))) hq) (by rw [ht]; exact hI.nil)) hI.2.2 dX11_choice_23 hlocks
noncomputable def f_X11_build (F : Nat) (G6 : Grp) (G18 : Grp) (G19 : Grp) (v1 : Int32) : Option (Int32 × Grp × Grp) :=
  ob (f_X3_hasVillage F G6 v1) (fun q_5 => if q_5 = 0 then some ((-1), G18, G19) else ob (f_X1_buildChosen F G18 G19 v1) (fun q_16 => some (q_16.1, q_16.2.1, q_16.2.2)))
def RM_X11_build : Room := { frames := 3, cells := 0, slots := 0, locals := 76 }
abbrev W_X11_build : List Nat := [18, 19]
abbrev B_X11_build (HB : Heap) (D : va_G) (y : Nat → ClassId) (n : Nat) (κ : Nat → Nat) (σ0 : St) (q : Int32 × Grp × Grp) : Heap → Prop := fun H => ∃ σ : St, IV HB D y n n κ σ [] H ∧ σ 18 = q.2.1 ∧ σ 19 = q.2.2 ∧ ∀ j, j ∉ W_X11_build → σ j = σ0 j
set_option maxRecDepth 100000 in
set_option maxHeartbeats 4000000 in
theorem c_X11_build (l : Launch) (HB : Heap) (D : va_G) (y : Nat → ClassId) (F n : Nat) (κ : Nat → Nat) (σ0 : St) (hN : N0 ≤ n) (v1 : Int32)  (G6 : Grp) (e6 : σ0 6 = G6) (G18 : Grp) (e18 : σ0 18 = G18) (G19 : Grp) (e19 : σ0 19 = G19) (q : Int32 × Grp × Grp) (h : f_X11_build F G6 G18 G19 v1 = some q) : MT l HB D y yX11_build cX11_build 2 (some .int) RM_X11_build [.ref (HB.size + 0), .int v1] (IV HB D y n n κ σ0 []) (some (.int q.1)) (B_X11_build HB D y n κ σ0 q) := by
  refine Met.ofW (cc := cX11_build) (maxL := 2) (ret := (some .int)) (by decide) rfl ?_
  intro p e s m args below meth c s₁ BL hml hv
  obtain ⟨rfl, hI, hKK⟩ := hv
  have hx := BL.exec
  have hb := BL.bytes
  have hr := BL.returns
  have hts : ∀ w ∈ gtb, w.before _ s = true := fun w hw => atoms_spec BL.pre w (List.mem_cons_of_mem _ hw)
  have hml : c.maxLocals = 2 := hml
  have hown : s.vm.findClass RX11 = some m.cls := findClass_of_methodNamed BL.named
  have hlocks := BL.notSynchronized
  have hk0 := hI.1.2.2.2.2
  have hl := lv_entry ([.ref (HB.size + 0), .int v1]) (n := 2) (Nat.le_of_ble_eq_true rfl)
  rw [lg_entry_eq]
  generalize (lg_sl ([.ref (HB.size + 0), .int v1]) ++ List.replicate (2 - (lg_sl ([.ref (HB.size + 0), .int v1])).length) Slot.unset).toArray = ls at hl ⊢
  have hl : lv_has ls 2 [(0, .ref (HB.size + 0)), (1, .int v1)] := hl
  generalize hargs : ([.ref (HB.size + 0), .int v1] : List Value).toArray = args at *
  obtain ⟨σ, hI, e6, e18, e19, fr⟩ : ∃ σ : St, IV HB D y n n κ σ [] s.heap ∧ σ 6 = G6 ∧ σ 18 = G18 ∧ σ 19 = G19 ∧ ∀ j, j ∉ W_X11_build → σ j = σ0 j := ⟨σ0, hI, e6, e18, e19, fun _ _ => rfl⟩
  show WX RM_X11_build p l e s m args below meth c HB (some (.int q.1)) (B_X11_build HB D y n κ σ0 q) s.heap [] (F0 m 0 ls [])
  generalize s.heap = H at hI ⊢
  unfold f_X11_build at h
  obtain ⟨locs, hlocs⟩ : ∃ x : List Loc, x = [] := ⟨_, rfl⟩
  rw [← hlocs] at hI ⊢
  refine lv_aload_n hx hb dX11_build_0 rfl (lv_at hl 0 rfl) ?_
  refine gf_X11_37 hx hb hts hown hKK hI hN dX11_build_1 ?_
  refine lv_iload_n hx hb dX11_build_4 rfl (lv_at hl 1 rfl) ?_
  obtain ⟨q_5, hq_5, h⟩ := ob_e h
  refine r_callV (As := [.int v1]) (rest := []) hx hb hml hts hown (c_X3_hasVillage l HB D y F n κ σ hN v1 G6 e6 q_5 hq_5) cal_X3_hasVillage im_X3_hasVillage se_X3_hasVillage lm_X11_92 ⟨Nat.le_of_ble_eq_true rfl, Nat.le_of_ble_eq_true rfl⟩ hI.nil hKK (r_recv hKK hI (hE3 HB.size y) rfl (lc32 hN) (kc32 hk0)) rfl hl.1 hI.2.2 rfl (Nat.le_of_ble_eq_true rfl) dX11_build_5 ⟨Nat.le_of_ble_eq_true rfl, Nat.le_of_ble_eq_true rfl⟩ rfl rfl rfl (fun H locs hB hlo => ?_)
  have hI := hB.re hlo
  refine lv_if_eq (tgt := 22) hx hb dX11_build_8 (by decide) (fun hc => ?_) (fun hc => ?_)
  · replace h := ite_t hc h
    refine lv_iconst (v := (-1)) hx hb dX11_build_22 (by decide) ?_
    have hq := Option.some.inj h
    exact W.iret (v := (-1)) hx hb hr (fun t ht hW => qc_mk (congrArg (fun z => Outcome.returned (some (Value.int z.1))) hq) (by rw [ht]; exact ⟨σ, hI.nil, e18.trans (congrArg (fun z => z.2.1) hq), e19.trans (congrArg (fun z => z.2.2) hq), fr⟩)) hI.2.2 dX11_build_23 hlocks
  · replace h := ite_f hc h
    refine lv_aload_n hx hb dX11_build_11 rfl (lv_at hl 0 rfl) ?_
    refine gf_X11_62 hx hb hts hown hKK hI hN dX11_build_12 ?_
    refine lv_iload_n hx hb dX11_build_15 rfl (lv_at hl 1 rfl) ?_
    obtain ⟨q_16, hq_16, h⟩ := ob_e h
    refine r_callV (As := [.int v1]) (rest := []) hx hb hml hts hown (c_X1_buildChosen l HB D y F n κ σ hN v1 G18 e18 G19 e19 q_16 hq_16) cal_X1_buildChosen im_X1_buildChosen se_X1_buildChosen lm_X11_265 ⟨Nat.le_of_ble_eq_true rfl, Nat.le_of_ble_eq_true rfl⟩ hI.nil hKK (r_recv hKK hI (hE1 HB.size y) rfl (lc70 hN) (kc70 hk0)) rfl hl.1 hI.2.2 rfl (Nat.le_of_ble_eq_true rfl) dX11_build_16 ⟨Nat.le_of_ble_eq_true rfl, Nat.le_of_ble_eq_true rfl⟩ rfl rfl rfl (fun H locs hB hlo => ?_)
    obtain ⟨σ, hB, en18, en19, ho⟩ := hB
    have hI := hB.re hlo
    have e18 := en18
    have e19 := en19
    have e6 := (ho 6 (ni rfl)).trans e6
    have fr := frc fr ho (by decide)
    refine lv_goto (tgt := 23) hx hb dX11_build_19 (by decide) ?_
    have hq := Option.some.inj h
    exact W.iret (v := q_16.1) hx hb hr (fun t ht hW => qc_mk (congrArg (fun z => Outcome.returned (some (Value.int z.1))) hq) (by rw [ht]; exact ⟨σ, hI.nil, e18.trans (congrArg (fun z => z.2.1) hq), e19.trans (congrArg (fun z => z.2.2) hq), fr⟩)) hI.2.2 dX11_build_23 hlocks
noncomputable def f_X11_leaves (F : Nat) (G1 : Grp) (G6 : Grp) (G7 : Grp) (G8 : Grp) (G9 : Grp) (v1 : Int32) (v2 : Int32) : Option (Int32 × Grp × Grp) :=
  ob (f_X3_hasChild F G6 v1) (fun q_5 => if q_5 = 0 then some (0, G8, G9) else ob (f_X11_within F v2 (-1) 3599) (fun q_16 => if q_16 = 0 then some (0, G8, G9) else if (G8.1 32 12) < 100 then ob (f_X3_tellLeaving F G7 G8 G9 v1 v2 (G1.1 0 0)) (fun q_46 => some (1, q_46.1, q_46.2)) else some (0, G8, G9)))
def RM_X11_leaves : Room := { frames := 3, cells := 0, slots := 0, locals := 66 }
abbrev W_X11_leaves : List Nat := [8, 9]
abbrev B_X11_leaves (HB : Heap) (D : va_G) (y : Nat → ClassId) (n : Nat) (κ : Nat → Nat) (σ0 : St) (q : Int32 × Grp × Grp) : Heap → Prop := fun H => ∃ σ : St, IV HB D y n n κ σ [] H ∧ σ 8 = q.2.1 ∧ σ 9 = q.2.2 ∧ ∀ j, j ∉ W_X11_leaves → σ j = σ0 j
set_option maxRecDepth 100000 in
set_option maxHeartbeats 4000000 in
theorem c_X11_leaves (l : Launch) (HB : Heap) (D : va_G) (y : Nat → ClassId) (F n : Nat) (κ : Nat → Nat) (σ0 : St) (hN : N0 ≤ n) (v1 : Int32)  (v2 : Int32)  (G1 : Grp) (e1 : σ0 1 = G1) (G6 : Grp) (e6 : σ0 6 = G6) (G7 : Grp) (e7 : σ0 7 = G7) (G8 : Grp) (e8 : σ0 8 = G8) (G9 : Grp) (e9 : σ0 9 = G9) (q : Int32 × Grp × Grp) (h : f_X11_leaves F G1 G6 G7 G8 G9 v1 v2 = some q) : MT l HB D y yX11_leaves cX11_leaves 3 (some .boolean) RM_X11_leaves [.ref (HB.size + 0), .int v1, .int v2] (IV HB D y n n κ σ0 []) (some (.int q.1)) (B_X11_leaves HB D y n κ σ0 q) := by
  refine Met.ofW (cc := cX11_leaves) (maxL := 3) (ret := (some .boolean)) (by decide) rfl ?_
  intro p e s m args below meth c s₁ BL hml hv
  obtain ⟨rfl, hI, hKK⟩ := hv
  have hx := BL.exec
  have hb := BL.bytes
  have hr := BL.returns
  have hts : ∀ w ∈ gtb, w.before _ s = true := fun w hw => atoms_spec BL.pre w (List.mem_cons_of_mem _ hw)
  have hml : c.maxLocals = 3 := hml
  have hown : s.vm.findClass RX11 = some m.cls := findClass_of_methodNamed BL.named
  have hlocks := BL.notSynchronized
  have hk0 := hI.1.2.2.2.2
  have hl := lv_entry ([.ref (HB.size + 0), .int v1, .int v2]) (n := 3) (Nat.le_of_ble_eq_true rfl)
  rw [lg_entry_eq]
  generalize (lg_sl ([.ref (HB.size + 0), .int v1, .int v2]) ++ List.replicate (3 - (lg_sl ([.ref (HB.size + 0), .int v1, .int v2])).length) Slot.unset).toArray = ls at hl ⊢
  have hl : lv_has ls 3 [(0, .ref (HB.size + 0)), (1, .int v1), (2, .int v2)] := hl
  generalize hargs : ([.ref (HB.size + 0), .int v1, .int v2] : List Value).toArray = args at *
  obtain ⟨σ, hI, e1, e6, e7, e8, e9, fr⟩ : ∃ σ : St, IV HB D y n n κ σ [] s.heap ∧ σ 1 = G1 ∧ σ 6 = G6 ∧ σ 7 = G7 ∧ σ 8 = G8 ∧ σ 9 = G9 ∧ ∀ j, j ∉ W_X11_leaves → σ j = σ0 j := ⟨σ0, hI, e1, e6, e7, e8, e9, fun _ _ => rfl⟩
  show WX RM_X11_leaves p l e s m args below meth c HB (some (.int q.1)) (B_X11_leaves HB D y n κ σ0 q) s.heap [] (F0 m 0 ls [])
  generalize s.heap = H at hI ⊢
  unfold f_X11_leaves at h
  obtain ⟨locs, hlocs⟩ : ∃ x : List Loc, x = [] := ⟨_, rfl⟩
  rw [← hlocs] at hI ⊢
  refine lv_aload_n hx hb dX11_leaves_0 rfl (lv_at hl 0 rfl) ?_
  refine gf_X11_37 hx hb hts hown hKK hI hN dX11_leaves_1 ?_
  refine lv_iload_n hx hb dX11_leaves_4 rfl (lv_at hl 1 rfl) ?_
  obtain ⟨q_5, hq_5, h⟩ := ob_e h
  refine r_callV (As := [.int v1]) (rest := []) hx hb hml hts hown (c_X3_hasChild l HB D y F n κ σ hN v1 G6 e6 q_5 hq_5) cal_X3_hasChild im_X3_hasChild se_X3_hasChild lm_X11_96 ⟨Nat.le_of_ble_eq_true rfl, Nat.le_of_ble_eq_true rfl⟩ hI.nil hKK (r_recv hKK hI (hE3 HB.size y) rfl (lc32 hN) (kc32 hk0)) rfl hl.1 hI.2.2 rfl (Nat.le_of_ble_eq_true rfl) dX11_leaves_5 ⟨Nat.le_of_ble_eq_true rfl, Nat.le_of_ble_eq_true rfl⟩ rfl rfl rfl (fun H locs hB hlo => ?_)
  have hI := hB.re hlo
  refine lv_if_eq (tgt := 34) hx hb dX11_leaves_8 (by decide) (fun hc => ?_) (fun hc => ?_)
  · replace h := ite_t hc h
    refine lv_iconst (v := 0) hx hb dX11_leaves_34 (by decide) ?_
    have hq := Option.some.inj h
    exact W.zret (v := 0) (ty := .boolean) hx hb hr rfl (fun t ht hW => qc_mk (congrArg (fun z => Outcome.returned (some (Value.int z.1))) hq) (by rw [ht]; exact ⟨σ, hI.nil, e8.trans (congrArg (fun z => z.2.1) hq), e9.trans (congrArg (fun z => z.2.2) hq), fr⟩)) hI.2.2 dX11_leaves_35 hlocks
  · replace h := ite_f hc h
    refine lv_iload_n hx hb dX11_leaves_11 rfl (lv_at hl 2 rfl) ?_
    refine lv_iconst (v := (-1)) hx hb dX11_leaves_12 (by decide) ?_
    refine lv_sipush (v := 3599) hx hb dX11_leaves_13 (by decide) ?_
    obtain ⟨q_16, hq_16, h⟩ := ob_e h
    refine r_callS (As := [.int v2, .int (-1), .int 3599]) (rest := []) hx hb hml hts hown (c_X11_within l HB D y F n κ σ hN v2 (-1) 3599  q_16 hq_16) cal_X11_within st_X11_within lm_X11_80 ⟨Nat.le_of_ble_eq_true rfl, Nat.le_of_ble_eq_true rfl⟩ hI.nil hKK rfl hl.1 hI.2.2 rfl (Nat.le_of_ble_eq_true rfl) dX11_leaves_16 ⟨Nat.le_of_ble_eq_true rfl, Nat.le_of_ble_eq_true rfl⟩ rfl rfl rfl (fun H locs hB hlo => ?_)
    have hI := hB.re hlo
    refine lv_if_eq (tgt := 34) hx hb dX11_leaves_19 (by decide) (fun hc => ?_) (fun hc => ?_)
    · replace h := ite_t hc h
      refine lv_iconst (v := 0) hx hb dX11_leaves_34 (by decide) ?_
      have hq := Option.some.inj h
      exact W.zret (v := 0) (ty := .boolean) hx hb hr rfl (fun t ht hW => qc_mk (congrArg (fun z => Outcome.returned (some (Value.int z.1))) hq) (by rw [ht]; exact ⟨σ, hI.nil, e8.trans (congrArg (fun z => z.2.1) hq), e9.trans (congrArg (fun z => z.2.2) hq), fr⟩)) hI.2.2 dX11_leaves_35 hlocks
    · replace h := ite_f hc h
      refine lv_aload_n hx hb dX11_leaves_22 rfl (lv_at hl 0 rfl) ?_
      refine gf_X11_37 hx hb hts hown hKK hI hN dX11_leaves_23 ?_
      refine gt_X11_268 hx hb hts hown hKK hI e8 (lc32 hN) (kc32 hk0) dX11_leaves_26 ?_
      refine lv_bipush (v := 100) hx hb dX11_leaves_29 (by decide) ?_
      refine lv_icmp_lt (tgt := 36) hx hb dX11_leaves_31 (by decide) (fun hc => ?_) (fun hc => ?_)
      · replace h := ite_t hc h
        refine lv_aload_n hx hb dX11_leaves_36 rfl (lv_at hl 0 rfl) ?_
        refine gf_X11_37 hx hb hts hown hKK hI hN dX11_leaves_37 ?_
        refine lv_iload_n hx hb dX11_leaves_40 rfl (lv_at hl 1 rfl) ?_
        refine lv_iload_n hx hb dX11_leaves_41 rfl (lv_at hl 2 rfl) ?_
        refine lv_aload_n hx hb dX11_leaves_42 rfl (lv_at hl 0 rfl) ?_
        refine gt_X11_106 hx hb hts hown hKK hI e1 (lc0 hN) (kc0 hk0) dX11_leaves_43 ?_
        obtain ⟨q_46, hq_46, h⟩ := ob_e h
        refine r_callV (As := [.int v1, .int v2, .int (G1.1 0 0)]) (rest := []) hx hb hml hts hown (c_X3_tellLeaving l HB D y F n κ σ hN v1 v2 (G1.1 0 0) G7 e7 G8 e8 G9 e9 q_46 hq_46) cal_X3_tellLeaving im_X3_tellLeaving se_X3_tellLeaving lm_X11_271 ⟨Nat.le_of_ble_eq_true rfl, Nat.le_of_ble_eq_true rfl⟩ hI.nil hKK (r_recv hKK hI (hE3 HB.size y) rfl (lc32 hN) (kc32 hk0)) rfl hl.1 hI.2.2 rfl (Nat.le_of_ble_eq_true rfl) dX11_leaves_46 ⟨Nat.le_of_ble_eq_true rfl, Nat.le_of_ble_eq_true rfl⟩ rfl rfl rfl (fun H locs hB hlo => ?_)
        obtain ⟨σ, hB, en8, en9, ho⟩ := hB
        have hI := hB.re hlo
        have e8 := en8
        have e9 := en9
        have e1 := (ho 1 (ni rfl)).trans e1
        have e6 := (ho 6 (ni rfl)).trans e6
        have e7 := (ho 7 (ni rfl)).trans e7
        have fr := frc fr ho (by decide)
        refine lv_iconst (v := 1) hx hb dX11_leaves_49 (by decide) ?_
        have hq := Option.some.inj h
        exact W.zret (v := 1) (ty := .boolean) hx hb hr rfl (fun t ht hW => qc_mk (congrArg (fun z => Outcome.returned (some (Value.int z.1))) hq) (by rw [ht]; exact ⟨σ, hI.nil, e8.trans (congrArg (fun z => z.2.1) hq), e9.trans (congrArg (fun z => z.2.2) hq), fr⟩)) hI.2.2 dX11_leaves_50 hlocks
      · replace h := ite_f hc h
        refine lv_iconst (v := 0) hx hb dX11_leaves_34 (by decide) ?_
        have hq := Option.some.inj h
        exact W.zret (v := 0) (ty := .boolean) hx hb hr rfl (fun t ht hW => qc_mk (congrArg (fun z => Outcome.returned (some (Value.int z.1))) hq) (by rw [ht]; exact ⟨σ, hI.nil, e8.trans (congrArg (fun z => z.2.1) hq), e9.trans (congrArg (fun z => z.2.2) hq), fr⟩)) hI.2.2 dX11_leaves_35 hlocks
noncomputable def f_X11_left (F : Nat) (G6 : Grp) (G8 : Grp) (v1 : Int32) (v2 : Int32) : Option (Int32) :=
  ob (f_X3_hasChild F G6 v1) (fun q_5 => if q_5 = 0 then some (-1) else ob (f_X11_within F v2 0 3599) (fun q_16 => if q_16 = 0 then some (-1) else ob (f_X3_leftAsKnown F G8 v1 v2) (fun q_30 => some q_30)))
def RM_X11_left : Room := { frames := 2, cells := 0, slots := 0, locals := 43 }
abbrev B_X11_left (HB : Heap) (D : va_G) (y : Nat → ClassId) (n : Nat) (κ : Nat → Nat) (σ : St) (q : Int32) : Heap → Prop := fun H => IV HB D y n n κ σ [] H
set_option maxRecDepth 100000 in
set_option maxHeartbeats 4000000 in
theorem c_X11_left (l : Launch) (HB : Heap) (D : va_G) (y : Nat → ClassId) (F n : Nat) (κ : Nat → Nat) (σ : St) (hN : N0 ≤ n) (v1 : Int32)  (v2 : Int32)  (G6 : Grp) (e6 : σ 6 = G6) (G8 : Grp) (e8 : σ 8 = G8) (q : Int32) (h : f_X11_left F G6 G8 v1 v2 = some q) : MT l HB D y yX11_left cX11_left 3 (some .int) RM_X11_left [.ref (HB.size + 0), .int v1, .int v2] (IV HB D y n n κ σ []) (some (.int q)) (B_X11_left HB D y n κ σ q) := by
  refine Met.ofW (cc := cX11_left) (maxL := 3) (ret := (some .int)) (by decide) rfl ?_
  intro p e s m args below meth c s₁ BL hml hv
  obtain ⟨rfl, hI, hKK⟩ := hv
  have hx := BL.exec
  have hb := BL.bytes
  have hr := BL.returns
  have hts : ∀ w ∈ gtb, w.before _ s = true := fun w hw => atoms_spec BL.pre w (List.mem_cons_of_mem _ hw)
  have hml : c.maxLocals = 3 := hml
  have hown : s.vm.findClass RX11 = some m.cls := findClass_of_methodNamed BL.named
  have hlocks := BL.notSynchronized
  have hk0 := hI.1.2.2.2.2
  have hl := lv_entry ([.ref (HB.size + 0), .int v1, .int v2]) (n := 3) (Nat.le_of_ble_eq_true rfl)
  rw [lg_entry_eq]
  generalize (lg_sl ([.ref (HB.size + 0), .int v1, .int v2]) ++ List.replicate (3 - (lg_sl ([.ref (HB.size + 0), .int v1, .int v2])).length) Slot.unset).toArray = ls at hl ⊢
  have hl : lv_has ls 3 [(0, .ref (HB.size + 0)), (1, .int v1), (2, .int v2)] := hl
  generalize hargs : ([.ref (HB.size + 0), .int v1, .int v2] : List Value).toArray = args at *
  show WX RM_X11_left p l e s m args below meth c HB (some (.int q)) (B_X11_left HB D y n κ σ q) s.heap [] (F0 m 0 ls [])
  generalize s.heap = H at hI ⊢
  unfold f_X11_left at h
  obtain ⟨locs, hlocs⟩ : ∃ x : List Loc, x = [] := ⟨_, rfl⟩
  rw [← hlocs] at hI ⊢
  refine lv_aload_n hx hb dX11_left_0 rfl (lv_at hl 0 rfl) ?_
  refine gf_X11_37 hx hb hts hown hKK hI hN dX11_left_1 ?_
  refine lv_iload_n hx hb dX11_left_4 rfl (lv_at hl 1 rfl) ?_
  obtain ⟨q_5, hq_5, h⟩ := ob_e h
  refine r_callV (As := [.int v1]) (rest := []) hx hb hml hts hown (c_X3_hasChild l HB D y F n κ σ hN v1 G6 e6 q_5 hq_5) cal_X3_hasChild im_X3_hasChild se_X3_hasChild lm_X11_96 ⟨Nat.le_of_ble_eq_true rfl, Nat.le_of_ble_eq_true rfl⟩ hI.nil hKK (r_recv hKK hI (hE3 HB.size y) rfl (lc32 hN) (kc32 hk0)) rfl hl.1 hI.2.2 rfl (Nat.le_of_ble_eq_true rfl) dX11_left_5 ⟨Nat.le_of_ble_eq_true rfl, Nat.le_of_ble_eq_true rfl⟩ rfl rfl rfl (fun H locs hB hlo => ?_)
  have hI := hB.re hlo
  refine lv_if_eq (tgt := 22) hx hb dX11_left_8 (by decide) (fun hc => ?_) (fun hc => ?_)
  · replace h := ite_t hc h
    refine lv_iconst (v := (-1)) hx hb dX11_left_22 (by decide) ?_
    have hq := Option.some.inj h
    exact W.iret (v := (-1)) hx hb hr (fun t ht hW => qc_mk (congrArg (fun z => Outcome.returned (some (Value.int z))) hq) (by rw [ht]; exact hI.nil)) hI.2.2 dX11_left_23 hlocks
  · replace h := ite_f hc h
    refine lv_iload_n hx hb dX11_left_11 rfl (lv_at hl 2 rfl) ?_
    refine lv_iconst (v := 0) hx hb dX11_left_12 (by decide) ?_
    refine lv_sipush (v := 3599) hx hb dX11_left_13 (by decide) ?_
    obtain ⟨q_16, hq_16, h⟩ := ob_e h
    refine r_callS (As := [.int v2, .int 0, .int 3599]) (rest := []) hx hb hml hts hown (c_X11_within l HB D y F n κ σ hN v2 0 3599  q_16 hq_16) cal_X11_within st_X11_within lm_X11_80 ⟨Nat.le_of_ble_eq_true rfl, Nat.le_of_ble_eq_true rfl⟩ hI.nil hKK rfl hl.1 hI.2.2 rfl (Nat.le_of_ble_eq_true rfl) dX11_left_16 ⟨Nat.le_of_ble_eq_true rfl, Nat.le_of_ble_eq_true rfl⟩ rfl rfl rfl (fun H locs hB hlo => ?_)
    have hI := hB.re hlo
    refine lv_if_ne (tgt := 24) hx hb dX11_left_19 (by decide) (fun hc => ?_) (fun hc => ?_)
    · replace h := ite_f hc h
      refine lv_aload_n hx hb dX11_left_24 rfl (lv_at hl 0 rfl) ?_
      refine gf_X11_37 hx hb hts hown hKK hI hN dX11_left_25 ?_
      refine lv_iload_n hx hb dX11_left_28 rfl (lv_at hl 1 rfl) ?_
      refine lv_iload_n hx hb dX11_left_29 rfl (lv_at hl 2 rfl) ?_
      obtain ⟨q_30, hq_30, h⟩ := ob_e h
      refine r_callV (As := [.int v1, .int v2]) (rest := []) hx hb hml hts hown (c_X3_leftAsKnown l HB D y F n κ σ hN v1 v2 G8 e8 q_30 hq_30) cal_X3_leftAsKnown im_X3_leftAsKnown se_X3_leftAsKnown lm_X11_275 ⟨Nat.le_of_ble_eq_true rfl, Nat.le_of_ble_eq_true rfl⟩ hI.nil hKK (r_recv hKK hI (hE3 HB.size y) rfl (lc32 hN) (kc32 hk0)) rfl hl.1 hI.2.2 rfl (Nat.le_of_ble_eq_true rfl) dX11_left_30 ⟨Nat.le_of_ble_eq_true rfl, Nat.le_of_ble_eq_true rfl⟩ rfl rfl rfl (fun H locs hB hlo => ?_)
      have hI := hB.re hlo
      have hq := Option.some.inj h
      exact W.iret (v := q_30) hx hb hr (fun t ht hW => qc_mk (congrArg (fun z => Outcome.returned (some (Value.int z))) hq) (by rw [ht]; exact hI.nil)) hI.2.2 dX11_left_33 hlocks
    · replace h := ite_t hc h
      refine lv_iconst (v := (-1)) hx hb dX11_left_22 (by decide) ?_
      have hq := Option.some.inj h
      exact W.iret (v := (-1)) hx hb hr (fun t ht hW => qc_mk (congrArg (fun z => Outcome.returned (some (Value.int z))) hq) (by rw [ht]; exact hI.nil)) hI.2.2 dX11_left_23 hlocks
