noncomputable def f_X7_openPattern (F : Nat) (G4 : Grp) (v0 : Nat) : Option (Grp) :=
  bn (gI G4 v0 12 0) (fun G4_2 => ob (f_X7_addState F G4_2 v0 1) (fun q_12 => ck 0 7 (bn (gI (q_12.2) (v0 + 8) (0 : Int32).toNatClampNeg (q_12.1)) (fun G4_15 => ob (f_X7_openRow F G4_15 v0) (fun q_17 => ck (q_17.1 v0 7) 12 (bn (gI q_17 (v0 + 4) (q_17.1 v0 7).toNatClampNeg (q_17.1 v0 13)) (fun G4_32 => bn (gI G4_32 v0 7 ((G4_32.1 v0 7) + 1)) (fun G4_40 => some G4_40))))))))
def RM_X7_openPattern : Room := { frames := 2, cells := 0, slots := 0, locals := 41 }
abbrev W_X7_openPattern : List Nat := [4]
abbrev B_X7_openPattern (HB : Heap) (D : va_G) (y : Nat → ClassId) (n : Nat) (κ : Nat → Nat) (σ0 : St) (q : Grp) : Heap → Prop := fun H => ∃ σ : St, IV HB D y n n κ σ [] H ∧ σ 4 = q ∧ ∀ j, j ∉ W_X7_openPattern → σ j = σ0 j
set_option maxRecDepth 100000 in
set_option maxHeartbeats 4000000 in
theorem c_X7_openPattern (l : Launch) (HB : Heap) (D : va_G) (y : Nat → ClassId) (F n : Nat) (κ : Nat → Nat) (σ0 : St) (hN : N0 ≤ n) (v0 : Nat) (ha_v0 : v0 < n) (hk_v0 : κ v0 = 7) (G4 : Grp) (e4 : σ0 4 = G4) (q : Grp) (h : f_X7_openPattern F G4 v0 = some q) : MT l HB D y yX7_openPattern cX7_openPattern 1 none RM_X7_openPattern [.ref (HB.size + v0)] (IV HB D y n n κ σ0 []) none (B_X7_openPattern HB D y n κ σ0 q) := by
  refine Met.ofW (cc := cX7_openPattern) (maxL := 1) (ret := none) (by decide) rfl ?_
  intro p e s m args below meth c s₁ BL hml hv
  obtain ⟨rfl, hI, hKK⟩ := hv
  have hx := BL.exec
  have hb := BL.bytes
  have hr := BL.returns
  have hts : ∀ w ∈ gtb, w.before _ s = true := fun w hw => atoms_spec BL.pre w (List.mem_cons_of_mem _ hw)
  have hml : c.maxLocals = 1 := hml
  have hown : s.vm.findClass RX7 = some m.cls := findClass_of_methodNamed BL.named
  have hlocks := BL.notSynchronized
  have hk0 := hI.1.2.2.2.2
  have hl := lv_entry ([.ref (HB.size + v0)]) (n := 1) (Nat.le_of_ble_eq_true rfl)
  rw [lg_entry_eq]
  generalize (lg_sl ([.ref (HB.size + v0)]) ++ List.replicate (1 - (lg_sl ([.ref (HB.size + v0)])).length) Slot.unset).toArray = ls at hl ⊢
  have hl : lv_has ls 1 [(0, .ref (HB.size + v0))] := hl
  generalize hargs : ([.ref (HB.size + v0)] : List Value).toArray = args at *
  obtain ⟨σ, hI, e4, fr⟩ : ∃ σ : St, IV HB D y n n κ σ [] s.heap ∧ σ 4 = G4 ∧ ∀ j, j ∉ W_X7_openPattern → σ j = σ0 j := ⟨σ0, hI, e4, fun _ _ => rfl⟩
  show WX RM_X7_openPattern p l e s m args below meth c HB none (B_X7_openPattern HB D y n κ σ0 q) s.heap [] (F0 m 0 ls [])
  generalize s.heap = H at hI ⊢
  unfold f_X7_openPattern at h
  obtain ⟨locs, hlocs⟩ : ∃ x : List Loc, x = [] := ⟨_, rfl⟩
  rw [← hlocs] at hI ⊢
  refine lv_aload_n hx hb dX7_openPattern_0 rfl (lv_at hl 0 rfl) ?_
  refine lv_iconst (v := 0) hx hb dX7_openPattern_1 (by decide) ?_
  obtain ⟨G4_2, qq, h⟩ := bn_e h
  refine pt_X7_87 hx hb hts hown hKK hI e4 ha_v0 hk_v0 dX7_openPattern_2 (fun σ H locs hI ew ho => ?_)
  have e4 := ew.trans qq.symm
  have fr := frs fr ho (by decide)
  refine lv_aload_n hx hb dX7_openPattern_5 rfl (lv_at hl 0 rfl) ?_
  refine gf_X7_33 hx hb hts hown hKK hI ha_v0 hk_v0 dX7_openPattern_6 ?_
  refine lv_iconst (v := 0) hx hb dX7_openPattern_9 (by decide) ?_
  refine lv_aload_n hx hb dX7_openPattern_10 rfl (lv_at hl 0 rfl) ?_
  refine lv_iconst (v := 1) hx hb dX7_openPattern_11 (by decide) ?_
  obtain ⟨q_12, hq_12, h⟩ := ob_e h
  refine r_callV (As := [.int 1]) (rest := [.int 0, .ref (HB.size + (v0 + 8))]) hx hb hml hts hown (c_X7_addState l HB D y F n κ σ hN v0 ha_v0 hk_v0 1 G4_2 e4 q_12 hq_12) cal_X7_addState im_X7_addState se_X7_addState lm_X7_99 ⟨Nat.le_of_ble_eq_true rfl, Nat.le_of_ble_eq_true rfl⟩ hI.nil hKK (r_recv hKK hI (hE7 HB.size y) rfl ha_v0 hk_v0) rfl hl.1 hI.2.2 rfl (Nat.le_of_ble_eq_true rfl) dX7_openPattern_12 ⟨Nat.le_of_ble_eq_true rfl, Nat.le_of_ble_eq_true rfl⟩ rfl rfl rfl (fun H locs hB hlo => ?_)
  obtain ⟨σ, hB, en4, ho⟩ := hB
  have hI := hB.re hlo
  have e4 := en4
  have fr := frc fr ho (by decide)
  obtain ⟨hin_, h⟩ := ck_e h
  obtain ⟨G4_15, qq, h⟩ := bn_e h
  refine sa_17 hx hb hKK hI e4 (ownF hI ha_v0 hk_v0 7 rfl).2.1 (ownF hI ha_v0 hk_v0 7 rfl).2.2 hin_ dX7_openPattern_15 (fun σ H locs hI ew ho => ?_)
  have e4 := ew.trans qq.symm
  have fr := frs fr ho (by decide)
  refine lv_aload_n hx hb dX7_openPattern_16 rfl (lv_at hl 0 rfl) ?_
  obtain ⟨q_17, hq_17, h⟩ := ob_e h
  refine r_callV (As := []) (rest := []) hx hb hml hts hown (c_X7_openRow l HB D y F n κ σ hN v0 ha_v0 hk_v0 G4_15 e4 q_17 hq_17) cal_X7_openRow im_X7_openRow se_X7_openRow lm_X7_103 ⟨Nat.le_of_ble_eq_true rfl, Nat.le_of_ble_eq_true rfl⟩ hI.nil hKK (r_recv hKK hI (hE7 HB.size y) rfl ha_v0 hk_v0) rfl hl.1 hI.2.2 rfl (Nat.le_of_ble_eq_true rfl) dX7_openPattern_17 ⟨Nat.le_of_ble_eq_true rfl, Nat.le_of_ble_eq_true rfl⟩ rfl rfl rfl (fun H locs hB hlo => ?_)
  obtain ⟨σ, hB, en4, ho⟩ := hB
  have hI := hB.re hlo
  have e4 := en4
  have fr := frc fr ho (by decide)
  refine lv_aload_n hx hb dX7_openPattern_20 rfl (lv_at hl 0 rfl) ?_
  refine gf_X7_21 hx hb hts hown hKK hI ha_v0 hk_v0 dX7_openPattern_21 ?_
  refine lv_aload_n hx hb dX7_openPattern_24 rfl (lv_at hl 0 rfl) ?_
  refine gt_X7_62 hx hb hts hown hKK hI e4 ha_v0 hk_v0 dX7_openPattern_25 ?_
  refine lv_aload_n hx hb dX7_openPattern_28 rfl (lv_at hl 0 rfl) ?_
  refine gt_X7_93 hx hb hts hown hKK hI e4 ha_v0 hk_v0 dX7_openPattern_29 ?_
  obtain ⟨hin_, h⟩ := ck_e h
  obtain ⟨G4_32, qq, h⟩ := bn_e h
  refine sa_16 hx hb hKK hI e4 (ownF hI ha_v0 hk_v0 3 rfl).2.1 (ownF hI ha_v0 hk_v0 3 rfl).2.2 hin_ dX7_openPattern_32 (fun σ H locs hI ew ho => ?_)
  have e4 := ew.trans qq.symm
  have fr := frs fr ho (by decide)
  refine lv_aload_n hx hb dX7_openPattern_33 rfl (lv_at hl 0 rfl) ?_
  refine lv_dup hx hb dX7_openPattern_34 rfl ?_
  refine gt_X7_62 hx hb hts hown hKK hI e4 ha_v0 hk_v0 dX7_openPattern_35 ?_
  refine lv_iconst (v := 1) hx hb dX7_openPattern_38 (by decide) ?_
  refine lv_iadd hx hb dX7_openPattern_39 ?_
  obtain ⟨G4_40, qq, h⟩ := bn_e h
  refine pt_X7_62 hx hb hts hown hKK hI e4 ha_v0 hk_v0 dX7_openPattern_40 (fun σ H locs hI ew ho => ?_)
  have e4 := ew.trans qq.symm
  have fr := frs fr ho (by decide)
  have hq := Option.some.inj h
  exact W.vret hx hb hr (fun t ht hW => qc_mk (rfl) (by rw [ht]; exact ⟨σ, hI.nil, e4.trans (congrArg (fun z => z) hq), fr⟩)) hI.2.2 dX7_openPattern_43 hlocks
noncomputable def f_X7_addItem (F : Nat) (G4 : Grp) (v0 : Nat) (v1 : Int32) (v2 : Int32) : Option (Grp) :=
  ck (G4.1 v0 13) 408 (bn (gI G4 (v0 + 2) (G4.1 v0 13).toNatClampNeg v1) (fun G4_9 => bn (gI G4_9 v0 13 v2) (fun G4_12 => bn (gI G4_12 v0 14 v1) (fun G4_17 => bn (gI G4_17 v0 15 0) (fun G4_22 => some G4_22)))))
def RM_X7_addItem : Room := { frames := 0, cells := 0, slots := 0, locals := 0 }
abbrev W_X7_addItem : List Nat := [4]
abbrev B_X7_addItem (HB : Heap) (D : va_G) (y : Nat → ClassId) (n : Nat) (κ : Nat → Nat) (σ0 : St) (q : Grp) : Heap → Prop := fun H => ∃ σ : St, IV HB D y n n κ σ [] H ∧ σ 4 = q ∧ ∀ j, j ∉ W_X7_addItem → σ j = σ0 j
set_option maxRecDepth 100000 in
set_option maxHeartbeats 4000000 in
theorem c_X7_addItem (l : Launch) (HB : Heap) (D : va_G) (y : Nat → ClassId) (F n : Nat) (κ : Nat → Nat) (σ0 : St) (hN : N0 ≤ n) (v0 : Nat) (ha_v0 : v0 < n) (hk_v0 : κ v0 = 7) (v1 : Int32)  (v2 : Int32)  (G4 : Grp) (e4 : σ0 4 = G4) (q : Grp) (h : f_X7_addItem F G4 v0 v1 v2 = some q) : MT l HB D y yX7_addItem cX7_addItem 3 none RM_X7_addItem [.ref (HB.size + v0), .int v1, .int v2] (IV HB D y n n κ σ0 []) none (B_X7_addItem HB D y n κ σ0 q) := by
  refine Met.ofW (cc := cX7_addItem) (maxL := 3) (ret := none) (by decide) rfl ?_
  intro p e s m args below meth c s₁ BL hml hv
  obtain ⟨rfl, hI, hKK⟩ := hv
  have hx := BL.exec
  have hb := BL.bytes
  have hr := BL.returns
  have hts : ∀ w ∈ gtb, w.before _ s = true := fun w hw => atoms_spec BL.pre w (List.mem_cons_of_mem _ hw)
  have hml : c.maxLocals = 3 := hml
  have hown : s.vm.findClass RX7 = some m.cls := findClass_of_methodNamed BL.named
  have hlocks := BL.notSynchronized
  have hk0 := hI.1.2.2.2.2
  have hl := lv_entry ([.ref (HB.size + v0), .int v1, .int v2]) (n := 3) (Nat.le_of_ble_eq_true rfl)
  rw [lg_entry_eq]
  generalize (lg_sl ([.ref (HB.size + v0), .int v1, .int v2]) ++ List.replicate (3 - (lg_sl ([.ref (HB.size + v0), .int v1, .int v2])).length) Slot.unset).toArray = ls at hl ⊢
  have hl : lv_has ls 3 [(0, .ref (HB.size + v0)), (1, .int v1), (2, .int v2)] := hl
  generalize hargs : ([.ref (HB.size + v0), .int v1, .int v2] : List Value).toArray = args at *
  obtain ⟨σ, hI, e4, fr⟩ : ∃ σ : St, IV HB D y n n κ σ [] s.heap ∧ σ 4 = G4 ∧ ∀ j, j ∉ W_X7_addItem → σ j = σ0 j := ⟨σ0, hI, e4, fun _ _ => rfl⟩
  show WX RM_X7_addItem p l e s m args below meth c HB none (B_X7_addItem HB D y n κ σ0 q) s.heap [] (F0 m 0 ls [])
  generalize s.heap = H at hI ⊢
  unfold f_X7_addItem at h
  obtain ⟨locs, hlocs⟩ : ∃ x : List Loc, x = [] := ⟨_, rfl⟩
  rw [← hlocs] at hI ⊢
  refine lv_aload_n hx hb dX7_addItem_0 rfl (lv_at hl 0 rfl) ?_
  refine gf_X7_15 hx hb hts hown hKK hI ha_v0 hk_v0 dX7_addItem_1 ?_
  refine lv_aload_n hx hb dX7_addItem_4 rfl (lv_at hl 0 rfl) ?_
  refine gt_X7_93 hx hb hts hown hKK hI e4 ha_v0 hk_v0 dX7_addItem_5 ?_
  refine lv_iload_n hx hb dX7_addItem_8 rfl (lv_at hl 1 rfl) ?_
  obtain ⟨hin_, h⟩ := ck_e h
  obtain ⟨G4_9, qq, h⟩ := bn_e h
  refine sa_15 hx hb hKK hI e4 (ownF hI ha_v0 hk_v0 1 rfl).2.1 (ownF hI ha_v0 hk_v0 1 rfl).2.2 hin_ dX7_addItem_9 (fun σ H locs hI ew ho => ?_)
  have e4 := ew.trans qq.symm
  have fr := frs fr ho (by decide)
  refine lv_aload_n hx hb dX7_addItem_10 rfl (lv_at hl 0 rfl) ?_
  refine lv_iload_n hx hb dX7_addItem_11 rfl (lv_at hl 2 rfl) ?_
  obtain ⟨G4_12, qq, h⟩ := bn_e h
  refine pt_X7_93 hx hb hts hown hKK hI e4 ha_v0 hk_v0 dX7_addItem_12 (fun σ H locs hI ew ho => ?_)
  have e4 := ew.trans qq.symm
  have fr := frs fr ho (by decide)
  refine lv_aload_n hx hb dX7_addItem_15 rfl (lv_at hl 0 rfl) ?_
  refine lv_iload_n hx hb dX7_addItem_16 rfl (lv_at hl 1 rfl) ?_
  obtain ⟨G4_17, qq, h⟩ := bn_e h
  refine pt_X7_90 hx hb hts hown hKK hI e4 ha_v0 hk_v0 dX7_addItem_17 (fun σ H locs hI ew ho => ?_)
  have e4 := ew.trans qq.symm
  have fr := frs fr ho (by decide)
  refine lv_aload_n hx hb dX7_addItem_20 rfl (lv_at hl 0 rfl) ?_
  refine lv_iconst (v := 0) hx hb dX7_addItem_21 (by decide) ?_
  obtain ⟨G4_22, qq, h⟩ := bn_e h
  refine pt_X7_122 hx hb hts hown hKK hI e4 ha_v0 hk_v0 rfl rfl dX7_addItem_22 (fun σ H locs hI ew ho => ?_)
  have e4 := ew.trans qq.symm
  have fr := frs fr ho (by decide)
  have hq := Option.some.inj h
  exact W.vret hx hb hr (fun t ht hW => qc_mk (rfl) (by rw [ht]; exact ⟨σ, hI.nil, e4.trans (congrArg (fun z => z) hq), fr⟩)) hI.2.2 dX7_addItem_25 hlocks
noncomputable def f_X7_addRow (F : Nat) (G4 : Grp) (v0 : Nat) : Option (Grp) :=
  ck (G4.1 v0 12) 7 (ck (G4.1 v0 13) 408 (bn (gI G4 (v0 + 2) (G4.1 v0 13).toNatClampNeg (G4.1 (v0 + 8) (G4.1 v0 12).toNatClampNeg)) (fun G4_17 => ck (G4_17.1 v0 12) 7 (bn ((G4_17.1 (v0 + 9) (G4_17.1 v0 12).toNatClampNeg)) (fun v1_27 => ob (f_X7_openRow F G4_17 v0) (fun q_29 => ck v1_27 408 (bn (gI q_29 (v0 + 3) v1_27.toNatClampNeg (q_29.1 v0 13)) (fun G4_41 => some G4_41))))))))
def RM_X7_addRow : Room := { frames := 2, cells := 0, slots := 0, locals := 41 }
abbrev W_X7_addRow : List Nat := [4]
abbrev B_X7_addRow (HB : Heap) (D : va_G) (y : Nat → ClassId) (n : Nat) (κ : Nat → Nat) (σ0 : St) (q : Grp) : Heap → Prop := fun H => ∃ σ : St, IV HB D y n n κ σ [] H ∧ σ 4 = q ∧ ∀ j, j ∉ W_X7_addRow → σ j = σ0 j
set_option maxRecDepth 100000 in
set_option maxHeartbeats 4000000 in
theorem c_X7_addRow (l : Launch) (HB : Heap) (D : va_G) (y : Nat → ClassId) (F n : Nat) (κ : Nat → Nat) (σ0 : St) (hN : N0 ≤ n) (v0 : Nat) (ha_v0 : v0 < n) (hk_v0 : κ v0 = 7) (G4 : Grp) (e4 : σ0 4 = G4) (q : Grp) (h : f_X7_addRow F G4 v0 = some q) : MT l HB D y yX7_addRow cX7_addRow 2 none RM_X7_addRow [.ref (HB.size + v0)] (IV HB D y n n κ σ0 []) none (B_X7_addRow HB D y n κ σ0 q) := by
  refine Met.ofW (cc := cX7_addRow) (maxL := 2) (ret := none) (by decide) rfl ?_
  intro p e s m args below meth c s₁ BL hml hv
  obtain ⟨rfl, hI, hKK⟩ := hv
  have hx := BL.exec
  have hb := BL.bytes
  have hr := BL.returns
  have hts : ∀ w ∈ gtb, w.before _ s = true := fun w hw => atoms_spec BL.pre w (List.mem_cons_of_mem _ hw)
  have hml : c.maxLocals = 2 := hml
  have hown : s.vm.findClass RX7 = some m.cls := findClass_of_methodNamed BL.named
  have hlocks := BL.notSynchronized
  have hk0 := hI.1.2.2.2.2
  have hl := lv_entry ([.ref (HB.size + v0)]) (n := 2) (Nat.le_of_ble_eq_true rfl)
  rw [lg_entry_eq]
  generalize (lg_sl ([.ref (HB.size + v0)]) ++ List.replicate (2 - (lg_sl ([.ref (HB.size + v0)])).length) Slot.unset).toArray = ls at hl ⊢
  have hl : lv_has ls 2 [(0, .ref (HB.size + v0))] := hl
  generalize hargs : ([.ref (HB.size + v0)] : List Value).toArray = args at *
  obtain ⟨σ, hI, e4, fr⟩ : ∃ σ : St, IV HB D y n n κ σ [] s.heap ∧ σ 4 = G4 ∧ ∀ j, j ∉ W_X7_addRow → σ j = σ0 j := ⟨σ0, hI, e4, fun _ _ => rfl⟩
  show WX RM_X7_addRow p l e s m args below meth c HB none (B_X7_addRow HB D y n κ σ0 q) s.heap [] (F0 m 0 ls [])
  generalize s.heap = H at hI ⊢
  unfold f_X7_addRow at h
  obtain ⟨locs, hlocs⟩ : ∃ x : List Loc, x = [] := ⟨_, rfl⟩
  rw [← hlocs] at hI ⊢
  refine lv_aload_n hx hb dX7_addRow_0 rfl (lv_at hl 0 rfl) ?_
  refine gf_X7_15 hx hb hts hown hKK hI ha_v0 hk_v0 dX7_addRow_1 ?_
  refine lv_aload_n hx hb dX7_addRow_4 rfl (lv_at hl 0 rfl) ?_
  refine gt_X7_93 hx hb hts hown hKK hI e4 ha_v0 hk_v0 dX7_addRow_5 ?_
  refine lv_aload_n hx hb dX7_addRow_8 rfl (lv_at hl 0 rfl) ?_
  refine gf_X7_33 hx hb hts hown hKK hI ha_v0 hk_v0 dX7_addRow_9 ?_
  refine lv_aload_n hx hb dX7_addRow_12 rfl (lv_at hl 0 rfl) ?_
  refine gt_X7_87 hx hb hts hown hKK hI e4 ha_v0 hk_v0 dX7_addRow_13 ?_
  obtain ⟨hin_, h⟩ := ck_e h
  refine la_17 hx hb hKK hI e4 (ownF hI ha_v0 hk_v0 7 rfl).2.1 (ownF hI ha_v0 hk_v0 7 rfl).2.2 hin_ dX7_addRow_16 ?_
  obtain ⟨hin_, h⟩ := ck_e h
  obtain ⟨G4_17, qq, h⟩ := bn_e h
  refine sa_15 hx hb hKK hI e4 (ownF hI ha_v0 hk_v0 1 rfl).2.1 (ownF hI ha_v0 hk_v0 1 rfl).2.2 hin_ dX7_addRow_17 (fun σ H locs hI ew ho => ?_)
  have e4 := ew.trans qq.symm
  have fr := frs fr ho (by decide)
  refine lv_aload_n hx hb dX7_addRow_18 rfl (lv_at hl 0 rfl) ?_
  refine gf_X7_36 hx hb hts hown hKK hI ha_v0 hk_v0 dX7_addRow_19 ?_
  refine lv_aload_n hx hb dX7_addRow_22 rfl (lv_at hl 0 rfl) ?_
  refine gt_X7_87 hx hb hts hown hKK hI e4 ha_v0 hk_v0 dX7_addRow_23 ?_
  obtain ⟨hin_, h⟩ := ck_e h
  refine la_17 hx hb hKK hI e4 (ownF hI ha_v0 hk_v0 8 rfl).2.1 (ownF hI ha_v0 hk_v0 8 rfl).2.2 hin_ dX7_addRow_26 ?_
  obtain ⟨v1_27, qq, h⟩ := bn_e h
  refine topi qq ?_
  refine lv_istore_n (lv' := [(1, .int v1_27), (0, .ref (HB.size + v0))]) hx hb dX7_addRow_27 rfl hl (by decide) rfl (fun ls hl => ?_)
  refine lv_aload_n hx hb dX7_addRow_28 rfl (lv_at hl 1 rfl) ?_
  obtain ⟨q_29, hq_29, h⟩ := ob_e h
  refine r_callV (As := []) (rest := []) hx hb hml hts hown (c_X7_openRow l HB D y F n κ σ hN v0 ha_v0 hk_v0 G4_17 e4 q_29 hq_29) cal_X7_openRow im_X7_openRow se_X7_openRow lm_X7_103 ⟨Nat.le_of_ble_eq_true rfl, Nat.le_of_ble_eq_true rfl⟩ hI.nil hKK (r_recv hKK hI (hE7 HB.size y) rfl ha_v0 hk_v0) rfl hl.1 hI.2.2 rfl (Nat.le_of_ble_eq_true rfl) dX7_addRow_29 ⟨Nat.le_of_ble_eq_true rfl, Nat.le_of_ble_eq_true rfl⟩ rfl rfl rfl (fun H locs hB hlo => ?_)
  obtain ⟨σ, hB, en4, ho⟩ := hB
  have hI := hB.re hlo
  have e4 := en4
  have fr := frc fr ho (by decide)
  refine lv_aload_n hx hb dX7_addRow_32 rfl (lv_at hl 1 rfl) ?_
  refine gf_X7_18 hx hb hts hown hKK hI ha_v0 hk_v0 dX7_addRow_33 ?_
  refine lv_iload_n hx hb dX7_addRow_36 rfl (lv_at hl 0 rfl) ?_
  refine lv_aload_n hx hb dX7_addRow_37 rfl (lv_at hl 1 rfl) ?_
  refine gt_X7_93 hx hb hts hown hKK hI e4 ha_v0 hk_v0 dX7_addRow_38 ?_
  obtain ⟨hin_, h⟩ := ck_e h
  obtain ⟨G4_41, qq, h⟩ := bn_e h
  refine sa_15 hx hb hKK hI e4 (ownF hI ha_v0 hk_v0 2 rfl).2.1 (ownF hI ha_v0 hk_v0 2 rfl).2.2 hin_ dX7_addRow_41 (fun σ H locs hI ew ho => ?_)
  have e4 := ew.trans qq.symm
  have fr := frs fr ho (by decide)
  have hq := Option.some.inj h
  exact W.vret hx hb hr (fun t ht hW => qc_mk (rfl) (by rw [ht]; exact ⟨σ, hI.nil, e4.trans (congrArg (fun z => z) hq), fr⟩)) hI.2.2 dX7_addRow_42 hlocks
noncomputable def f_X7_closeGroup (F : Nat) (G4 : Grp) (v0 : Nat) : Option (Grp) :=
  ck (G4.1 v0 12) 7 (ck (G4.1 v0 13) 408 (bn (gI G4 (v0 + 2) (G4.1 v0 13).toNatClampNeg (G4.1 (v0 + 8) (G4.1 v0 12).toNatClampNeg)) (fun G4_17 => ck (G4_17.1 v0 12) 7 (bn (gI G4_17 v0 13 (G4_17.1 (v0 + 8) (G4_17.1 v0 12).toNatClampNeg)) (fun G4_28 => ck (G4_28.1 v0 12) 7 (bn (gI G4_28 v0 14 (G4_28.1 (v0 + 7) (G4_28.1 v0 12).toNatClampNeg)) (fun G4_41 => bn (gI G4_41 v0 15 0) (fun G4_46 => bn (gI G4_46 v0 12 ((G4_46.1 v0 12) - 1)) (fun G4_56 => some G4_56)))))))))
def RM_X7_closeGroup : Room := { frames := 0, cells := 0, slots := 0, locals := 0 }
abbrev W_X7_closeGroup : List Nat := [4]
abbrev B_X7_closeGroup (HB : Heap) (D : va_G) (y : Nat → ClassId) (n : Nat) (κ : Nat → Nat) (σ0 : St) (q : Grp) : Heap → Prop := fun H => ∃ σ : St, IV HB D y n n κ σ [] H ∧ σ 4 = q ∧ ∀ j, j ∉ W_X7_closeGroup → σ j = σ0 j
set_option maxRecDepth 100000 in
set_option maxHeartbeats 4000000 in
theorem c_X7_closeGroup (l : Launch) (HB : Heap) (D : va_G) (y : Nat → ClassId) (F n : Nat) (κ : Nat → Nat) (σ0 : St) (hN : N0 ≤ n) (v0 : Nat) (ha_v0 : v0 < n) (hk_v0 : κ v0 = 7) (G4 : Grp) (e4 : σ0 4 = G4) (q : Grp) (h : f_X7_closeGroup F G4 v0 = some q) : MT l HB D y yX7_closeGroup cX7_closeGroup 1 none RM_X7_closeGroup [.ref (HB.size + v0)] (IV HB D y n n κ σ0 []) none (B_X7_closeGroup HB D y n κ σ0 q) := by
  refine Met.ofW (cc := cX7_closeGroup) (maxL := 1) (ret := none) (by decide) rfl ?_
  intro p e s m args below meth c s₁ BL hml hv
  obtain ⟨rfl, hI, hKK⟩ := hv
  have hx := BL.exec
  have hb := BL.bytes
  have hr := BL.returns
  have hts : ∀ w ∈ gtb, w.before _ s = true := fun w hw => atoms_spec BL.pre w (List.mem_cons_of_mem _ hw)
  have hml : c.maxLocals = 1 := hml
  have hown : s.vm.findClass RX7 = some m.cls := findClass_of_methodNamed BL.named
  have hlocks := BL.notSynchronized
  have hk0 := hI.1.2.2.2.2
  have hl := lv_entry ([.ref (HB.size + v0)]) (n := 1) (Nat.le_of_ble_eq_true rfl)
  rw [lg_entry_eq]
  generalize (lg_sl ([.ref (HB.size + v0)]) ++ List.replicate (1 - (lg_sl ([.ref (HB.size + v0)])).length) Slot.unset).toArray = ls at hl ⊢
  have hl : lv_has ls 1 [(0, .ref (HB.size + v0))] := hl
  generalize hargs : ([.ref (HB.size + v0)] : List Value).toArray = args at *
  obtain ⟨σ, hI, e4, fr⟩ : ∃ σ : St, IV HB D y n n κ σ [] s.heap ∧ σ 4 = G4 ∧ ∀ j, j ∉ W_X7_closeGroup → σ j = σ0 j := ⟨σ0, hI, e4, fun _ _ => rfl⟩
  show WX RM_X7_closeGroup p l e s m args below meth c HB none (B_X7_closeGroup HB D y n κ σ0 q) s.heap [] (F0 m 0 ls [])
  generalize s.heap = H at hI ⊢
  unfold f_X7_closeGroup at h
  obtain ⟨locs, hlocs⟩ : ∃ x : List Loc, x = [] := ⟨_, rfl⟩
  rw [← hlocs] at hI ⊢
  refine lv_aload_n hx hb dX7_closeGroup_0 rfl (lv_at hl 0 rfl) ?_
  refine gf_X7_15 hx hb hts hown hKK hI ha_v0 hk_v0 dX7_closeGroup_1 ?_
  refine lv_aload_n hx hb dX7_closeGroup_4 rfl (lv_at hl 0 rfl) ?_
  refine gt_X7_93 hx hb hts hown hKK hI e4 ha_v0 hk_v0 dX7_closeGroup_5 ?_
  refine lv_aload_n hx hb dX7_closeGroup_8 rfl (lv_at hl 0 rfl) ?_
  refine gf_X7_33 hx hb hts hown hKK hI ha_v0 hk_v0 dX7_closeGroup_9 ?_
  refine lv_aload_n hx hb dX7_closeGroup_12 rfl (lv_at hl 0 rfl) ?_
  refine gt_X7_87 hx hb hts hown hKK hI e4 ha_v0 hk_v0 dX7_closeGroup_13 ?_
  obtain ⟨hin_, h⟩ := ck_e h
  refine la_17 hx hb hKK hI e4 (ownF hI ha_v0 hk_v0 7 rfl).2.1 (ownF hI ha_v0 hk_v0 7 rfl).2.2 hin_ dX7_closeGroup_16 ?_
  obtain ⟨hin_, h⟩ := ck_e h
  obtain ⟨G4_17, qq, h⟩ := bn_e h
  refine sa_15 hx hb hKK hI e4 (ownF hI ha_v0 hk_v0 1 rfl).2.1 (ownF hI ha_v0 hk_v0 1 rfl).2.2 hin_ dX7_closeGroup_17 (fun σ H locs hI ew ho => ?_)
  have e4 := ew.trans qq.symm
  have fr := frs fr ho (by decide)
  refine lv_aload_n hx hb dX7_closeGroup_18 rfl (lv_at hl 0 rfl) ?_
  refine lv_aload_n hx hb dX7_closeGroup_19 rfl (lv_at hl 0 rfl) ?_
  refine gf_X7_33 hx hb hts hown hKK hI ha_v0 hk_v0 dX7_closeGroup_20 ?_
  refine lv_aload_n hx hb dX7_closeGroup_23 rfl (lv_at hl 0 rfl) ?_
  refine gt_X7_87 hx hb hts hown hKK hI e4 ha_v0 hk_v0 dX7_closeGroup_24 ?_
  obtain ⟨hin_, h⟩ := ck_e h
  refine la_17 hx hb hKK hI e4 (ownF hI ha_v0 hk_v0 7 rfl).2.1 (ownF hI ha_v0 hk_v0 7 rfl).2.2 hin_ dX7_closeGroup_27 ?_
  obtain ⟨G4_28, qq, h⟩ := bn_e h
  refine pt_X7_93 hx hb hts hown hKK hI e4 ha_v0 hk_v0 dX7_closeGroup_28 (fun σ H locs hI ew ho => ?_)
  have e4 := ew.trans qq.symm
  have fr := frs fr ho (by decide)
  refine lv_aload_n hx hb dX7_closeGroup_31 rfl (lv_at hl 0 rfl) ?_
  refine lv_aload_n hx hb dX7_closeGroup_32 rfl (lv_at hl 0 rfl) ?_
  refine gf_X7_30 hx hb hts hown hKK hI ha_v0 hk_v0 dX7_closeGroup_33 ?_
  refine lv_aload_n hx hb dX7_closeGroup_36 rfl (lv_at hl 0 rfl) ?_
  refine gt_X7_87 hx hb hts hown hKK hI e4 ha_v0 hk_v0 dX7_closeGroup_37 ?_
  obtain ⟨hin_, h⟩ := ck_e h
  refine la_17 hx hb hKK hI e4 (ownF hI ha_v0 hk_v0 6 rfl).2.1 (ownF hI ha_v0 hk_v0 6 rfl).2.2 hin_ dX7_closeGroup_40 ?_
  obtain ⟨G4_41, qq, h⟩ := bn_e h
  refine pt_X7_90 hx hb hts hown hKK hI e4 ha_v0 hk_v0 dX7_closeGroup_41 (fun σ H locs hI ew ho => ?_)
  have e4 := ew.trans qq.symm
  have fr := frs fr ho (by decide)
  refine lv_aload_n hx hb dX7_closeGroup_44 rfl (lv_at hl 0 rfl) ?_
  refine lv_iconst (v := 0) hx hb dX7_closeGroup_45 (by decide) ?_
  obtain ⟨G4_46, qq, h⟩ := bn_e h
  refine pt_X7_122 hx hb hts hown hKK hI e4 ha_v0 hk_v0 rfl rfl dX7_closeGroup_46 (fun σ H locs hI ew ho => ?_)
  have e4 := ew.trans qq.symm
  have fr := frs fr ho (by decide)
  refine lv_aload_n hx hb dX7_closeGroup_49 rfl (lv_at hl 0 rfl) ?_
  refine lv_dup hx hb dX7_closeGroup_50 rfl ?_
  refine gt_X7_87 hx hb hts hown hKK hI e4 ha_v0 hk_v0 dX7_closeGroup_51 ?_
  refine lv_iconst (v := 1) hx hb dX7_closeGroup_54 (by decide) ?_
  refine lv_isub hx hb dX7_closeGroup_55 ?_
  obtain ⟨G4_56, qq, h⟩ := bn_e h
  refine pt_X7_87 hx hb hts hown hKK hI e4 ha_v0 hk_v0 dX7_closeGroup_56 (fun σ H locs hI ew ho => ?_)
  have e4 := ew.trans qq.symm
  have fr := frs fr ho (by decide)
  have hq := Option.some.inj h
  exact W.vret hx hb hr (fun t ht hW => qc_mk (rfl) (by rw [ht]; exact ⟨σ, hI.nil, e4.trans (congrArg (fun z => z) hq), fr⟩)) hI.2.2 dX7_closeGroup_59 hlocks
noncomputable def f_X7_isAtom (F : Nat)  (v0 : Int32) : Option (Int32) :=
  ob (f_X11_isWordSign F v0) (fun q_1 => if q_1 = 0 then if v0 = 35 then some 1 else if v0 = 64 then some 1 else if v0 = 95 then some 1 else if v0 = 46 then some 1 else if v0 = 94 then some 1 else some 0 else some 1)
def RM_X7_isAtom : Room := { frames := 2, cells := 0, slots := 0, locals := 40 }
abbrev B_X7_isAtom (HB : Heap) (D : va_G) (y : Nat → ClassId) (n : Nat) (κ : Nat → Nat) (σ : St) (q : Int32) : Heap → Prop := fun H => IV HB D y n n κ σ [] H
set_option maxRecDepth 100000 in
set_option maxHeartbeats 4000000 in
theorem c_X7_isAtom (l : Launch) (HB : Heap) (D : va_G) (y : Nat → ClassId) (F n : Nat) (κ : Nat → Nat) (σ : St) (hN : N0 ≤ n) (v0 : Int32)   (q : Int32) (h : f_X7_isAtom F v0 = some q) : MT l HB D y yX7_isAtom cX7_isAtom 1 (some .boolean) RM_X7_isAtom [.int v0] (IV HB D y n n κ σ []) (some (.int q)) (B_X7_isAtom HB D y n κ σ q) := by
  refine Met.ofW (cc := cX7_isAtom) (maxL := 1) (ret := (some .boolean)) (by decide) rfl ?_
  intro p e s m args below meth c s₁ BL hml hv
  obtain ⟨rfl, hI, hKK⟩ := hv
  have hx := BL.exec
  have hb := BL.bytes
  have hr := BL.returns
  have hts : ∀ w ∈ gtb, w.before _ s = true := fun w hw => atoms_spec BL.pre w (List.mem_cons_of_mem _ hw)
  have hml : c.maxLocals = 1 := hml
  have hown : s.vm.findClass RX7 = some m.cls := findClass_of_methodNamed BL.named
  have hlocks := BL.notSynchronized
  have hk0 := hI.1.2.2.2.2
  have hl := lv_entry ([.int v0]) (n := 1) (Nat.le_of_ble_eq_true rfl)
  rw [lg_entry_eq]
  generalize (lg_sl ([.int v0]) ++ List.replicate (1 - (lg_sl ([.int v0])).length) Slot.unset).toArray = ls at hl ⊢
  have hl : lv_has ls 1 [(0, .int v0)] := hl
  generalize hargs : ([.int v0] : List Value).toArray = args at *
  show WX RM_X7_isAtom p l e s m args below meth c HB (some (.int q)) (B_X7_isAtom HB D y n κ σ q) s.heap [] (F0 m 0 ls [])
  generalize s.heap = H at hI ⊢
  unfold f_X7_isAtom at h
  obtain ⟨locs, hlocs⟩ : ∃ x : List Loc, x = [] := ⟨_, rfl⟩
  rw [← hlocs] at hI ⊢
  refine lv_iload_n hx hb dX7_isAtom_0 rfl (lv_at hl 0 rfl) ?_
  obtain ⟨q_1, hq_1, h⟩ := ob_e h
  refine r_callSN (As := [.int v0]) (rest := []) hx hb hml hts hown (c_X11_isWordSign l HB D y F n κ σ hN v0  q_1 hq_1) cal_X11_isWordSign st_X11_isWordSign (hKK.2.1 _ (List.mem_of_getElem? (i := 11) rfl)) ⟨Nat.le_of_ble_eq_true rfl, Nat.le_of_ble_eq_true rfl⟩ hI.nil hKK rfl hl.1 hI.2.2 rfl (Nat.le_of_ble_eq_true rfl) dX7_isAtom_1 ⟨Nat.le_of_ble_eq_true rfl, Nat.le_of_ble_eq_true rfl⟩ rfl rfl rfl (fun H locs hB hlo => ?_)
  have hI := hB.re hlo
  refine lv_if_ne (tgt := 37) hx hb dX7_isAtom_4 (by decide) (fun hc => ?_) (fun hc => ?_)
  · replace h := ite_f hc h
    refine lv_iconst (v := 1) hx hb dX7_isAtom_37 (by decide) ?_
    refine lv_goto (tgt := 42) hx hb dX7_isAtom_38 (by decide) ?_
    have hq := Option.some.inj h
    exact W.zret (v := 1) (ty := .boolean) hx hb hr rfl (fun t ht hW => qc_mk (congrArg (fun z => Outcome.returned (some (Value.int z))) hq) (by rw [ht]; exact hI.nil)) hI.2.2 dX7_isAtom_42 hlocks
  · replace h := ite_t hc h
    refine lv_iload_n hx hb dX7_isAtom_7 rfl (lv_at hl 0 rfl) ?_
    refine lv_bipush (v := 35) hx hb dX7_isAtom_8 (by decide) ?_
    refine lv_icmp_eq (tgt := 37) hx hb dX7_isAtom_10 (by decide) (fun hc => ?_) (fun hc => ?_)
    · replace h := ite_t hc h
      refine lv_iconst (v := 1) hx hb dX7_isAtom_37 (by decide) ?_
      refine lv_goto (tgt := 42) hx hb dX7_isAtom_38 (by decide) ?_
      have hq := Option.some.inj h
      exact W.zret (v := 1) (ty := .boolean) hx hb hr rfl (fun t ht hW => qc_mk (congrArg (fun z => Outcome.returned (some (Value.int z))) hq) (by rw [ht]; exact hI.nil)) hI.2.2 dX7_isAtom_42 hlocks
    · replace h := ite_f hc h
      refine lv_iload_n hx hb dX7_isAtom_13 rfl (lv_at hl 0 rfl) ?_
      refine lv_bipush (v := 64) hx hb dX7_isAtom_14 (by decide) ?_
      refine lv_icmp_eq (tgt := 37) hx hb dX7_isAtom_16 (by decide) (fun hc => ?_) (fun hc => ?_)
      · replace h := ite_t hc h
        refine lv_iconst (v := 1) hx hb dX7_isAtom_37 (by decide) ?_
        refine lv_goto (tgt := 42) hx hb dX7_isAtom_38 (by decide) ?_
        have hq := Option.some.inj h
        exact W.zret (v := 1) (ty := .boolean) hx hb hr rfl (fun t ht hW => qc_mk (congrArg (fun z => Outcome.returned (some (Value.int z))) hq) (by rw [ht]; exact hI.nil)) hI.2.2 dX7_isAtom_42 hlocks
      · replace h := ite_f hc h
        refine lv_iload_n hx hb dX7_isAtom_19 rfl (lv_at hl 0 rfl) ?_
        refine lv_bipush (v := 95) hx hb dX7_isAtom_20 (by decide) ?_
        refine lv_icmp_eq (tgt := 37) hx hb dX7_isAtom_22 (by decide) (fun hc => ?_) (fun hc => ?_)
        · replace h := ite_t hc h
          refine lv_iconst (v := 1) hx hb dX7_isAtom_37 (by decide) ?_
          refine lv_goto (tgt := 42) hx hb dX7_isAtom_38 (by decide) ?_
          have hq := Option.some.inj h
          exact W.zret (v := 1) (ty := .boolean) hx hb hr rfl (fun t ht hW => qc_mk (congrArg (fun z => Outcome.returned (some (Value.int z))) hq) (by rw [ht]; exact hI.nil)) hI.2.2 dX7_isAtom_42 hlocks
        · replace h := ite_f hc h
          refine lv_iload_n hx hb dX7_isAtom_25 rfl (lv_at hl 0 rfl) ?_
          refine lv_bipush (v := 46) hx hb dX7_isAtom_26 (by decide) ?_
          refine lv_icmp_eq (tgt := 37) hx hb dX7_isAtom_28 (by decide) (fun hc => ?_) (fun hc => ?_)
          · replace h := ite_t hc h
            refine lv_iconst (v := 1) hx hb dX7_isAtom_37 (by decide) ?_
            refine lv_goto (tgt := 42) hx hb dX7_isAtom_38 (by decide) ?_
            have hq := Option.some.inj h
            exact W.zret (v := 1) (ty := .boolean) hx hb hr rfl (fun t ht hW => qc_mk (congrArg (fun z => Outcome.returned (some (Value.int z))) hq) (by rw [ht]; exact hI.nil)) hI.2.2 dX7_isAtom_42 hlocks
          · replace h := ite_f hc h
            refine lv_iload_n hx hb dX7_isAtom_31 rfl (lv_at hl 0 rfl) ?_
            refine lv_bipush (v := 94) hx hb dX7_isAtom_32 (by decide) ?_
            refine lv_icmp_ne (tgt := 41) hx hb dX7_isAtom_34 (by decide) (fun hc => ?_) (fun hc => ?_)
            · replace h := ite_f hc h
              refine lv_iconst (v := 0) hx hb dX7_isAtom_41 (by decide) ?_
              have hq := Option.some.inj h
              exact W.zret (v := 0) (ty := .boolean) hx hb hr rfl (fun t ht hW => qc_mk (congrArg (fun z => Outcome.returned (some (Value.int z))) hq) (by rw [ht]; exact hI.nil)) hI.2.2 dX7_isAtom_42 hlocks
            · replace h := ite_t hc h
              refine lv_iconst (v := 1) hx hb dX7_isAtom_37 (by decide) ?_
              refine lv_goto (tgt := 42) hx hb dX7_isAtom_38 (by decide) ?_
              have hq := Option.some.inj h
              exact W.zret (v := 1) (ty := .boolean) hx hb hr rfl (fun t ht hW => qc_mk (congrArg (fun z => Outcome.returned (some (Value.int z))) hq) (by rw [ht]; exact hI.nil)) hI.2.2 dX7_isAtom_42 hlocks
noncomputable def f_X7_openGroup (F : Nat) (G4 : Grp) (v0 : Nat) : Option (Int32 × Grp) :=
  if (G4.1 v0 12) < 6 then ob (f_X7_addState F G4 v0 0) (fun q_17 => bn (q_17.1) (fun v1_20 => ck (q_17.2.1 v0 13) 408 (bn (gI (q_17.2) (v0 + 2) (q_17.2.1 v0 13).toNatClampNeg v1_20) (fun G4_30 => bn (gI G4_30 v0 12 ((G4_30.1 v0 12) + 1)) (fun G4_38 => ck (G4_38.1 v0 12) 7 (bn (gI G4_38 (v0 + 7) (G4_38.1 v0 12).toNatClampNeg v1_20) (fun G4_50 => ob (f_X7_addState F G4_50 v0 0) (fun q_61 => ck (G4_50.1 v0 12) 7 (bn (gI (q_61.2) (v0 + 8) (G4_50.1 v0 12).toNatClampNeg (q_61.1)) (fun G4_64 => ob (f_X7_openRow F G4_64 v0) (fun q_66 => ck v1_20 408 (bn (gI q_66 (v0 + 2) v1_20.toNatClampNeg (q_66.1 v0 13)) (fun G4_78 => some (1, G4_78)))))))))))))) else ob (f_X7_refuse F G4 v0 3) (fun q_11 => cb (q_11.1) (some (q_11.1, q_11.2)))
def RM_X7_openGroup : Room := { frames := 2, cells := 0, slots := 0, locals := 41 }
abbrev W_X7_openGroup : List Nat := [4]
abbrev B_X7_openGroup (HB : Heap) (D : va_G) (y : Nat → ClassId) (n : Nat) (κ : Nat → Nat) (σ0 : St) (q : Int32 × Grp) : Heap → Prop := fun H => ∃ σ : St, IV HB D y n n κ σ [] H ∧ σ 4 = q.2 ∧ ∀ j, j ∉ W_X7_openGroup → σ j = σ0 j
set_option maxRecDepth 100000 in
set_option maxHeartbeats 4000000 in
theorem c_X7_openGroup (l : Launch) (HB : Heap) (D : va_G) (y : Nat → ClassId) (F n : Nat) (κ : Nat → Nat) (σ0 : St) (hN : N0 ≤ n) (v0 : Nat) (ha_v0 : v0 < n) (hk_v0 : κ v0 = 7) (G4 : Grp) (e4 : σ0 4 = G4) (q : Int32 × Grp) (h : f_X7_openGroup F G4 v0 = some q) : MT l HB D y yX7_openGroup cX7_openGroup 2 (some .boolean) RM_X7_openGroup [.ref (HB.size + v0)] (IV HB D y n n κ σ0 []) (some (.int q.1)) (B_X7_openGroup HB D y n κ σ0 q) := by
  refine Met.ofW (cc := cX7_openGroup) (maxL := 2) (ret := (some .boolean)) (by decide) rfl ?_
  intro p e s m args below meth c s₁ BL hml hv
  obtain ⟨rfl, hI, hKK⟩ := hv
  have hx := BL.exec
  have hb := BL.bytes
  have hr := BL.returns
  have hts : ∀ w ∈ gtb, w.before _ s = true := fun w hw => atoms_spec BL.pre w (List.mem_cons_of_mem _ hw)
  have hml : c.maxLocals = 2 := hml
  have hown : s.vm.findClass RX7 = some m.cls := findClass_of_methodNamed BL.named
  have hlocks := BL.notSynchronized
  have hk0 := hI.1.2.2.2.2
  have hl := lv_entry ([.ref (HB.size + v0)]) (n := 2) (Nat.le_of_ble_eq_true rfl)
  rw [lg_entry_eq]
  generalize (lg_sl ([.ref (HB.size + v0)]) ++ List.replicate (2 - (lg_sl ([.ref (HB.size + v0)])).length) Slot.unset).toArray = ls at hl ⊢
  have hl : lv_has ls 2 [(0, .ref (HB.size + v0))] := hl
  generalize hargs : ([.ref (HB.size + v0)] : List Value).toArray = args at *
  obtain ⟨σ, hI, e4, fr⟩ : ∃ σ : St, IV HB D y n n κ σ [] s.heap ∧ σ 4 = G4 ∧ ∀ j, j ∉ W_X7_openGroup → σ j = σ0 j := ⟨σ0, hI, e4, fun _ _ => rfl⟩
  show WX RM_X7_openGroup p l e s m args below meth c HB (some (.int q.1)) (B_X7_openGroup HB D y n κ σ0 q) s.heap [] (F0 m 0 ls [])
  generalize s.heap = H at hI ⊢
  unfold f_X7_openGroup at h
  obtain ⟨locs, hlocs⟩ : ∃ x : List Loc, x = [] := ⟨_, rfl⟩
  rw [← hlocs] at hI ⊢
  refine lv_aload_n hx hb dX7_openGroup_0 rfl (lv_at hl 0 rfl) ?_
  refine gt_X7_87 hx hb hts hown hKK hI e4 ha_v0 hk_v0 dX7_openGroup_1 ?_
  refine lv_bipush (v := 6) hx hb dX7_openGroup_4 (by decide) ?_
  refine lv_icmp_lt (tgt := 15) hx hb dX7_openGroup_6 (by decide) (fun hc => ?_) (fun hc => ?_)
  · replace h := ite_t hc h
    refine lv_aload_n hx hb dX7_openGroup_15 rfl (lv_at hl 0 rfl) ?_
    refine lv_iconst (v := 0) hx hb dX7_openGroup_16 (by decide) ?_
    obtain ⟨q_17, hq_17, h⟩ := ob_e h
    refine r_callV (As := [.int 0]) (rest := []) hx hb hml hts hown (c_X7_addState l HB D y F n κ σ hN v0 ha_v0 hk_v0 0 G4 e4 q_17 hq_17) cal_X7_addState im_X7_addState se_X7_addState lm_X7_99 ⟨Nat.le_of_ble_eq_true rfl, Nat.le_of_ble_eq_true rfl⟩ hI.nil hKK (r_recv hKK hI (hE7 HB.size y) rfl ha_v0 hk_v0) rfl hl.1 hI.2.2 rfl (Nat.le_of_ble_eq_true rfl) dX7_openGroup_17 ⟨Nat.le_of_ble_eq_true rfl, Nat.le_of_ble_eq_true rfl⟩ rfl rfl rfl (fun H locs hB hlo => ?_)
    obtain ⟨σ, hB, en4, ho⟩ := hB
    have hI := hB.re hlo
    have e4 := en4
    have fr := frc fr ho (by decide)
    obtain ⟨v1_20, qq, h⟩ := bn_e h
    refine topi qq ?_
    refine lv_istore_n (lv' := [(1, .int v1_20), (0, .ref (HB.size + v0))]) hx hb dX7_openGroup_20 rfl hl (by decide) rfl (fun ls hl => ?_)
    refine lv_aload_n hx hb dX7_openGroup_21 rfl (lv_at hl 1 rfl) ?_
    refine gf_X7_15 hx hb hts hown hKK hI ha_v0 hk_v0 dX7_openGroup_22 ?_
    refine lv_aload_n hx hb dX7_openGroup_25 rfl (lv_at hl 1 rfl) ?_
    refine gt_X7_93 hx hb hts hown hKK hI e4 ha_v0 hk_v0 dX7_openGroup_26 ?_
    refine lv_iload_n hx hb dX7_openGroup_29 rfl (lv_at hl 0 rfl) ?_
    obtain ⟨hin_, h⟩ := ck_e h
    obtain ⟨G4_30, qq, h⟩ := bn_e h
    refine sa_15 hx hb hKK hI e4 (ownF hI ha_v0 hk_v0 1 rfl).2.1 (ownF hI ha_v0 hk_v0 1 rfl).2.2 hin_ dX7_openGroup_30 (fun σ H locs hI ew ho => ?_)
    have e4 := ew.trans qq.symm
    have fr := frs fr ho (by decide)
    refine lv_aload_n hx hb dX7_openGroup_31 rfl (lv_at hl 1 rfl) ?_
    refine lv_dup hx hb dX7_openGroup_32 rfl ?_
    refine gt_X7_87 hx hb hts hown hKK hI e4 ha_v0 hk_v0 dX7_openGroup_33 ?_
    refine lv_iconst (v := 1) hx hb dX7_openGroup_36 (by decide) ?_
    refine lv_iadd hx hb dX7_openGroup_37 ?_
    obtain ⟨G4_38, qq, h⟩ := bn_e h
    refine pt_X7_87 hx hb hts hown hKK hI e4 ha_v0 hk_v0 dX7_openGroup_38 (fun σ H locs hI ew ho => ?_)
    have e4 := ew.trans qq.symm
    have fr := frs fr ho (by decide)
    refine lv_aload_n hx hb dX7_openGroup_41 rfl (lv_at hl 1 rfl) ?_
    refine gf_X7_30 hx hb hts hown hKK hI ha_v0 hk_v0 dX7_openGroup_42 ?_
    refine lv_aload_n hx hb dX7_openGroup_45 rfl (lv_at hl 1 rfl) ?_
    refine gt_X7_87 hx hb hts hown hKK hI e4 ha_v0 hk_v0 dX7_openGroup_46 ?_
    refine lv_iload_n hx hb dX7_openGroup_49 rfl (lv_at hl 0 rfl) ?_
    obtain ⟨hin_, h⟩ := ck_e h
    obtain ⟨G4_50, qq, h⟩ := bn_e h
    refine sa_17 hx hb hKK hI e4 (ownF hI ha_v0 hk_v0 6 rfl).2.1 (ownF hI ha_v0 hk_v0 6 rfl).2.2 hin_ dX7_openGroup_50 (fun σ H locs hI ew ho => ?_)
    have e4 := ew.trans qq.symm
    have fr := frs fr ho (by decide)
    refine lv_aload_n hx hb dX7_openGroup_51 rfl (lv_at hl 1 rfl) ?_
    refine gf_X7_33 hx hb hts hown hKK hI ha_v0 hk_v0 dX7_openGroup_52 ?_
    refine lv_aload_n hx hb dX7_openGroup_55 rfl (lv_at hl 1 rfl) ?_
    refine gt_X7_87 hx hb hts hown hKK hI e4 ha_v0 hk_v0 dX7_openGroup_56 ?_
    refine lv_aload_n hx hb dX7_openGroup_59 rfl (lv_at hl 1 rfl) ?_
    refine lv_iconst (v := 0) hx hb dX7_openGroup_60 (by decide) ?_
    obtain ⟨q_61, hq_61, h⟩ := ob_e h
    refine r_callV (As := [.int 0]) (rest := [.int (G4_50.1 v0 12), .ref (HB.size + (v0 + 8))]) hx hb hml hts hown (c_X7_addState l HB D y F n κ σ hN v0 ha_v0 hk_v0 0 G4_50 e4 q_61 hq_61) cal_X7_addState im_X7_addState se_X7_addState lm_X7_99 ⟨Nat.le_of_ble_eq_true rfl, Nat.le_of_ble_eq_true rfl⟩ hI.nil hKK (r_recv hKK hI (hE7 HB.size y) rfl ha_v0 hk_v0) rfl hl.1 hI.2.2 rfl (Nat.le_of_ble_eq_true rfl) dX7_openGroup_61 ⟨Nat.le_of_ble_eq_true rfl, Nat.le_of_ble_eq_true rfl⟩ rfl rfl rfl (fun H locs hB hlo => ?_)
    obtain ⟨σ, hB, en4, ho⟩ := hB
    have hI := hB.re hlo
    have e4 := en4
    have fr := frc fr ho (by decide)
    obtain ⟨hin_, h⟩ := ck_e h
    obtain ⟨G4_64, qq, h⟩ := bn_e h
    refine sa_17 hx hb hKK hI e4 (ownF hI ha_v0 hk_v0 7 rfl).2.1 (ownF hI ha_v0 hk_v0 7 rfl).2.2 hin_ dX7_openGroup_64 (fun σ H locs hI ew ho => ?_)
    have e4 := ew.trans qq.symm
    have fr := frs fr ho (by decide)
    refine lv_aload_n hx hb dX7_openGroup_65 rfl (lv_at hl 1 rfl) ?_
    obtain ⟨q_66, hq_66, h⟩ := ob_e h
    refine r_callV (As := []) (rest := []) hx hb hml hts hown (c_X7_openRow l HB D y F n κ σ hN v0 ha_v0 hk_v0 G4_64 e4 q_66 hq_66) cal_X7_openRow im_X7_openRow se_X7_openRow lm_X7_103 ⟨Nat.le_of_ble_eq_true rfl, Nat.le_of_ble_eq_true rfl⟩ hI.nil hKK (r_recv hKK hI (hE7 HB.size y) rfl ha_v0 hk_v0) rfl hl.1 hI.2.2 rfl (Nat.le_of_ble_eq_true rfl) dX7_openGroup_66 ⟨Nat.le_of_ble_eq_true rfl, Nat.le_of_ble_eq_true rfl⟩ rfl rfl rfl (fun H locs hB hlo => ?_)
    obtain ⟨σ, hB, en4, ho⟩ := hB
    have hI := hB.re hlo
    have e4 := en4
    have fr := frc fr ho (by decide)
    refine lv_aload_n hx hb dX7_openGroup_69 rfl (lv_at hl 1 rfl) ?_
    refine gf_X7_15 hx hb hts hown hKK hI ha_v0 hk_v0 dX7_openGroup_70 ?_
    refine lv_iload_n hx hb dX7_openGroup_73 rfl (lv_at hl 0 rfl) ?_
    refine lv_aload_n hx hb dX7_openGroup_74 rfl (lv_at hl 1 rfl) ?_
    refine gt_X7_93 hx hb hts hown hKK hI e4 ha_v0 hk_v0 dX7_openGroup_75 ?_
    obtain ⟨hin_, h⟩ := ck_e h
    obtain ⟨G4_78, qq, h⟩ := bn_e h
    refine sa_15 hx hb hKK hI e4 (ownF hI ha_v0 hk_v0 1 rfl).2.1 (ownF hI ha_v0 hk_v0 1 rfl).2.2 hin_ dX7_openGroup_78 (fun σ H locs hI ew ho => ?_)
    have e4 := ew.trans qq.symm
    have fr := frs fr ho (by decide)
    refine lv_iconst (v := 1) hx hb dX7_openGroup_79 (by decide) ?_
    have hq := Option.some.inj h
    exact W.zret (v := 1) (ty := .boolean) hx hb hr rfl (fun t ht hW => qc_mk (congrArg (fun z => Outcome.returned (some (Value.int z.1))) hq) (by rw [ht]; exact ⟨σ, hI.nil, e4.trans (congrArg (fun z => z.2) hq), fr⟩)) hI.2.2 dX7_openGroup_80 hlocks
  · replace h := ite_f hc h
    refine lv_aload_n hx hb dX7_openGroup_9 rfl (lv_at hl 0 rfl) ?_
    refine lv_iconst (v := 3) hx hb dX7_openGroup_10 (by decide) ?_
    obtain ⟨q_11, hq_11, h⟩ := ob_e h
    refine r_callV (As := [.int 3]) (rest := []) hx hb hml hts hown (c_X7_refuse l HB D y F n κ σ hN v0 ha_v0 hk_v0 3 G4 e4 q_11 hq_11) cal_X7_refuse im_X7_refuse se_X7_refuse lm_X7_76 ⟨Nat.le_of_ble_eq_true rfl, Nat.le_of_ble_eq_true rfl⟩ hI.nil hKK (r_recv hKK hI (hE7 HB.size y) rfl ha_v0 hk_v0) rfl hl.1 hI.2.2 rfl (Nat.le_of_ble_eq_true rfl) dX7_openGroup_11 ⟨Nat.le_of_ble_eq_true rfl, Nat.le_of_ble_eq_true rfl⟩ rfl rfl rfl (fun H locs hB hlo => ?_)
    obtain ⟨σ, hB, en4, ho⟩ := hB
    have hI := hB.re hlo
    have e4 := en4
    have fr := frc fr ho (by decide)
    obtain ⟨hz, h⟩ := cb_e h
    have hq := Option.some.inj h
    exact W.zret (v := q_11.1) (ty := .boolean) hx hb hr hz (fun t ht hW => qc_mk (congrArg (fun z => Outcome.returned (some (Value.int z.1))) hq) (by rw [ht]; exact ⟨σ, hI.nil, e4.trans (congrArg (fun z => z.2) hq), fr⟩)) hI.2.2 dX7_openGroup_14 hlocks
noncomputable def f_X7_repeat_b38 (F : Nat)  (G4 : Grp) (v0 : Nat) : Option (Grp) :=
  bn (gI G4 v0 15 1) (fun G4_40 => some G4_40)
noncomputable def f_X7_repeat_b19 (F : Nat)  (G4 : Grp) (v0 : Nat) (v1 : Int32) : Option (Grp) :=
  if v1 = 63 then f_X7_repeat_b38 F  G4 v0 else ck (G4.1 v0 13) 408 (bn (gI G4 (v0 + 3) (G4.1 v0 13).toNatClampNeg (G4.1 v0 14)) (fun G4_37 => f_X7_repeat_b38 F  G4_37 v0))
noncomputable def f_X7_repeat (F : Nat) (G4 : Grp) (v0 : Nat) (v1 : Int32) : Option (Grp) :=
  if v1 = 43 then f_X7_repeat_b19 F  G4 v0 v1 else ck (G4.1 v0 14) 408 (bn (gI G4 (v0 + 3) (G4.1 v0 14).toNatClampNeg (G4.1 v0 13)) (fun G4_18 => f_X7_repeat_b19 F  G4_18 v0 v1))
def RM_X7_repeat : Room := { frames := 0, cells := 0, slots := 0, locals := 0 }
abbrev W_X7_repeat : List Nat := [4]
abbrev B_X7_repeat (HB : Heap) (D : va_G) (y : Nat → ClassId) (n : Nat) (κ : Nat → Nat) (σ0 : St) (q : Grp) : Heap → Prop := fun H => ∃ σ : St, IV HB D y n n κ σ [] H ∧ σ 4 = q ∧ ∀ j, j ∉ W_X7_repeat → σ j = σ0 j
set_option maxRecDepth 100000 in
set_option maxHeartbeats 4000000 in
theorem c_X7_repeat (l : Launch) (HB : Heap) (D : va_G) (y : Nat → ClassId) (F n : Nat) (κ : Nat → Nat) (σ0 : St) (hN : N0 ≤ n) (v0 : Nat) (ha_v0 : v0 < n) (hk_v0 : κ v0 = 7) (v1 : Int32)  (G4 : Grp) (e4 : σ0 4 = G4) (q : Grp) (h : f_X7_repeat F G4 v0 v1 = some q) : MT l HB D y yX7_repeat cX7_repeat 2 none RM_X7_repeat [.ref (HB.size + v0), .int v1] (IV HB D y n n κ σ0 []) none (B_X7_repeat HB D y n κ σ0 q) := by
  refine Met.ofW (cc := cX7_repeat) (maxL := 2) (ret := none) (by decide) rfl ?_
  intro p e s m args below meth c s₁ BL hml hv
  obtain ⟨rfl, hI, hKK⟩ := hv
  have hx := BL.exec
  have hb := BL.bytes
  have hr := BL.returns
  have hts : ∀ w ∈ gtb, w.before _ s = true := fun w hw => atoms_spec BL.pre w (List.mem_cons_of_mem _ hw)
  have hml : c.maxLocals = 2 := hml
  have hown : s.vm.findClass RX7 = some m.cls := findClass_of_methodNamed BL.named
  have hlocks := BL.notSynchronized
  have hk0 := hI.1.2.2.2.2
  have hl := lv_entry ([.ref (HB.size + v0), .int v1]) (n := 2) (Nat.le_of_ble_eq_true rfl)
  rw [lg_entry_eq]
  generalize (lg_sl ([.ref (HB.size + v0), .int v1]) ++ List.replicate (2 - (lg_sl ([.ref (HB.size + v0), .int v1])).length) Slot.unset).toArray = ls at hl ⊢
  have hl : lv_has ls 2 [(0, .ref (HB.size + v0)), (1, .int v1)] := hl
  generalize hargs : ([.ref (HB.size + v0), .int v1] : List Value).toArray = args at *
  have b38 : ∀ (σ : St) (H : Heap) (locs : List Loc) (ls : Array Slot) (G4 : Grp) (v0 : Nat) (ha_v0 : v0 < n) (hk_v0 : κ v0 = 7), IV HB D y n n κ σ locs H → σ 4 = G4 → (∀ j, j ∉ W_X7_repeat → σ j = σ0 j) → lv_has ls 2 [(0, .ref (HB.size + v0))] → f_X7_repeat_b38 F  G4 v0 = some q → WX RM_X7_repeat p l e s m args below meth c HB none (B_X7_repeat HB D y n κ σ0 q) H locs (F0 m 38 ls []) := by
    intro  σ H locs ls G4 v0 ha_v0 hk_v0 hI e4 fr hl h
    unfold f_X7_repeat_b38 at h
    refine lv_aload_n hx hb dX7_repeat_38 rfl (lv_at hl 0 rfl) ?_
    refine lv_iconst (v := 1) hx hb dX7_repeat_39 (by decide) ?_
    obtain ⟨G4_40, qq, h⟩ := bn_e h
    refine pt_X7_122 hx hb hts hown hKK hI e4 ha_v0 hk_v0 rfl rfl dX7_repeat_40 (fun σ H locs hI ew ho => ?_)
    have e4 := ew.trans qq.symm
    have fr := frs fr ho (by decide)
    have hq := Option.some.inj h
    exact W.vret hx hb hr (fun t ht hW => qc_mk (rfl) (by rw [ht]; exact ⟨σ, hI.nil, e4.trans (congrArg (fun z => z) hq), fr⟩)) hI.2.2 dX7_repeat_43 hlocks
  have b19 : ∀ (σ : St) (H : Heap) (locs : List Loc) (ls : Array Slot) (G4 : Grp) (v0 : Nat) (v1 : Int32) (ha_v0 : v0 < n) (hk_v0 : κ v0 = 7), IV HB D y n n κ σ locs H → σ 4 = G4 → (∀ j, j ∉ W_X7_repeat → σ j = σ0 j) → lv_has ls 2 [(0, .ref (HB.size + v0)), (1, .int v1)] → f_X7_repeat_b19 F  G4 v0 v1 = some q → WX RM_X7_repeat p l e s m args below meth c HB none (B_X7_repeat HB D y n κ σ0 q) H locs (F0 m 19 ls []) := by
    intro  σ H locs ls G4 v0 v1 ha_v0 hk_v0 hI e4 fr hl h
    unfold f_X7_repeat_b19 at h
    refine lv_iload_n hx hb dX7_repeat_19 rfl (lv_at hl 1 rfl) ?_
    refine lv_bipush (v := 63) hx hb dX7_repeat_20 (by decide) ?_
    refine lv_icmp_eq (tgt := 38) hx hb dX7_repeat_22 (by decide) (fun hc => ?_) (fun hc => ?_)
    · replace h := ite_t hc h
      exact b38  σ H locs ls G4 v0 ha_v0 hk_v0 hI e4 fr (lv_sub hl [0] rfl) h
    · replace h := ite_f hc h
      refine lv_aload_n hx hb dX7_repeat_25 rfl (lv_at hl 0 rfl) ?_
      refine gf_X7_18 hx hb hts hown hKK hI ha_v0 hk_v0 dX7_repeat_26 ?_
      refine lv_aload_n hx hb dX7_repeat_29 rfl (lv_at hl 0 rfl) ?_
      refine gt_X7_93 hx hb hts hown hKK hI e4 ha_v0 hk_v0 dX7_repeat_30 ?_
      refine lv_aload_n hx hb dX7_repeat_33 rfl (lv_at hl 0 rfl) ?_
      refine gt_X7_90 hx hb hts hown hKK hI e4 ha_v0 hk_v0 dX7_repeat_34 ?_
      obtain ⟨hin_, h⟩ := ck_e h
      obtain ⟨G4_37, qq, h⟩ := bn_e h
      refine sa_15 hx hb hKK hI e4 (ownF hI ha_v0 hk_v0 2 rfl).2.1 (ownF hI ha_v0 hk_v0 2 rfl).2.2 hin_ dX7_repeat_37 (fun σ H locs hI ew ho => ?_)
      have e4 := ew.trans qq.symm
      have fr := frs fr ho (by decide)
      exact b38  σ H locs ls G4_37 v0 ha_v0 hk_v0 hI e4 fr (lv_sub hl [0] rfl) h
  obtain ⟨σ, hI, e4, fr⟩ : ∃ σ : St, IV HB D y n n κ σ [] s.heap ∧ σ 4 = G4 ∧ ∀ j, j ∉ W_X7_repeat → σ j = σ0 j := ⟨σ0, hI, e4, fun _ _ => rfl⟩
  show WX RM_X7_repeat p l e s m args below meth c HB none (B_X7_repeat HB D y n κ σ0 q) s.heap [] (F0 m 0 ls [])
  generalize s.heap = H at hI ⊢
  unfold f_X7_repeat at h
  obtain ⟨locs, hlocs⟩ : ∃ x : List Loc, x = [] := ⟨_, rfl⟩
  rw [← hlocs] at hI ⊢
  refine lv_iload_n hx hb dX7_repeat_0 rfl (lv_at hl 1 rfl) ?_
  refine lv_bipush (v := 43) hx hb dX7_repeat_1 (by decide) ?_
  refine lv_icmp_eq (tgt := 19) hx hb dX7_repeat_3 (by decide) (fun hc => ?_) (fun hc => ?_)
  · replace h := ite_t hc h
    exact b19  σ H locs ls G4 v0 v1 ha_v0 hk_v0 hI e4 fr (lv_sub hl [0, 1] rfl) h
  · replace h := ite_f hc h
    refine lv_aload_n hx hb dX7_repeat_6 rfl (lv_at hl 0 rfl) ?_
    refine gf_X7_18 hx hb hts hown hKK hI ha_v0 hk_v0 dX7_repeat_7 ?_
    refine lv_aload_n hx hb dX7_repeat_10 rfl (lv_at hl 0 rfl) ?_
    refine gt_X7_90 hx hb hts hown hKK hI e4 ha_v0 hk_v0 dX7_repeat_11 ?_
    refine lv_aload_n hx hb dX7_repeat_14 rfl (lv_at hl 0 rfl) ?_
    refine gt_X7_93 hx hb hts hown hKK hI e4 ha_v0 hk_v0 dX7_repeat_15 ?_
    obtain ⟨hin_, h⟩ := ck_e h
    obtain ⟨G4_18, qq, h⟩ := bn_e h
    refine sa_15 hx hb hKK hI e4 (ownF hI ha_v0 hk_v0 2 rfl).2.1 (ownF hI ha_v0 hk_v0 2 rfl).2.2 hin_ dX7_repeat_18 (fun σ H locs hI ew ho => ?_)
    have e4 := ew.trans qq.symm
    have fr := frs fr ho (by decide)
    exact b19  σ H locs ls G4_18 v0 v1 ha_v0 hk_v0 hI e4 fr (lv_sub hl [0, 1] rfl) h
noncomputable def f_X7_takeSign_b123 (F : Nat)  (G4 : Grp) (v0 : Nat) : Option (Int32 × Grp) :=
  ob (f_X7_refuse F G4 v0 1) (fun q_125 => cb (q_125.1) (some (q_125.1, q_125.2)))
noncomputable def f_X7_takeSign_b109 (F : Nat)  (G4 : Grp) (v0 : Nat) (v1 : Int32) : Option (Int32 × Grp) :=
  if (G4.1 v0 15) = 0 then ob (f_X7_repeat F G4 v0 v1) (fun q_118 => some (1, q_118)) else f_X7_takeSign_b123 F  G4 v0
noncomputable def f_X7_takeSign_b91 (F : Nat)  (G4 : Grp) (v0 : Nat) (v1 : Int32) : Option (Int32 × Grp) :=
  if v1 = 42 then f_X7_takeSign_b109 F  G4 v0 v1 else if v1 = 43 then f_X7_takeSign_b109 F  G4 v0 v1 else if v1 = 63 then f_X7_takeSign_b109 F  G4 v0 v1 else f_X7_takeSign_b123 F  G4 v0
noncomputable def f_X7_takeSign (F : Nat) (G4 : Grp) (v0 : Nat) (v1 : Int32) : Option (Int32 × Grp) :=
  ob (f_X7_isAtom F v1) (fun q_1 => if q_1 = 0 then if v1 = 40 then ob (f_X7_openGroup F G4 v0) (fun q_42 => cb (q_42.1) (some (q_42.1, q_42.2))) else if (G4.1 v0 14) = (-1) then ob (f_X7_refuse F G4 v0 1) (fun q_56 => cb (q_56.1) (some (q_56.1, q_56.2))) else if v1 = 124 then ob (f_X7_addRow F G4 v0) (fun q_67 => some (1, q_67)) else if v1 = 41 then if (G4.1 v0 12) ≤ 0 then f_X7_takeSign_b91 F  G4 v0 v1 else ob (f_X7_closeGroup F G4 v0) (fun q_86 => some (1, q_86)) else f_X7_takeSign_b91 F  G4 v0 v1 else ob (f_X7_addState F G4 v0 v1) (fun q_9 => bn (q_9.1) (fun v2_12 => ob (f_X7_addState F (q_9.2) v0 0) (fun q_17 => ob (f_X7_addItem F (q_17.2) v0 v2_12 (q_17.1)) (fun q_20 => ck v2_12 408 (bn (gI q_20 (v0 + 2) v2_12.toNatClampNeg (q_20.1 v0 13)) (fun G4_32 => some (1, G4_32))))))))
def RM_X7_takeSign : Room := { frames := 3, cells := 0, slots := 0, locals := 62 }
abbrev W_X7_takeSign : List Nat := [4]
abbrev B_X7_takeSign (HB : Heap) (D : va_G) (y : Nat → ClassId) (n : Nat) (κ : Nat → Nat) (σ0 : St) (q : Int32 × Grp) : Heap → Prop := fun H => ∃ σ : St, IV HB D y n n κ σ [] H ∧ σ 4 = q.2 ∧ ∀ j, j ∉ W_X7_takeSign → σ j = σ0 j
set_option maxRecDepth 100000 in
set_option maxHeartbeats 4000000 in
theorem c_X7_takeSign (l : Launch) (HB : Heap) (D : va_G) (y : Nat → ClassId) (F n : Nat) (κ : Nat → Nat) (σ0 : St) (hN : N0 ≤ n) (v0 : Nat) (ha_v0 : v0 < n) (hk_v0 : κ v0 = 7) (v1 : Int32)  (G4 : Grp) (e4 : σ0 4 = G4) (q : Int32 × Grp) (h : f_X7_takeSign F G4 v0 v1 = some q) : MT l HB D y yX7_takeSign cX7_takeSign 3 (some .boolean) RM_X7_takeSign [.ref (HB.size + v0), .int v1] (IV HB D y n n κ σ0 []) (some (.int q.1)) (B_X7_takeSign HB D y n κ σ0 q) := by
  refine Met.ofW (cc := cX7_takeSign) (maxL := 3) (ret := (some .boolean)) (by decide) rfl ?_
  intro p e s m args below meth c s₁ BL hml hv
  obtain ⟨rfl, hI, hKK⟩ := hv
  have hx := BL.exec
  have hb := BL.bytes
  have hr := BL.returns
  have hts : ∀ w ∈ gtb, w.before _ s = true := fun w hw => atoms_spec BL.pre w (List.mem_cons_of_mem _ hw)
  have hml : c.maxLocals = 3 := hml
  have hown : s.vm.findClass RX7 = some m.cls := findClass_of_methodNamed BL.named
  have hlocks := BL.notSynchronized
  have hk0 := hI.1.2.2.2.2
  have hl := lv_entry ([.ref (HB.size + v0), .int v1]) (n := 3) (Nat.le_of_ble_eq_true rfl)
  rw [lg_entry_eq]
  generalize (lg_sl ([.ref (HB.size + v0), .int v1]) ++ List.replicate (3 - (lg_sl ([.ref (HB.size + v0), .int v1])).length) Slot.unset).toArray = ls at hl ⊢
  have hl : lv_has ls 3 [(0, .ref (HB.size + v0)), (1, .int v1)] := hl
  generalize hargs : ([.ref (HB.size + v0), .int v1] : List Value).toArray = args at *
  have b123 : ∀ (σ : St) (H : Heap) (locs : List Loc) (ls : Array Slot) (G4 : Grp) (v0 : Nat) (ha_v0 : v0 < n) (hk_v0 : κ v0 = 7), IV HB D y n n κ σ locs H → σ 4 = G4 → (∀ j, j ∉ W_X7_takeSign → σ j = σ0 j) → lv_has ls 3 [(0, .ref (HB.size + v0))] → f_X7_takeSign_b123 F  G4 v0 = some q → WX RM_X7_takeSign p l e s m args below meth c HB (some (.int q.1)) (B_X7_takeSign HB D y n κ σ0 q) H locs (F0 m 123 ls []) := by
    intro  σ H locs ls G4 v0 ha_v0 hk_v0 hI e4 fr hl h
    unfold f_X7_takeSign_b123 at h
    refine lv_aload_n hx hb dX7_takeSign_123 rfl (lv_at hl 0 rfl) ?_
    refine lv_iconst (v := 1) hx hb dX7_takeSign_124 (by decide) ?_
    obtain ⟨q_125, hq_125, h⟩ := ob_e h
    refine r_callV (As := [.int 1]) (rest := []) hx hb hml hts hown (c_X7_refuse l HB D y F n κ σ hN v0 ha_v0 hk_v0 1 G4 e4 q_125 hq_125) cal_X7_refuse im_X7_refuse se_X7_refuse lm_X7_76 ⟨Nat.le_of_ble_eq_true rfl, Nat.le_of_ble_eq_true rfl⟩ hI.nil hKK (r_recv hKK hI (hE7 HB.size y) rfl ha_v0 hk_v0) rfl hl.1 hI.2.2 rfl (Nat.le_of_ble_eq_true rfl) dX7_takeSign_125 ⟨Nat.le_of_ble_eq_true rfl, Nat.le_of_ble_eq_true rfl⟩ rfl rfl rfl (fun H locs hB hlo => ?_)
    obtain ⟨σ, hB, en4, ho⟩ := hB
    have hI := hB.re hlo
    have e4 := en4
    have fr := frc fr ho (by decide)
    obtain ⟨hz, h⟩ := cb_e h
    have hq := Option.some.inj h
    exact W.zret (v := q_125.1) (ty := .boolean) hx hb hr hz (fun t ht hW => qc_mk (congrArg (fun z => Outcome.returned (some (Value.int z.1))) hq) (by rw [ht]; exact ⟨σ, hI.nil, e4.trans (congrArg (fun z => z.2) hq), fr⟩)) hI.2.2 dX7_takeSign_128 hlocks
  have b109 : ∀ (σ : St) (H : Heap) (locs : List Loc) (ls : Array Slot) (G4 : Grp) (v0 : Nat) (v1 : Int32) (ha_v0 : v0 < n) (hk_v0 : κ v0 = 7), IV HB D y n n κ σ locs H → σ 4 = G4 → (∀ j, j ∉ W_X7_takeSign → σ j = σ0 j) → lv_has ls 3 [(0, .ref (HB.size + v0)), (1, .int v1)] → f_X7_takeSign_b109 F  G4 v0 v1 = some q → WX RM_X7_takeSign p l e s m args below meth c HB (some (.int q.1)) (B_X7_takeSign HB D y n κ σ0 q) H locs (F0 m 109 ls []) := by
    intro  σ H locs ls G4 v0 v1 ha_v0 hk_v0 hI e4 fr hl h
    unfold f_X7_takeSign_b109 at h
    refine lv_aload_n hx hb dX7_takeSign_109 rfl (lv_at hl 0 rfl) ?_
    refine gt_X7_122 hx hb hts hown hKK hI e4 ha_v0 hk_v0 dX7_takeSign_110 ?_
    refine lv_if_ne (tgt := 123) hx hb dX7_takeSign_113 (by decide) (fun hc => ?_) (fun hc => ?_)
    · replace h := ite_f hc h
      exact b123  σ H locs ls G4 v0 ha_v0 hk_v0 hI e4 fr (lv_sub hl [0] rfl) h
    · replace h := ite_t hc h
      refine lv_aload_n hx hb dX7_takeSign_116 rfl (lv_at hl 0 rfl) ?_
      refine lv_iload_n hx hb dX7_takeSign_117 rfl (lv_at hl 1 rfl) ?_
      obtain ⟨q_118, hq_118, h⟩ := ob_e h
      refine r_callV (As := [.int v1]) (rest := []) hx hb hml hts hown (c_X7_repeat l HB D y F n κ σ hN v0 ha_v0 hk_v0 v1 G4 e4 q_118 hq_118) cal_X7_repeat im_X7_repeat se_X7_repeat lm_X7_126 ⟨Nat.le_of_ble_eq_true rfl, Nat.le_of_ble_eq_true rfl⟩ hI.nil hKK (r_recv hKK hI (hE7 HB.size y) rfl ha_v0 hk_v0) rfl hl.1 hI.2.2 rfl (Nat.le_of_ble_eq_true rfl) dX7_takeSign_118 ⟨Nat.le_of_ble_eq_true rfl, Nat.le_of_ble_eq_true rfl⟩ rfl rfl rfl (fun H locs hB hlo => ?_)
      obtain ⟨σ, hB, en4, ho⟩ := hB
      have hI := hB.re hlo
      have e4 := en4
      have fr := frc fr ho (by decide)
      refine lv_iconst (v := 1) hx hb dX7_takeSign_121 (by decide) ?_
      have hq := Option.some.inj h
      exact W.zret (v := 1) (ty := .boolean) hx hb hr rfl (fun t ht hW => qc_mk (congrArg (fun z => Outcome.returned (some (Value.int z.1))) hq) (by rw [ht]; exact ⟨σ, hI.nil, e4.trans (congrArg (fun z => z.2) hq), fr⟩)) hI.2.2 dX7_takeSign_122 hlocks
  have b91 : ∀ (σ : St) (H : Heap) (locs : List Loc) (ls : Array Slot) (G4 : Grp) (v0 : Nat) (v1 : Int32) (ha_v0 : v0 < n) (hk_v0 : κ v0 = 7), IV HB D y n n κ σ locs H → σ 4 = G4 → (∀ j, j ∉ W_X7_takeSign → σ j = σ0 j) → lv_has ls 3 [(0, .ref (HB.size + v0)), (1, .int v1)] → f_X7_takeSign_b91 F  G4 v0 v1 = some q → WX RM_X7_takeSign p l e s m args below meth c HB (some (.int q.1)) (B_X7_takeSign HB D y n κ σ0 q) H locs (F0 m 91 ls []) := by
    intro  σ H locs ls G4 v0 v1 ha_v0 hk_v0 hI e4 fr hl h
    unfold f_X7_takeSign_b91 at h
    refine lv_iload_n hx hb dX7_takeSign_91 rfl (lv_at hl 1 rfl) ?_
    refine lv_bipush (v := 42) hx hb dX7_takeSign_92 (by decide) ?_
    refine lv_icmp_eq (tgt := 109) hx hb dX7_takeSign_94 (by decide) (fun hc => ?_) (fun hc => ?_)
    · replace h := ite_t hc h
      exact b109  σ H locs ls G4 v0 v1 ha_v0 hk_v0 hI e4 fr (lv_sub hl [0, 1] rfl) h
    · replace h := ite_f hc h
      refine lv_iload_n hx hb dX7_takeSign_97 rfl (lv_at hl 1 rfl) ?_
      refine lv_bipush (v := 43) hx hb dX7_takeSign_98 (by decide) ?_
      refine lv_icmp_eq (tgt := 109) hx hb dX7_takeSign_100 (by decide) (fun hc => ?_) (fun hc => ?_)
      · replace h := ite_t hc h
        exact b109  σ H locs ls G4 v0 v1 ha_v0 hk_v0 hI e4 fr (lv_sub hl [0, 1] rfl) h
      · replace h := ite_f hc h
        refine lv_iload_n hx hb dX7_takeSign_103 rfl (lv_at hl 1 rfl) ?_
        refine lv_bipush (v := 63) hx hb dX7_takeSign_104 (by decide) ?_
        refine lv_icmp_ne (tgt := 123) hx hb dX7_takeSign_106 (by decide) (fun hc => ?_) (fun hc => ?_)
        · replace h := ite_f hc h
          exact b123  σ H locs ls G4 v0 ha_v0 hk_v0 hI e4 fr (lv_sub hl [0] rfl) h
        · replace h := ite_t hc h
          exact b109  σ H locs ls G4 v0 v1 ha_v0 hk_v0 hI e4 fr (lv_sub hl [0, 1] rfl) h
  obtain ⟨σ, hI, e4, fr⟩ : ∃ σ : St, IV HB D y n n κ σ [] s.heap ∧ σ 4 = G4 ∧ ∀ j, j ∉ W_X7_takeSign → σ j = σ0 j := ⟨σ0, hI, e4, fun _ _ => rfl⟩
  show WX RM_X7_takeSign p l e s m args below meth c HB (some (.int q.1)) (B_X7_takeSign HB D y n κ σ0 q) s.heap [] (F0 m 0 ls [])
  generalize s.heap = H at hI ⊢
  unfold f_X7_takeSign at h
  obtain ⟨locs, hlocs⟩ : ∃ x : List Loc, x = [] := ⟨_, rfl⟩
  rw [← hlocs] at hI ⊢
  refine lv_iload_n hx hb dX7_takeSign_0 rfl (lv_at hl 1 rfl) ?_
  obtain ⟨q_1, hq_1, h⟩ := ob_e h
  refine r_callS (As := [.int v1]) (rest := []) hx hb hml hts hown (c_X7_isAtom l HB D y F n κ σ hN v1  q_1 hq_1) cal_X7_isAtom st_X7_isAtom lm_X7_106 ⟨Nat.le_of_ble_eq_true rfl, Nat.le_of_ble_eq_true rfl⟩ hI.nil hKK rfl hl.1 hI.2.2 rfl (Nat.le_of_ble_eq_true rfl) dX7_takeSign_1 ⟨Nat.le_of_ble_eq_true rfl, Nat.le_of_ble_eq_true rfl⟩ rfl rfl rfl (fun H locs hB hlo => ?_)
  have hI := hB.re hlo
  refine lv_if_eq (tgt := 35) hx hb dX7_takeSign_4 (by decide) (fun hc => ?_) (fun hc => ?_)
  · replace h := ite_t hc h
    refine lv_iload_n hx hb dX7_takeSign_35 rfl (lv_at hl 1 rfl) ?_
    refine lv_bipush (v := 40) hx hb dX7_takeSign_36 (by decide) ?_
    refine lv_icmp_ne (tgt := 46) hx hb dX7_takeSign_38 (by decide) (fun hc => ?_) (fun hc => ?_)
    · replace h := ite_f hc h
      refine lv_aload_n hx hb dX7_takeSign_46 rfl (lv_at hl 0 rfl) ?_
      refine gt_X7_90 hx hb hts hown hKK hI e4 ha_v0 hk_v0 dX7_takeSign_47 ?_
      refine lv_iconst (v := (-1)) hx hb dX7_takeSign_50 (by decide) ?_
      refine lv_icmp_ne (tgt := 60) hx hb dX7_takeSign_51 (by decide) (fun hc => ?_) (fun hc => ?_)
      · replace h := ite_f hc h
        refine lv_iload_n hx hb dX7_takeSign_60 rfl (lv_at hl 1 rfl) ?_
        refine lv_bipush (v := 124) hx hb dX7_takeSign_61 (by decide) ?_
        refine lv_icmp_ne (tgt := 72) hx hb dX7_takeSign_63 (by decide) (fun hc => ?_) (fun hc => ?_)
        · replace h := ite_f hc h
          refine lv_iload_n hx hb dX7_takeSign_72 rfl (lv_at hl 1 rfl) ?_
          refine lv_bipush (v := 41) hx hb dX7_takeSign_73 (by decide) ?_
          refine lv_icmp_ne (tgt := 91) hx hb dX7_takeSign_75 (by decide) (fun hc => ?_) (fun hc => ?_)
          · replace h := ite_f hc h
            exact b91  σ H locs ls G4 v0 v1 ha_v0 hk_v0 hI e4 fr (lv_sub hl [0, 1] rfl) h
          · replace h := ite_t hc h
            refine lv_aload_n hx hb dX7_takeSign_78 rfl (lv_at hl 0 rfl) ?_
            refine gt_X7_87 hx hb hts hown hKK hI e4 ha_v0 hk_v0 dX7_takeSign_79 ?_
            refine lv_if_le (tgt := 91) hx hb dX7_takeSign_82 (by decide) (fun hc => ?_) (fun hc => ?_)
            · replace h := ite_t hc h
              exact b91  σ H locs ls G4 v0 v1 ha_v0 hk_v0 hI e4 fr (lv_sub hl [0, 1] rfl) h
            · replace h := ite_f hc h
              refine lv_aload_n hx hb dX7_takeSign_85 rfl (lv_at hl 0 rfl) ?_
              obtain ⟨q_86, hq_86, h⟩ := ob_e h
              refine r_callV (As := []) (rest := []) hx hb hml hts hown (c_X7_closeGroup l HB D y F n κ σ hN v0 ha_v0 hk_v0 G4 e4 q_86 hq_86) cal_X7_closeGroup im_X7_closeGroup se_X7_closeGroup lm_X7_119 ⟨Nat.le_of_ble_eq_true rfl, Nat.le_of_ble_eq_true rfl⟩ hI.nil hKK (r_recv hKK hI (hE7 HB.size y) rfl ha_v0 hk_v0) rfl hl.1 hI.2.2 rfl (Nat.le_of_ble_eq_true rfl) dX7_takeSign_86 ⟨Nat.le_of_ble_eq_true rfl, Nat.le_of_ble_eq_true rfl⟩ rfl rfl rfl (fun H locs hB hlo => ?_)
              obtain ⟨σ, hB, en4, ho⟩ := hB
              have hI := hB.re hlo
              have e4 := en4
              have fr := frc fr ho (by decide)
              refine lv_iconst (v := 1) hx hb dX7_takeSign_89 (by decide) ?_
              have hq := Option.some.inj h
              exact W.zret (v := 1) (ty := .boolean) hx hb hr rfl (fun t ht hW => qc_mk (congrArg (fun z => Outcome.returned (some (Value.int z.1))) hq) (by rw [ht]; exact ⟨σ, hI.nil, e4.trans (congrArg (fun z => z.2) hq), fr⟩)) hI.2.2 dX7_takeSign_90 hlocks
        · replace h := ite_t hc h
          refine lv_aload_n hx hb dX7_takeSign_66 rfl (lv_at hl 0 rfl) ?_
          obtain ⟨q_67, hq_67, h⟩ := ob_e h
          refine r_callV (As := []) (rest := []) hx hb hml hts hown (c_X7_addRow l HB D y F n κ σ hN v0 ha_v0 hk_v0 G4 e4 q_67 hq_67) cal_X7_addRow im_X7_addRow se_X7_addRow lm_X7_116 ⟨Nat.le_of_ble_eq_true rfl, Nat.le_of_ble_eq_true rfl⟩ hI.nil hKK (r_recv hKK hI (hE7 HB.size y) rfl ha_v0 hk_v0) rfl hl.1 hI.2.2 rfl (Nat.le_of_ble_eq_true rfl) dX7_takeSign_67 ⟨Nat.le_of_ble_eq_true rfl, Nat.le_of_ble_eq_true rfl⟩ rfl rfl rfl (fun H locs hB hlo => ?_)
          obtain ⟨σ, hB, en4, ho⟩ := hB
          have hI := hB.re hlo
          have e4 := en4
          have fr := frc fr ho (by decide)
          refine lv_iconst (v := 1) hx hb dX7_takeSign_70 (by decide) ?_
          have hq := Option.some.inj h
          exact W.zret (v := 1) (ty := .boolean) hx hb hr rfl (fun t ht hW => qc_mk (congrArg (fun z => Outcome.returned (some (Value.int z.1))) hq) (by rw [ht]; exact ⟨σ, hI.nil, e4.trans (congrArg (fun z => z.2) hq), fr⟩)) hI.2.2 dX7_takeSign_71 hlocks
      · replace h := ite_t hc h
        refine lv_aload_n hx hb dX7_takeSign_54 rfl (lv_at hl 0 rfl) ?_
        refine lv_iconst (v := 1) hx hb dX7_takeSign_55 (by decide) ?_
        obtain ⟨q_56, hq_56, h⟩ := ob_e h
        refine r_callV (As := [.int 1]) (rest := []) hx hb hml hts hown (c_X7_refuse l HB D y F n κ σ hN v0 ha_v0 hk_v0 1 G4 e4 q_56 hq_56) cal_X7_refuse im_X7_refuse se_X7_refuse lm_X7_76 ⟨Nat.le_of_ble_eq_true rfl, Nat.le_of_ble_eq_true rfl⟩ hI.nil hKK (r_recv hKK hI (hE7 HB.size y) rfl ha_v0 hk_v0) rfl hl.1 hI.2.2 rfl (Nat.le_of_ble_eq_true rfl) dX7_takeSign_56 ⟨Nat.le_of_ble_eq_true rfl, Nat.le_of_ble_eq_true rfl⟩ rfl rfl rfl (fun H locs hB hlo => ?_)
        obtain ⟨σ, hB, en4, ho⟩ := hB
        have hI := hB.re hlo
        have e4 := en4
        have fr := frc fr ho (by decide)
        obtain ⟨hz, h⟩ := cb_e h
        have hq := Option.some.inj h
        exact W.zret (v := q_56.1) (ty := .boolean) hx hb hr hz (fun t ht hW => qc_mk (congrArg (fun z => Outcome.returned (some (Value.int z.1))) hq) (by rw [ht]; exact ⟨σ, hI.nil, e4.trans (congrArg (fun z => z.2) hq), fr⟩)) hI.2.2 dX7_takeSign_59 hlocks
    · replace h := ite_t hc h
      refine lv_aload_n hx hb dX7_takeSign_41 rfl (lv_at hl 0 rfl) ?_
      obtain ⟨q_42, hq_42, h⟩ := ob_e h
      refine r_callV (As := []) (rest := []) hx hb hml hts hown (c_X7_openGroup l HB D y F n κ σ hN v0 ha_v0 hk_v0 G4 e4 q_42 hq_42) cal_X7_openGroup im_X7_openGroup se_X7_openGroup lm_X7_113 ⟨Nat.le_of_ble_eq_true rfl, Nat.le_of_ble_eq_true rfl⟩ hI.nil hKK (r_recv hKK hI (hE7 HB.size y) rfl ha_v0 hk_v0) rfl hl.1 hI.2.2 rfl (Nat.le_of_ble_eq_true rfl) dX7_takeSign_42 ⟨Nat.le_of_ble_eq_true rfl, Nat.le_of_ble_eq_true rfl⟩ rfl rfl rfl (fun H locs hB hlo => ?_)
      obtain ⟨σ, hB, en4, ho⟩ := hB
      have hI := hB.re hlo
      have e4 := en4
      have fr := frc fr ho (by decide)
      obtain ⟨hz, h⟩ := cb_e h
      have hq := Option.some.inj h
      exact W.zret (v := q_42.1) (ty := .boolean) hx hb hr hz (fun t ht hW => qc_mk (congrArg (fun z => Outcome.returned (some (Value.int z.1))) hq) (by rw [ht]; exact ⟨σ, hI.nil, e4.trans (congrArg (fun z => z.2) hq), fr⟩)) hI.2.2 dX7_takeSign_45 hlocks
  · replace h := ite_f hc h
    refine lv_aload_n hx hb dX7_takeSign_7 rfl (lv_at hl 0 rfl) ?_
    refine lv_iload_n hx hb dX7_takeSign_8 rfl (lv_at hl 1 rfl) ?_
    obtain ⟨q_9, hq_9, h⟩ := ob_e h
    refine r_callV (As := [.int v1]) (rest := []) hx hb hml hts hown (c_X7_addState l HB D y F n κ σ hN v0 ha_v0 hk_v0 v1 G4 e4 q_9 hq_9) cal_X7_addState im_X7_addState se_X7_addState lm_X7_99 ⟨Nat.le_of_ble_eq_true rfl, Nat.le_of_ble_eq_true rfl⟩ hI.nil hKK (r_recv hKK hI (hE7 HB.size y) rfl ha_v0 hk_v0) rfl hl.1 hI.2.2 rfl (Nat.le_of_ble_eq_true rfl) dX7_takeSign_9 ⟨Nat.le_of_ble_eq_true rfl, Nat.le_of_ble_eq_true rfl⟩ rfl rfl rfl (fun H locs hB hlo => ?_)
    obtain ⟨σ, hB, en4, ho⟩ := hB
    have hI := hB.re hlo
    have e4 := en4
    have fr := frc fr ho (by decide)
    obtain ⟨v2_12, qq, h⟩ := bn_e h
    refine topi qq ?_
    refine lv_istore_n (lv' := [(2, .int v2_12), (0, .ref (HB.size + v0)), (1, .int v1)]) hx hb dX7_takeSign_12 rfl hl (by decide) rfl (fun ls hl => ?_)
    refine lv_aload_n hx hb dX7_takeSign_13 rfl (lv_at hl 1 rfl) ?_
    refine lv_iload_n hx hb dX7_takeSign_14 rfl (lv_at hl 0 rfl) ?_
    refine lv_aload_n hx hb dX7_takeSign_15 rfl (lv_at hl 1 rfl) ?_
    refine lv_iconst (v := 0) hx hb dX7_takeSign_16 (by decide) ?_
    obtain ⟨q_17, hq_17, h⟩ := ob_e h
    refine r_callV (As := [.int 0]) (rest := [.int v2_12, .ref (HB.size + v0)]) hx hb hml hts hown (c_X7_addState l HB D y F n κ σ hN v0 ha_v0 hk_v0 0 (q_9.2) e4 q_17 hq_17) cal_X7_addState im_X7_addState se_X7_addState lm_X7_99 ⟨Nat.le_of_ble_eq_true rfl, Nat.le_of_ble_eq_true rfl⟩ hI.nil hKK (r_recv hKK hI (hE7 HB.size y) rfl ha_v0 hk_v0) rfl hl.1 hI.2.2 rfl (Nat.le_of_ble_eq_true rfl) dX7_takeSign_17 ⟨Nat.le_of_ble_eq_true rfl, Nat.le_of_ble_eq_true rfl⟩ rfl rfl rfl (fun H locs hB hlo => ?_)
    obtain ⟨σ, hB, en4, ho⟩ := hB
    have hI := hB.re hlo
    have e4 := en4
    have fr := frc fr ho (by decide)
    obtain ⟨q_20, hq_20, h⟩ := ob_e h
    refine r_callV (As := [.int v2_12, .int (q_17.1)]) (rest := []) hx hb hml hts hown (c_X7_addItem l HB D y F n κ σ hN v0 ha_v0 hk_v0 v2_12 (q_17.1) (q_17.2) e4 q_20 hq_20) cal_X7_addItem im_X7_addItem se_X7_addItem lm_X7_109 ⟨Nat.le_of_ble_eq_true rfl, Nat.le_of_ble_eq_true rfl⟩ hI.nil hKK (r_recv hKK hI (hE7 HB.size y) rfl ha_v0 hk_v0) rfl hl.1 hI.2.2 rfl (Nat.le_of_ble_eq_true rfl) dX7_takeSign_20 ⟨Nat.le_of_ble_eq_true rfl, Nat.le_of_ble_eq_true rfl⟩ rfl rfl rfl (fun H locs hB hlo => ?_)
    obtain ⟨σ, hB, en4, ho⟩ := hB
    have hI := hB.re hlo
    have e4 := en4
    have fr := frc fr ho (by decide)
    refine lv_aload_n hx hb dX7_takeSign_23 rfl (lv_at hl 1 rfl) ?_
    refine gf_X7_15 hx hb hts hown hKK hI ha_v0 hk_v0 dX7_takeSign_24 ?_
    refine lv_iload_n hx hb dX7_takeSign_27 rfl (lv_at hl 0 rfl) ?_
    refine lv_aload_n hx hb dX7_takeSign_28 rfl (lv_at hl 1 rfl) ?_
    refine gt_X7_93 hx hb hts hown hKK hI e4 ha_v0 hk_v0 dX7_takeSign_29 ?_
    obtain ⟨hin_, h⟩ := ck_e h
    obtain ⟨G4_32, qq, h⟩ := bn_e h
    refine sa_15 hx hb hKK hI e4 (ownF hI ha_v0 hk_v0 1 rfl).2.1 (ownF hI ha_v0 hk_v0 1 rfl).2.2 hin_ dX7_takeSign_32 (fun σ H locs hI ew ho => ?_)
    have e4 := ew.trans qq.symm
    have fr := frs fr ho (by decide)
    refine lv_iconst (v := 1) hx hb dX7_takeSign_33 (by decide) ?_
    have hq := Option.some.inj h
    exact W.zret (v := 1) (ty := .boolean) hx hb hr rfl (fun t ht hW => qc_mk (congrArg (fun z => Outcome.returned (some (Value.int z.1))) hq) (by rw [ht]; exact ⟨σ, hI.nil, e4.trans (congrArg (fun z => z.2) hq), fr⟩)) hI.2.2 dX7_takeSign_34 hlocks
noncomputable def f_X7_parsePattern_b66 (F : Nat) (k4 : Grp → Grp → Nat → Option (Int32 × Grp)) (G3 : Grp) (G4 : Grp) (v0 : Nat) : Option (Int32 × Grp) :=
  ob (f_X7_sign F G3 G4 v0) (fun q_68 => ob (f_X7_takeSign F G4 v0 q_68) (fun q_71 => if q_71.1 = 0 then some (0, q_71.2) else bn (gI (q_71.2) v0 10 ((q_71.2.1 v0 10) + 1)) (fun G4_86 => k4 G3 G4_86 v0)))
noncomputable def f_X7_parsePattern_b107 (F : Nat)  (G3 : Grp) (G4 : Grp) (v0 : Nat) : Option (Int32 × Grp) :=
  ob (f_X7_refuse F G4 v0 1) (fun q_109 => cb (q_109.1) (some (q_109.1, q_109.2)))
noncomputable def f_X7_parsePattern_l4b (F : Nat)  (k4 : Grp → Grp → Nat → Option (Int32 × Grp)) (G3 : Grp) (G4 : Grp) (v0 : Nat) : Option (Int32 × Grp) :=
  if (G4.1 v0 9) ≤ (G4.1 v0 10) then if 0 < (G4.1 v0 12) then f_X7_parsePattern_b107 F  G3 G4 v0 else if (G4.1 v0 14) = (-1) then f_X7_parsePattern_b107 F  G3 G4 v0 else ck 0 7 (ck (G4.1 v0 13) 408 (bn (gI G4 (v0 + 2) (G4.1 v0 13).toNatClampNeg (G4.1 (v0 + 8) (0 : Int32).toNatClampNeg)) (fun G4_127 => some (0, G4_127)))) else ob (f_X7_sign F G3 G4 v0) (fun q_16 => if q_16 = 59 then if (G4.1 v0 12) = 0 then if (G4.1 v0 14) = (-1) then f_X7_parsePattern_b66 F k4 G3 G4 v0 else ck 0 7 (ck (G4.1 v0 13) 408 (bn (gI G4 (v0 + 2) (G4.1 v0 13).toNatClampNeg (G4.1 (v0 + 8) (0 : Int32).toNatClampNeg)) (fun G4_53 => bn (gI G4_53 v0 10 ((G4_53.1 v0 10) + 1)) (fun G4_61 => some (1, G4_61))))) else f_X7_parsePattern_b66 F k4 G3 G4 v0 else f_X7_parsePattern_b66 F k4 G3 G4 v0)
noncomputable def f_X7_parsePattern_l4 (F : Nat)  (fu : Nat) : Grp → Grp → Nat → Option (Int32 × Grp) := Nat.rec (motive := fun _ => Grp → Grp → Nat → Option (Int32 × Grp)) (fun _ _ _ => none) (fun _ ih => f_X7_parsePattern_l4b F  ih) fu
noncomputable def f_X7_parsePattern (F : Nat) (G3 : Grp) (G4 : Grp) (v0 : Nat) : Option (Int32 × Grp) :=
  ob (f_X7_openPattern F G4 v0) (fun q_1 => f_X7_parsePattern_l4 F  F G3 q_1 v0)
def RM_X7_parsePattern : Room := { frames := 4, cells := 0, slots := 0, locals := 84 }
abbrev W_X7_parsePattern : List Nat := [4]
abbrev B_X7_parsePattern (HB : Heap) (D : va_G) (y : Nat → ClassId) (n : Nat) (κ : Nat → Nat) (σ0 : St) (q : Int32 × Grp) : Heap → Prop := fun H => ∃ σ : St, IV HB D y n n κ σ [] H ∧ σ 4 = q.2 ∧ ∀ j, j ∉ W_X7_parsePattern → σ j = σ0 j
set_option maxRecDepth 100000 in
set_option maxHeartbeats 4000000 in
theorem c_X7_parsePattern (l : Launch) (HB : Heap) (D : va_G) (y : Nat → ClassId) (F n : Nat) (κ : Nat → Nat) (σ0 : St) (hN : N0 ≤ n) (v0 : Nat) (ha_v0 : v0 < n) (hk_v0 : κ v0 = 7) (G3 : Grp) (e3 : σ0 3 = G3) (G4 : Grp) (e4 : σ0 4 = G4) (q : Int32 × Grp) (h : f_X7_parsePattern F G3 G4 v0 = some q) : MT l HB D y yX7_parsePattern cX7_parsePattern 1 (some .boolean) RM_X7_parsePattern [.ref (HB.size + v0)] (IV HB D y n n κ σ0 []) (some (.int q.1)) (B_X7_parsePattern HB D y n κ σ0 q) := by
  refine Met.ofW (cc := cX7_parsePattern) (maxL := 1) (ret := (some .boolean)) (by decide) rfl ?_
  intro p e s m args below meth c s₁ BL hml hv
  obtain ⟨rfl, hI, hKK⟩ := hv
  have hx := BL.exec
  have hb := BL.bytes
  have hr := BL.returns
  have hts : ∀ w ∈ gtb, w.before _ s = true := fun w hw => atoms_spec BL.pre w (List.mem_cons_of_mem _ hw)
  have hml : c.maxLocals = 1 := hml
  have hown : s.vm.findClass RX7 = some m.cls := findClass_of_methodNamed BL.named
  have hlocks := BL.notSynchronized
  have hk0 := hI.1.2.2.2.2
  have hl := lv_entry ([.ref (HB.size + v0)]) (n := 1) (Nat.le_of_ble_eq_true rfl)
  rw [lg_entry_eq]
  generalize (lg_sl ([.ref (HB.size + v0)]) ++ List.replicate (1 - (lg_sl ([.ref (HB.size + v0)])).length) Slot.unset).toArray = ls at hl ⊢
  have hl : lv_has ls 1 [(0, .ref (HB.size + v0))] := hl
  generalize hargs : ([.ref (HB.size + v0)] : List Value).toArray = args at *
  have b66 : ∀ (k4 : Grp → Grp → Nat → Option (Int32 × Grp)) (hk4 : ∀ (σ : St) (H : Heap) (locs : List Loc) (ls : Array Slot) (G3 : Grp) (G4 : Grp) (v0 : Nat) (ha_v0 : v0 < n) (hk_v0 : κ v0 = 7), IV HB D y n n κ σ locs H → σ 3 = G3 → σ 4 = G4 → (∀ j, j ∉ W_X7_parsePattern → σ j = σ0 j) → lv_has ls 1 [(0, .ref (HB.size + v0))] → k4 G3 G4 v0 = some q → WX RM_X7_parsePattern p l e s m args below meth c HB (some (.int q.1)) (B_X7_parsePattern HB D y n κ σ0 q) H locs (F0 m 4 ls [])) (σ : St) (H : Heap) (locs : List Loc) (ls : Array Slot) (G3 : Grp) (G4 : Grp) (v0 : Nat) (ha_v0 : v0 < n) (hk_v0 : κ v0 = 7), IV HB D y n n κ σ locs H → σ 3 = G3 → σ 4 = G4 → (∀ j, j ∉ W_X7_parsePattern → σ j = σ0 j) → lv_has ls 1 [(0, .ref (HB.size + v0))] → f_X7_parsePattern_b66 F k4 G3 G4 v0 = some q → WX RM_X7_parsePattern p l e s m args below meth c HB (some (.int q.1)) (B_X7_parsePattern HB D y n κ σ0 q) H locs (F0 m 66 ls []) := by
    intro k4 hk4 σ H locs ls G3 G4 v0 ha_v0 hk_v0 hI e3 e4 fr hl h
    unfold f_X7_parsePattern_b66 at h
    refine lv_aload_n hx hb dX7_parsePattern_66 rfl (lv_at hl 0 rfl) ?_
    refine lv_aload_n hx hb dX7_parsePattern_67 rfl (lv_at hl 0 rfl) ?_
    obtain ⟨q_68, hq_68, h⟩ := ob_e h
    refine r_callV (As := []) (rest := [.ref (HB.size + v0)]) hx hb hml hts hown (c_X7_sign l HB D y F n κ σ hN v0 ha_v0 hk_v0 G3 e3 G4 e4 q_68 hq_68) cal_X7_sign im_X7_sign se_X7_sign lm_X7_72 ⟨Nat.le_of_ble_eq_true rfl, Nat.le_of_ble_eq_true rfl⟩ hI.nil hKK (r_recv hKK hI (hE7 HB.size y) rfl ha_v0 hk_v0) rfl hl.1 hI.2.2 rfl (Nat.le_of_ble_eq_true rfl) dX7_parsePattern_68 ⟨Nat.le_of_ble_eq_true rfl, Nat.le_of_ble_eq_true rfl⟩ rfl rfl rfl (fun H locs hB hlo => ?_)
    have hI := hB.re hlo
    obtain ⟨q_71, hq_71, h⟩ := ob_e h
    refine r_callV (As := [.int q_68]) (rest := []) hx hb hml hts hown (c_X7_takeSign l HB D y F n κ σ hN v0 ha_v0 hk_v0 q_68 G4 e4 q_71 hq_71) cal_X7_takeSign im_X7_takeSign se_X7_takeSign lm_X7_96 ⟨Nat.le_of_ble_eq_true rfl, Nat.le_of_ble_eq_true rfl⟩ hI.nil hKK (r_recv hKK hI (hE7 HB.size y) rfl ha_v0 hk_v0) rfl hl.1 hI.2.2 rfl (Nat.le_of_ble_eq_true rfl) dX7_parsePattern_71 ⟨Nat.le_of_ble_eq_true rfl, Nat.le_of_ble_eq_true rfl⟩ rfl rfl rfl (fun H locs hB hlo => ?_)
    obtain ⟨σ, hB, en4, ho⟩ := hB
    have hI := hB.re hlo
    have e4 := en4
    have e3 := (ho 3 (ni rfl)).trans e3
    have fr := frc fr ho (by decide)
    refine lv_if_ne (tgt := 79) hx hb dX7_parsePattern_74 (by decide) (fun hc => ?_) (fun hc => ?_)
    · replace h := ite_f hc h
      refine lv_aload_n hx hb dX7_parsePattern_79 rfl (lv_at hl 0 rfl) ?_
      refine lv_dup hx hb dX7_parsePattern_80 rfl ?_
      refine gt_X7_53 hx hb hts hown hKK hI e4 ha_v0 hk_v0 dX7_parsePattern_81 ?_
      refine lv_iconst (v := 1) hx hb dX7_parsePattern_84 (by decide) ?_
      refine lv_iadd hx hb dX7_parsePattern_85 ?_
      obtain ⟨G4_86, qq, h⟩ := bn_e h
      refine pt_X7_53 hx hb hts hown hKK hI e4 ha_v0 hk_v0 dX7_parsePattern_86 (fun σ H locs hI ew ho => ?_)
      have e4 := ew.trans qq.symm
      have e3 := (ho 3 (nn rfl)).trans e3
      have fr := frs fr ho (by decide)
      refine lv_goto (tgt := 4) hx hb dX7_parsePattern_89 (by decide) ?_
      exact hk4 σ H locs ls G3 G4_86 v0 ha_v0 hk_v0 hI e3 e4 fr (lv_sub hl [0] rfl) h
    · replace h := ite_t hc h
      refine lv_iconst (v := 0) hx hb dX7_parsePattern_77 (by decide) ?_
      have hq := Option.some.inj h
      exact W.zret (v := 0) (ty := .boolean) hx hb hr rfl (fun t ht hW => qc_mk (congrArg (fun z => Outcome.returned (some (Value.int z.1))) hq) (by rw [ht]; exact ⟨σ, hI.nil, e4.trans (congrArg (fun z => z.2) hq), fr⟩)) hI.2.2 dX7_parsePattern_78 hlocks
  have b107 : ∀ (σ : St) (H : Heap) (locs : List Loc) (ls : Array Slot) (G3 : Grp) (G4 : Grp) (v0 : Nat) (ha_v0 : v0 < n) (hk_v0 : κ v0 = 7), IV HB D y n n κ σ locs H → σ 3 = G3 → σ 4 = G4 → (∀ j, j ∉ W_X7_parsePattern → σ j = σ0 j) → lv_has ls 1 [(0, .ref (HB.size + v0))] → f_X7_parsePattern_b107 F  G3 G4 v0 = some q → WX RM_X7_parsePattern p l e s m args below meth c HB (some (.int q.1)) (B_X7_parsePattern HB D y n κ σ0 q) H locs (F0 m 107 ls []) := by
    intro  σ H locs ls G3 G4 v0 ha_v0 hk_v0 hI e3 e4 fr hl h
    unfold f_X7_parsePattern_b107 at h
    refine lv_aload_n hx hb dX7_parsePattern_107 rfl (lv_at hl 0 rfl) ?_
    refine lv_iconst (v := 1) hx hb dX7_parsePattern_108 (by decide) ?_
    obtain ⟨q_109, hq_109, h⟩ := ob_e h
    refine r_callV (As := [.int 1]) (rest := []) hx hb hml hts hown (c_X7_refuse l HB D y F n κ σ hN v0 ha_v0 hk_v0 1 G4 e4 q_109 hq_109) cal_X7_refuse im_X7_refuse se_X7_refuse lm_X7_76 ⟨Nat.le_of_ble_eq_true rfl, Nat.le_of_ble_eq_true rfl⟩ hI.nil hKK (r_recv hKK hI (hE7 HB.size y) rfl ha_v0 hk_v0) rfl hl.1 hI.2.2 rfl (Nat.le_of_ble_eq_true rfl) dX7_parsePattern_109 ⟨Nat.le_of_ble_eq_true rfl, Nat.le_of_ble_eq_true rfl⟩ rfl rfl rfl (fun H locs hB hlo => ?_)
    obtain ⟨σ, hB, en4, ho⟩ := hB
    have hI := hB.re hlo
    have e4 := en4
    have e3 := (ho 3 (ni rfl)).trans e3
    have fr := frc fr ho (by decide)
    obtain ⟨hz, h⟩ := cb_e h
    have hq := Option.some.inj h
    exact W.zret (v := q_109.1) (ty := .boolean) hx hb hr hz (fun t ht hW => qc_mk (congrArg (fun z => Outcome.returned (some (Value.int z.1))) hq) (by rw [ht]; exact ⟨σ, hI.nil, e4.trans (congrArg (fun z => z.2) hq), fr⟩)) hI.2.2 dX7_parsePattern_112 hlocks
  have b4 : ∀ (fu : Nat) (σ : St) (H : Heap) (locs : List Loc) (ls : Array Slot) (G3 : Grp) (G4 : Grp) (v0 : Nat) (ha_v0 : v0 < n) (hk_v0 : κ v0 = 7), IV HB D y n n κ σ locs H → σ 3 = G3 → σ 4 = G4 → (∀ j, j ∉ W_X7_parsePattern → σ j = σ0 j) → lv_has ls 1 [(0, .ref (HB.size + v0))] → f_X7_parsePattern_l4 F  fu G3 G4 v0 = some q → WX RM_X7_parsePattern p l e s m args below meth c HB (some (.int q.1)) (B_X7_parsePattern HB D y n κ σ0 q) H locs (F0 m 4 ls []) := by
    intro  fu
    induction fu with
    | zero =>
      intro σ H locs ls G3 G4 v0 ha_v0 hk_v0 hI e3 e4 fr hl h
      exact absurd h (by intro h; cases h)
    | succ fu hk4 =>
      intro σ H locs ls G3 G4 v0 ha_v0 hk_v0 hI e3 e4 fr hl h
      have h : f_X7_parsePattern_l4b F  (f_X7_parsePattern_l4 F  fu) G3 G4 v0 = some q := h
      generalize f_X7_parsePattern_l4 F  fu = k4 at h hk4
      unfold f_X7_parsePattern_l4b at h
      refine lv_aload_n hx hb dX7_parsePattern_4 rfl (lv_at hl 0 rfl) ?_
      refine gt_X7_53 hx hb hts hown hKK hI e4 ha_v0 hk_v0 dX7_parsePattern_5 ?_
      refine lv_aload_n hx hb dX7_parsePattern_8 rfl (lv_at hl 0 rfl) ?_
      refine gt_X7_49 hx hb hts hown hKK hI e4 ha_v0 hk_v0 dX7_parsePattern_9 ?_
      refine lv_icmp_ge (tgt := 92) hx hb dX7_parsePattern_12 (by decide) (fun hc => ?_) (fun hc => ?_)
      · replace h := ite_t hc h
        refine lv_aload_n hx hb dX7_parsePattern_92 rfl (lv_at hl 0 rfl) ?_
        refine gt_X7_87 hx hb hts hown hKK hI e4 ha_v0 hk_v0 dX7_parsePattern_93 ?_
        refine lv_if_gt (tgt := 107) hx hb dX7_parsePattern_96 (by decide) (fun hc => ?_) (fun hc => ?_)
        · replace h := ite_t hc h
          exact b107  σ H locs ls G3 G4 v0 ha_v0 hk_v0 hI e3 e4 fr (lv_sub hl [0] rfl) h
        · replace h := ite_f hc h
          refine lv_aload_n hx hb dX7_parsePattern_99 rfl (lv_at hl 0 rfl) ?_
          refine gt_X7_90 hx hb hts hown hKK hI e4 ha_v0 hk_v0 dX7_parsePattern_100 ?_
          refine lv_iconst (v := (-1)) hx hb dX7_parsePattern_103 (by decide) ?_
          refine lv_icmp_ne (tgt := 113) hx hb dX7_parsePattern_104 (by decide) (fun hc => ?_) (fun hc => ?_)
          · replace h := ite_f hc h
            refine lv_aload_n hx hb dX7_parsePattern_113 rfl (lv_at hl 0 rfl) ?_
            refine gf_X7_15 hx hb hts hown hKK hI ha_v0 hk_v0 dX7_parsePattern_114 ?_
            refine lv_aload_n hx hb dX7_parsePattern_117 rfl (lv_at hl 0 rfl) ?_
            refine gt_X7_93 hx hb hts hown hKK hI e4 ha_v0 hk_v0 dX7_parsePattern_118 ?_
            refine lv_aload_n hx hb dX7_parsePattern_121 rfl (lv_at hl 0 rfl) ?_
            refine gf_X7_33 hx hb hts hown hKK hI ha_v0 hk_v0 dX7_parsePattern_122 ?_
            refine lv_iconst (v := 0) hx hb dX7_parsePattern_125 (by decide) ?_
            obtain ⟨hin_, h⟩ := ck_e h
            refine la_17 hx hb hKK hI e4 (ownF hI ha_v0 hk_v0 7 rfl).2.1 (ownF hI ha_v0 hk_v0 7 rfl).2.2 hin_ dX7_parsePattern_126 ?_
            obtain ⟨hin_, h⟩ := ck_e h
            obtain ⟨G4_127, qq, h⟩ := bn_e h
            refine sa_15 hx hb hKK hI e4 (ownF hI ha_v0 hk_v0 1 rfl).2.1 (ownF hI ha_v0 hk_v0 1 rfl).2.2 hin_ dX7_parsePattern_127 (fun σ H locs hI ew ho => ?_)
            have e4 := ew.trans qq.symm
            have e3 := (ho 3 (nn rfl)).trans e3
            have fr := frs fr ho (by decide)
            refine lv_iconst (v := 0) hx hb dX7_parsePattern_128 (by decide) ?_
            have hq := Option.some.inj h
            exact W.zret (v := 0) (ty := .boolean) hx hb hr rfl (fun t ht hW => qc_mk (congrArg (fun z => Outcome.returned (some (Value.int z.1))) hq) (by rw [ht]; exact ⟨σ, hI.nil, e4.trans (congrArg (fun z => z.2) hq), fr⟩)) hI.2.2 dX7_parsePattern_129 hlocks
          · replace h := ite_t hc h
            exact b107  σ H locs ls G3 G4 v0 ha_v0 hk_v0 hI e3 e4 fr (lv_sub hl [0] rfl) h
      · replace h := ite_f hc h
        refine lv_aload_n hx hb dX7_parsePattern_15 rfl (lv_at hl 0 rfl) ?_
        obtain ⟨q_16, hq_16, h⟩ := ob_e h
        refine r_callV (As := []) (rest := []) hx hb hml hts hown (c_X7_sign l HB D y F n κ σ hN v0 ha_v0 hk_v0 G3 e3 G4 e4 q_16 hq_16) cal_X7_sign im_X7_sign se_X7_sign lm_X7_72 ⟨Nat.le_of_ble_eq_true rfl, Nat.le_of_ble_eq_true rfl⟩ hI.nil hKK (r_recv hKK hI (hE7 HB.size y) rfl ha_v0 hk_v0) rfl hl.1 hI.2.2 rfl (Nat.le_of_ble_eq_true rfl) dX7_parsePattern_16 ⟨Nat.le_of_ble_eq_true rfl, Nat.le_of_ble_eq_true rfl⟩ rfl rfl rfl (fun H locs hB hlo => ?_)
        have hI := hB.re hlo
        refine lv_bipush (v := 59) hx hb dX7_parsePattern_19 (by decide) ?_
        refine lv_icmp_ne (tgt := 66) hx hb dX7_parsePattern_21 (by decide) (fun hc => ?_) (fun hc => ?_)
        · replace h := ite_f hc h
          exact b66 k4 hk4 σ H locs ls G3 G4 v0 ha_v0 hk_v0 hI e3 e4 fr (lv_sub hl [0] rfl) h
        · replace h := ite_t hc h
          refine lv_aload_n hx hb dX7_parsePattern_24 rfl (lv_at hl 0 rfl) ?_
          refine gt_X7_87 hx hb hts hown hKK hI e4 ha_v0 hk_v0 dX7_parsePattern_25 ?_
          refine lv_if_ne (tgt := 66) hx hb dX7_parsePattern_28 (by decide) (fun hc => ?_) (fun hc => ?_)
          · replace h := ite_f hc h
            exact b66 k4 hk4 σ H locs ls G3 G4 v0 ha_v0 hk_v0 hI e3 e4 fr (lv_sub hl [0] rfl) h
          · replace h := ite_t hc h
            refine lv_aload_n hx hb dX7_parsePattern_31 rfl (lv_at hl 0 rfl) ?_
            refine gt_X7_90 hx hb hts hown hKK hI e4 ha_v0 hk_v0 dX7_parsePattern_32 ?_
            refine lv_iconst (v := (-1)) hx hb dX7_parsePattern_35 (by decide) ?_
            refine lv_icmp_eq (tgt := 66) hx hb dX7_parsePattern_36 (by decide) (fun hc => ?_) (fun hc => ?_)
            · replace h := ite_t hc h
              exact b66 k4 hk4 σ H locs ls G3 G4 v0 ha_v0 hk_v0 hI e3 e4 fr (lv_sub hl [0] rfl) h
            · replace h := ite_f hc h
              refine lv_aload_n hx hb dX7_parsePattern_39 rfl (lv_at hl 0 rfl) ?_
              refine gf_X7_15 hx hb hts hown hKK hI ha_v0 hk_v0 dX7_parsePattern_40 ?_
              refine lv_aload_n hx hb dX7_parsePattern_43 rfl (lv_at hl 0 rfl) ?_
              refine gt_X7_93 hx hb hts hown hKK hI e4 ha_v0 hk_v0 dX7_parsePattern_44 ?_
              refine lv_aload_n hx hb dX7_parsePattern_47 rfl (lv_at hl 0 rfl) ?_
              refine gf_X7_33 hx hb hts hown hKK hI ha_v0 hk_v0 dX7_parsePattern_48 ?_
              refine lv_iconst (v := 0) hx hb dX7_parsePattern_51 (by decide) ?_
              obtain ⟨hin_, h⟩ := ck_e h
              refine la_17 hx hb hKK hI e4 (ownF hI ha_v0 hk_v0 7 rfl).2.1 (ownF hI ha_v0 hk_v0 7 rfl).2.2 hin_ dX7_parsePattern_52 ?_
              obtain ⟨hin_, h⟩ := ck_e h
              obtain ⟨G4_53, qq, h⟩ := bn_e h
              refine sa_15 hx hb hKK hI e4 (ownF hI ha_v0 hk_v0 1 rfl).2.1 (ownF hI ha_v0 hk_v0 1 rfl).2.2 hin_ dX7_parsePattern_53 (fun σ H locs hI ew ho => ?_)
              have e4 := ew.trans qq.symm
              have e3 := (ho 3 (nn rfl)).trans e3
              have fr := frs fr ho (by decide)
              refine lv_aload_n hx hb dX7_parsePattern_54 rfl (lv_at hl 0 rfl) ?_
              refine lv_dup hx hb dX7_parsePattern_55 rfl ?_
              refine gt_X7_53 hx hb hts hown hKK hI e4 ha_v0 hk_v0 dX7_parsePattern_56 ?_
              refine lv_iconst (v := 1) hx hb dX7_parsePattern_59 (by decide) ?_
              refine lv_iadd hx hb dX7_parsePattern_60 ?_
              obtain ⟨G4_61, qq, h⟩ := bn_e h
              refine pt_X7_53 hx hb hts hown hKK hI e4 ha_v0 hk_v0 dX7_parsePattern_61 (fun σ H locs hI ew ho => ?_)
              have e4 := ew.trans qq.symm
              have e3 := (ho 3 (nn rfl)).trans e3
              have fr := frs fr ho (by decide)
              refine lv_iconst (v := 1) hx hb dX7_parsePattern_64 (by decide) ?_
              have hq := Option.some.inj h
              exact W.zret (v := 1) (ty := .boolean) hx hb hr rfl (fun t ht hW => qc_mk (congrArg (fun z => Outcome.returned (some (Value.int z.1))) hq) (by rw [ht]; exact ⟨σ, hI.nil, e4.trans (congrArg (fun z => z.2) hq), fr⟩)) hI.2.2 dX7_parsePattern_65 hlocks
  obtain ⟨σ, hI, e3, e4, fr⟩ : ∃ σ : St, IV HB D y n n κ σ [] s.heap ∧ σ 3 = G3 ∧ σ 4 = G4 ∧ ∀ j, j ∉ W_X7_parsePattern → σ j = σ0 j := ⟨σ0, hI, e3, e4, fun _ _ => rfl⟩
  show WX RM_X7_parsePattern p l e s m args below meth c HB (some (.int q.1)) (B_X7_parsePattern HB D y n κ σ0 q) s.heap [] (F0 m 0 ls [])
  generalize s.heap = H at hI ⊢
  unfold f_X7_parsePattern at h
  obtain ⟨locs, hlocs⟩ : ∃ x : List Loc, x = [] := ⟨_, rfl⟩
  rw [← hlocs] at hI ⊢
  refine lv_aload_n hx hb dX7_parsePattern_0 rfl (lv_at hl 0 rfl) ?_
  obtain ⟨q_1, hq_1, h⟩ := ob_e h
  refine r_callV (As := []) (rest := []) hx hb hml hts hown (c_X7_openPattern l HB D y F n κ σ hN v0 ha_v0 hk_v0 G4 e4 q_1 hq_1) cal_X7_openPattern im_X7_openPattern se_X7_openPattern lm_X7_84 ⟨Nat.le_of_ble_eq_true rfl, Nat.le_of_ble_eq_true rfl⟩ hI.nil hKK (r_recv hKK hI (hE7 HB.size y) rfl ha_v0 hk_v0) rfl hl.1 hI.2.2 rfl (Nat.le_of_ble_eq_true rfl) dX7_parsePattern_1 ⟨Nat.le_of_ble_eq_true rfl, Nat.le_of_ble_eq_true rfl⟩ rfl rfl rfl (fun H locs hB hlo => ?_)
  obtain ⟨σ, hB, en4, ho⟩ := hB
  have hI := hB.re hlo
  have e4 := en4
  have e3 := (ho 3 (ni rfl)).trans e3
  have fr := frc fr ho (by decide)
  exact b4  F σ H locs ls G3 q_1 v0 ha_v0 hk_v0 hI e3 e4 fr (lv_sub hl [0] rfl) h
noncomputable def f_X7_parse_b88 (F : Nat)  (G3 : Grp) (G4 : Grp) (v0 : Nat) : Option (Int32 × Grp) :=
  some ((G4.1 v0 11), G4)
noncomputable def f_X7_parse_l51b (F : Nat)  (k51 : Grp → Grp → Nat → Int32 → Int32 → Option (Int32 × Grp)) (G3 : Grp) (G4 : Grp) (v0 : Nat) (v3 : Int32) (v4 : Int32) : Option (Int32 × Grp) :=
  if v3 = 0 then f_X7_parse_b88 F  G3 G4 v0 else if 12 < v4 then f_X7_parse_b88 F  G3 G4 v0 else ob (f_X7_parseHead F G3 G4 v0) (fun q_63 => if q_63.1 = 0 then bn (v4 + 1) (fun v4_82 => k51 G3 (q_63.2) v0 0 v4_82) else ob (f_X7_parsePattern F G3 (q_63.2) v0) (fun q_70 => if q_70.1 = 0 then bn (v4 + 1) (fun v4_82 => k51 G3 (q_70.2) v0 0 v4_82) else bn (v4 + 1) (fun v4_82 => k51 G3 (q_70.2) v0 1 v4_82)))
noncomputable def f_X7_parse_l51 (F : Nat)  (fu : Nat) : Grp → Grp → Nat → Int32 → Int32 → Option (Int32 × Grp) := Nat.rec (motive := fun _ => Grp → Grp → Nat → Int32 → Int32 → Option (Int32 × Grp)) (fun _ _ _ _ _ => none) (fun _ ih => f_X7_parse_l51b F  ih) fu
noncomputable def f_X7_parse (F : Nat) (G3 : Grp) (G4 : Grp) (v0 : Nat) (v1 : Nat) (v2 : Int32) : Option (Int32 × Grp) :=
  bn (gR G4 v0 8 (some v1)) (fun G4_2 => bn (gI G4_2 v0 9 (if (nI ((G3.2.2 v1 0).getD 0)) < v2 then (nI ((G3.2.2 v1 0).getD 0)) else v2)) (fun G4_12 => bn (gI G4_12 v0 10 0) (fun G4_17 => bn (gI G4_17 v0 11 0) (fun G4_22 => bn (gI G4_22 v0 3 0) (fun G4_27 => bn (gI G4_27 v0 7 0) (fun G4_32 => if (G4_32.1 v0 9) ≤ 0 then f_X7_parse_l51 F  F G3 G4_32 v0 0 0 else f_X7_parse_l51 F  F G3 G4_32 v0 1 0))))))
def RM_X7_parse : Room := { frames := 5, cells := 0, slots := 0, locals := 104 }
abbrev W_X7_parse : List Nat := [4]
abbrev B_X7_parse (HB : Heap) (D : va_G) (y : Nat → ClassId) (n : Nat) (κ : Nat → Nat) (σ0 : St) (q : Int32 × Grp) : Heap → Prop := fun H => ∃ σ : St, IV HB D y n n κ σ [] H ∧ σ 4 = q.2 ∧ ∀ j, j ∉ W_X7_parse → σ j = σ0 j
set_option maxRecDepth 100000 in
set_option maxHeartbeats 4000000 in
theorem c_X7_parse (l : Launch) (HB : Heap) (D : va_G) (y : Nat → ClassId) (F n : Nat) (κ : Nat → Nat) (σ0 : St) (hN : N0 ≤ n) (v0 : Nat) (ha_v0 : v0 < n) (hk_v0 : κ v0 = 7) (v1 : Nat) (ha_v1 : v1 < n) (hk_v1 : κ v1 = 13) (v2 : Int32)  (G3 : Grp) (e3 : σ0 3 = G3) (G4 : Grp) (e4 : σ0 4 = G4) (q : Int32 × Grp) (h : f_X7_parse F G3 G4 v0 v1 v2 = some q) : MT l HB D y yX7_parse cX7_parse 5 (some .int) RM_X7_parse [.ref (HB.size + v0), .ref (HB.size + v1), .int v2] (IV HB D y n n κ σ0 []) (some (.int q.1)) (B_X7_parse HB D y n κ σ0 q) := by
  refine Met.ofW (cc := cX7_parse) (maxL := 5) (ret := (some .int)) (by decide) rfl ?_
  intro p e s m args below meth c s₁ BL hml hv
  obtain ⟨rfl, hI, hKK⟩ := hv
  have hx := BL.exec
  have hb := BL.bytes
  have hr := BL.returns
  have hts : ∀ w ∈ gtb, w.before _ s = true := fun w hw => atoms_spec BL.pre w (List.mem_cons_of_mem _ hw)
  have hml : c.maxLocals = 5 := hml
  have hown : s.vm.findClass RX7 = some m.cls := findClass_of_methodNamed BL.named
  have hlocks := BL.notSynchronized
  have hk0 := hI.1.2.2.2.2
  have hl := lv_entry ([.ref (HB.size + v0), .ref (HB.size + v1), .int v2]) (n := 5) (Nat.le_of_ble_eq_true rfl)
  rw [lg_entry_eq]
  generalize (lg_sl ([.ref (HB.size + v0), .ref (HB.size + v1), .int v2]) ++ List.replicate (5 - (lg_sl ([.ref (HB.size + v0), .ref (HB.size + v1), .int v2])).length) Slot.unset).toArray = ls at hl ⊢
  have hl : lv_has ls 5 [(0, .ref (HB.size + v0)), (1, .ref (HB.size + v1)), (2, .int v2)] := hl
  generalize hargs : ([.ref (HB.size + v0), .ref (HB.size + v1), .int v2] : List Value).toArray = args at *
  have b88 : ∀ (σ : St) (H : Heap) (locs : List Loc) (ls : Array Slot) (G3 : Grp) (G4 : Grp) (v0 : Nat) (ha_v0 : v0 < n) (hk_v0 : κ v0 = 7), IV HB D y n n κ σ locs H → σ 3 = G3 → σ 4 = G4 → (∀ j, j ∉ W_X7_parse → σ j = σ0 j) → lv_has ls 5 [(0, .ref (HB.size + v0))] → f_X7_parse_b88 F  G3 G4 v0 = some q → WX RM_X7_parse p l e s m args below meth c HB (some (.int q.1)) (B_X7_parse HB D y n κ σ0 q) H locs (F0 m 88 ls []) := by
    intro  σ H locs ls G3 G4 v0 ha_v0 hk_v0 hI e3 e4 fr hl h
    unfold f_X7_parse_b88 at h
    refine lv_aload_n hx hb dX7_parse_88 rfl (lv_at hl 0 rfl) ?_
    refine gt_X7_56 hx hb hts hown hKK hI e4 ha_v0 hk_v0 dX7_parse_89 ?_
    have hq := Option.some.inj h
    exact W.iret (v := (G4.1 v0 11)) hx hb hr (fun t ht hW => qc_mk (congrArg (fun z => Outcome.returned (some (Value.int z.1))) hq) (by rw [ht]; exact ⟨σ, hI.nil, e4.trans (congrArg (fun z => z.2) hq), fr⟩)) hI.2.2 dX7_parse_92 hlocks
  have b51 : ∀ (fu : Nat) (σ : St) (H : Heap) (locs : List Loc) (ls : Array Slot) (G3 : Grp) (G4 : Grp) (v0 : Nat) (v3 : Int32) (v4 : Int32) (ha_v0 : v0 < n) (hk_v0 : κ v0 = 7), IV HB D y n n κ σ locs H → σ 3 = G3 → σ 4 = G4 → (∀ j, j ∉ W_X7_parse → σ j = σ0 j) → lv_has ls 5 [(0, .ref (HB.size + v0)), (3, .int v3), (4, .int v4)] → f_X7_parse_l51 F  fu G3 G4 v0 v3 v4 = some q → WX RM_X7_parse p l e s m args below meth c HB (some (.int q.1)) (B_X7_parse HB D y n κ σ0 q) H locs (F0 m 51 ls []) := by
    intro  fu
    induction fu with
    | zero =>
      intro σ H locs ls G3 G4 v0 v3 v4 ha_v0 hk_v0 hI e3 e4 fr hl h
      exact absurd h (by intro h; cases h)
    | succ fu hk51 =>
      intro σ H locs ls G3 G4 v0 v3 v4 ha_v0 hk_v0 hI e3 e4 fr hl h
      have h : f_X7_parse_l51b F  (f_X7_parse_l51 F  fu) G3 G4 v0 v3 v4 = some q := h
      generalize f_X7_parse_l51 F  fu = k51 at h hk51
      unfold f_X7_parse_l51b at h
      refine lv_iload_n hx hb dX7_parse_51 rfl (lv_at hl 1 rfl) ?_
      refine lv_if_eq (tgt := 88) hx hb dX7_parse_52 (by decide) (fun hc => ?_) (fun hc => ?_)
      · replace h := ite_t hc h
        exact b88  σ H locs ls G3 G4 v0 ha_v0 hk_v0 hI e3 e4 fr (lv_sub hl [0] rfl) h
      · replace h := ite_f hc h
        refine lv_iload hx hb dX7_parse_55 (lv_at hl 2 rfl) ?_
        refine lv_bipush (v := 12) hx hb dX7_parse_57 (by decide) ?_
        refine lv_icmp_gt (tgt := 88) hx hb dX7_parse_59 (by decide) (fun hc => ?_) (fun hc => ?_)
        · replace h := ite_t hc h
          exact b88  σ H locs ls G3 G4 v0 ha_v0 hk_v0 hI e3 e4 fr (lv_sub hl [0] rfl) h
        · replace h := ite_f hc h
          refine lv_aload_n hx hb dX7_parse_62 rfl (lv_at hl 0 rfl) ?_
          obtain ⟨q_63, hq_63, h⟩ := ob_e h
          refine r_callV (As := []) (rest := []) hx hb hml hts hown (c_X7_parseHead l HB D y F n κ σ hN v0 ha_v0 hk_v0 G3 e3 G4 e4 q_63 hq_63) cal_X7_parseHead im_X7_parseHead se_X7_parseHead lm_X7_65 ⟨Nat.le_of_ble_eq_true rfl, Nat.le_of_ble_eq_true rfl⟩ hI.nil hKK (r_recv hKK hI (hE7 HB.size y) rfl ha_v0 hk_v0) rfl hl.1 hI.2.2 rfl (Nat.le_of_ble_eq_true rfl) dX7_parse_63 ⟨Nat.le_of_ble_eq_true rfl, Nat.le_of_ble_eq_true rfl⟩ rfl rfl rfl (fun H locs hB hlo => ?_)
          obtain ⟨σ, hB, en4, ho⟩ := hB
          have hI := hB.re hlo
          have e4 := en4
          have e3 := (ho 3 (ni rfl)).trans e3
          have fr := frc fr ho (by decide)
          refine lv_if_eq (tgt := 80) hx hb dX7_parse_66 (by decide) (fun hc => ?_) (fun hc => ?_)
          · replace h := ite_t hc h
            refine lv_iconst (v := 0) hx hb dX7_parse_80 (by decide) ?_
            refine lv_istore_n (lv' := [(3, .int 0), (0, .ref (HB.size + v0)), (4, .int v4)]) hx hb dX7_parse_81 rfl hl (by decide) rfl (fun ls hl => ?_)
            obtain ⟨v4_82, qq, h⟩ := bn_e h
            refine lv_iinc (v := v4_82) (lv' := [(4, .int v4_82), (3, .int 0), (0, .ref (HB.size + v0))]) hx hb dX7_parse_82 hl (k := 2) rfl (by rw [qq]; rfl) (by decide) rfl (fun ls hl => ?_)
            refine lv_goto (tgt := 51) hx hb dX7_parse_85 (by decide) ?_
            exact hk51 σ H locs ls G3 (q_63.2) v0 0 v4_82 ha_v0 hk_v0 hI e3 e4 fr (lv_sub hl [2, 1, 0] rfl) h
          · replace h := ite_f hc h
            refine lv_aload_n hx hb dX7_parse_69 rfl (lv_at hl 0 rfl) ?_
            obtain ⟨q_70, hq_70, h⟩ := ob_e h
            refine r_callV (As := []) (rest := []) hx hb hml hts hown (c_X7_parsePattern l HB D y F n κ σ hN v0 ha_v0 hk_v0 G3 e3 (q_63.2) e4 q_70 hq_70) cal_X7_parsePattern im_X7_parsePattern se_X7_parsePattern lm_X7_69 ⟨Nat.le_of_ble_eq_true rfl, Nat.le_of_ble_eq_true rfl⟩ hI.nil hKK (r_recv hKK hI (hE7 HB.size y) rfl ha_v0 hk_v0) rfl hl.1 hI.2.2 rfl (Nat.le_of_ble_eq_true rfl) dX7_parse_70 ⟨Nat.le_of_ble_eq_true rfl, Nat.le_of_ble_eq_true rfl⟩ rfl rfl rfl (fun H locs hB hlo => ?_)
            obtain ⟨σ, hB, en4, ho⟩ := hB
            have hI := hB.re hlo
            have e4 := en4
            have e3 := (ho 3 (ni rfl)).trans e3
            have fr := frc fr ho (by decide)
            refine lv_if_eq (tgt := 80) hx hb dX7_parse_73 (by decide) (fun hc => ?_) (fun hc => ?_)
            · replace h := ite_t hc h
              refine lv_iconst (v := 0) hx hb dX7_parse_80 (by decide) ?_
              refine lv_istore_n (lv' := [(3, .int 0), (0, .ref (HB.size + v0)), (4, .int v4)]) hx hb dX7_parse_81 rfl hl (by decide) rfl (fun ls hl => ?_)
              obtain ⟨v4_82, qq, h⟩ := bn_e h
              refine lv_iinc (v := v4_82) (lv' := [(4, .int v4_82), (3, .int 0), (0, .ref (HB.size + v0))]) hx hb dX7_parse_82 hl (k := 2) rfl (by rw [qq]; rfl) (by decide) rfl (fun ls hl => ?_)
              refine lv_goto (tgt := 51) hx hb dX7_parse_85 (by decide) ?_
              exact hk51 σ H locs ls G3 (q_70.2) v0 0 v4_82 ha_v0 hk_v0 hI e3 e4 fr (lv_sub hl [2, 1, 0] rfl) h
            · replace h := ite_f hc h
              refine lv_iconst (v := 1) hx hb dX7_parse_76 (by decide) ?_
              refine lv_goto (tgt := 81) hx hb dX7_parse_77 (by decide) ?_
              refine lv_istore_n (lv' := [(3, .int 1), (0, .ref (HB.size + v0)), (4, .int v4)]) hx hb dX7_parse_81 rfl hl (by decide) rfl (fun ls hl => ?_)
              obtain ⟨v4_82, qq, h⟩ := bn_e h
              refine lv_iinc (v := v4_82) (lv' := [(4, .int v4_82), (3, .int 1), (0, .ref (HB.size + v0))]) hx hb dX7_parse_82 hl (k := 2) rfl (by rw [qq]; rfl) (by decide) rfl (fun ls hl => ?_)
              refine lv_goto (tgt := 51) hx hb dX7_parse_85 (by decide) ?_
              exact hk51 σ H locs ls G3 (q_70.2) v0 1 v4_82 ha_v0 hk_v0 hI e3 e4 fr (lv_sub hl [2, 1, 0] rfl) h
  obtain ⟨σ, hI, e3, e4, fr⟩ : ∃ σ : St, IV HB D y n n κ σ [] s.heap ∧ σ 3 = G3 ∧ σ 4 = G4 ∧ ∀ j, j ∉ W_X7_parse → σ j = σ0 j := ⟨σ0, hI, e3, e4, fun _ _ => rfl⟩
  show WX RM_X7_parse p l e s m args below meth c HB (some (.int q.1)) (B_X7_parse HB D y n κ σ0 q) s.heap [] (F0 m 0 ls [])
  generalize s.heap = H at hI ⊢
  unfold f_X7_parse at h
  obtain ⟨locs, hlocs⟩ : ∃ x : List Loc, x = [] := ⟨_, rfl⟩
  rw [← hlocs] at hI ⊢
  refine lv_aload_n hx hb dX7_parse_0 rfl (lv_at hl 0 rfl) ?_
  refine lv_aload_n hx hb dX7_parse_1 rfl (lv_at hl 1 rfl) ?_
  obtain ⟨G4_2, qq, h⟩ := bn_e h
  refine pt_X7_39 hx hb hts hown hKK hI e4 ha_v0 hk_v0 (x := (some v1)) (fun hT => hT.setT (nn rfl) hk_v0 (K := 13) (by decide) (by decide) (fun t q => by cases q; exact ⟨ha_v1, hk_v1⟩)) dX7_parse_2 (fun σ H locs hI ew ho => ?_)
  have e4 := ew.trans qq.symm
  have e3 := (ho 3 (nn rfl)).trans e3
  have fr := frs fr ho (by decide)
  refine lv_aload_n hx hb dX7_parse_5 rfl (lv_at hl 0 rfl) ?_
  refine lv_iload_n hx hb dX7_parse_6 rfl (lv_at hl 2 rfl) ?_
  refine lv_aload_n hx hb dX7_parse_7 rfl (lv_at hl 1 rfl) ?_
  refine r_alen13 hx hb hKK hI e3 ha_v1 hk_v1 dX7_parse_8 ?_
  refine va_mmin hx hb (by rw [hl.1]; exact hml) hown (hts _ lm_X7_43) (hts _ mw_min.1) (hts _ mw_ini) (hts _ mw_min.2) (Nat.le_of_ble_eq_true rfl) (Nat.le_of_ble_eq_true rfl) (Nat.zero_le _) (Nat.zero_le _) dX7_parse_9 ?_
  obtain ⟨G4_12, qq, h⟩ := bn_e h
  refine pt_X7_49 hx hb hts hown hKK hI e4 ha_v0 hk_v0 dX7_parse_12 (fun σ H locs hI ew ho => ?_)
  have e4 := ew.trans qq.symm
  have e3 := (ho 3 (nn rfl)).trans e3
  have fr := frs fr ho (by decide)
  refine lv_aload_n hx hb dX7_parse_15 rfl (lv_at hl 0 rfl) ?_
  refine lv_iconst (v := 0) hx hb dX7_parse_16 (by decide) ?_
  obtain ⟨G4_17, qq, h⟩ := bn_e h
  refine pt_X7_53 hx hb hts hown hKK hI e4 ha_v0 hk_v0 dX7_parse_17 (fun σ H locs hI ew ho => ?_)
  have e4 := ew.trans qq.symm
  have e3 := (ho 3 (nn rfl)).trans e3
  have fr := frs fr ho (by decide)
  refine lv_aload_n hx hb dX7_parse_20 rfl (lv_at hl 0 rfl) ?_
  refine lv_iconst (v := 0) hx hb dX7_parse_21 (by decide) ?_
  obtain ⟨G4_22, qq, h⟩ := bn_e h
  refine pt_X7_56 hx hb hts hown hKK hI e4 ha_v0 hk_v0 dX7_parse_22 (fun σ H locs hI ew ho => ?_)
  have e4 := ew.trans qq.symm
  have e3 := (ho 3 (nn rfl)).trans e3
  have fr := frs fr ho (by decide)
  refine lv_aload_n hx hb dX7_parse_25 rfl (lv_at hl 0 rfl) ?_
  refine lv_iconst (v := 0) hx hb dX7_parse_26 (by decide) ?_
  obtain ⟨G4_27, qq, h⟩ := bn_e h
  refine pt_X7_59 hx hb hts hown hKK hI e4 ha_v0 hk_v0 dX7_parse_27 (fun σ H locs hI ew ho => ?_)
  have e4 := ew.trans qq.symm
  have e3 := (ho 3 (nn rfl)).trans e3
  have fr := frs fr ho (by decide)
  refine lv_aload_n hx hb dX7_parse_30 rfl (lv_at hl 0 rfl) ?_
  refine lv_iconst (v := 0) hx hb dX7_parse_31 (by decide) ?_
  obtain ⟨G4_32, qq, h⟩ := bn_e h
  refine pt_X7_62 hx hb hts hown hKK hI e4 ha_v0 hk_v0 dX7_parse_32 (fun σ H locs hI ew ho => ?_)
  have e4 := ew.trans qq.symm
  have e3 := (ho 3 (nn rfl)).trans e3
  have fr := frs fr ho (by decide)
  refine lv_aload_n hx hb dX7_parse_35 rfl (lv_at hl 0 rfl) ?_
  refine gt_X7_49 hx hb hts hown hKK hI e4 ha_v0 hk_v0 dX7_parse_36 ?_
  refine lv_if_le (tgt := 46) hx hb dX7_parse_39 (by decide) (fun hc => ?_) (fun hc => ?_)
  · replace h := ite_t hc h
    refine lv_iconst (v := 0) hx hb dX7_parse_46 (by decide) ?_
    refine lv_istore_n (lv' := [(3, .int 0), (0, .ref (HB.size + v0)), (1, .ref (HB.size + v1)), (2, .int v2)]) hx hb dX7_parse_47 rfl hl (by decide) rfl (fun ls hl => ?_)
    refine lv_iconst (v := 0) hx hb dX7_parse_48 (by decide) ?_
    refine lv_istore (lv' := [(4, .int 0), (3, .int 0), (0, .ref (HB.size + v0)), (1, .ref (HB.size + v1)), (2, .int v2)]) hx hb dX7_parse_49 hl (by decide) rfl (fun ls hl => ?_)
    exact b51  F σ H locs ls G3 G4_32 v0 0 0 ha_v0 hk_v0 hI e3 e4 fr (lv_sub hl [2, 1, 0] rfl) h
  · replace h := ite_f hc h
    refine lv_iconst (v := 1) hx hb dX7_parse_42 (by decide) ?_
    refine lv_goto (tgt := 47) hx hb dX7_parse_43 (by decide) ?_
    refine lv_istore_n (lv' := [(3, .int 1), (0, .ref (HB.size + v0)), (1, .ref (HB.size + v1)), (2, .int v2)]) hx hb dX7_parse_47 rfl hl (by decide) rfl (fun ls hl => ?_)
    refine lv_iconst (v := 0) hx hb dX7_parse_48 (by decide) ?_
    refine lv_istore (lv' := [(4, .int 0), (3, .int 1), (0, .ref (HB.size + v0)), (1, .ref (HB.size + v1)), (2, .int v2)]) hx hb dX7_parse_49 hl (by decide) rfl (fun ls hl => ?_)
    exact b51  F σ H locs ls G3 G4_32 v0 1 0 ha_v0 hk_v0 hI e3 e4 fr (lv_sub hl [2, 1, 0] rfl) h
noncomputable def f_X8_begin_l12b (F : Nat)  (k12 : Grp → Int32 → Option (Grp)) (G22 : Grp) (v3 : Int32) : Option (Grp) :=
  if 16 ≤ v3 then some G22 else ck v3 16 (bn (gI G22 90 v3.toNatClampNeg (-1)) (fun G22_24 => bn (v3 + 1) (fun v3_25 => k12 G22_24 v3_25)))
noncomputable def f_X8_begin_l12 (F : Nat)  (fu : Nat) : Grp → Int32 → Option (Grp) := Nat.rec (motive := fun _ => Grp → Int32 → Option (Grp)) (fun _ _ => none) (fun _ ih => f_X8_begin_l12b F  ih) fu
noncomputable def f_X8_begin (F : Nat) (G22 : Grp) (v1 : Int32) (v2 : Int32) : Option (Grp) :=
  bn (gI G22 89 0 v1) (fun G22_2 => bn (gI G22_2 89 1 v2) (fun G22_7 => f_X8_begin_l12 F  F G22_7 0))
def RM_X8_begin : Room := { frames := 0, cells := 0, slots := 0, locals := 0 }
abbrev W_X8_begin : List Nat := [22]
abbrev B_X8_begin (HB : Heap) (D : va_G) (y : Nat → ClassId) (n : Nat) (κ : Nat → Nat) (σ0 : St) (q : Grp) : Heap → Prop := fun H => ∃ σ : St, IV HB D y n n κ σ [] H ∧ σ 22 = q ∧ ∀ j, j ∉ W_X8_begin → σ j = σ0 j
set_option maxRecDepth 100000 in
set_option maxHeartbeats 4000000 in
theorem c_X8_begin (l : Launch) (HB : Heap) (D : va_G) (y : Nat → ClassId) (F n : Nat) (κ : Nat → Nat) (σ0 : St) (hN : N0 ≤ n) (v1 : Int32)  (v2 : Int32)  (G22 : Grp) (e22 : σ0 22 = G22) (q : Grp) (h : f_X8_begin F G22 v1 v2 = some q) : MT l HB D y yX8_begin cX8_begin 4 none RM_X8_begin [.ref (HB.size + 89), .int v1, .int v2] (IV HB D y n n κ σ0 []) none (B_X8_begin HB D y n κ σ0 q) := by
  refine Met.ofW (cc := cX8_begin) (maxL := 4) (ret := none) (by decide) rfl ?_
  intro p e s m args below meth c s₁ BL hml hv
  obtain ⟨rfl, hI, hKK⟩ := hv
  have hx := BL.exec
  have hb := BL.bytes
  have hr := BL.returns
  have hts : ∀ w ∈ gtb, w.before _ s = true := fun w hw => atoms_spec BL.pre w (List.mem_cons_of_mem _ hw)
  have hml : c.maxLocals = 4 := hml
  have hown : s.vm.findClass RX8 = some m.cls := findClass_of_methodNamed BL.named
  have hlocks := BL.notSynchronized
  have hk0 := hI.1.2.2.2.2
  have hl := lv_entry ([.ref (HB.size + 89), .int v1, .int v2]) (n := 4) (Nat.le_of_ble_eq_true rfl)
  rw [lg_entry_eq]
  generalize (lg_sl ([.ref (HB.size + 89), .int v1, .int v2]) ++ List.replicate (4 - (lg_sl ([.ref (HB.size + 89), .int v1, .int v2])).length) Slot.unset).toArray = ls at hl ⊢
  have hl : lv_has ls 4 [(0, .ref (HB.size + 89)), (1, .int v1), (2, .int v2)] := hl
  generalize hargs : ([.ref (HB.size + 89), .int v1, .int v2] : List Value).toArray = args at *
  have b12 : ∀ (fu : Nat) (σ : St) (H : Heap) (locs : List Loc) (ls : Array Slot) (G22 : Grp) (v3 : Int32) , IV HB D y n n κ σ locs H → σ 22 = G22 → (∀ j, j ∉ W_X8_begin → σ j = σ0 j) → lv_has ls 4 [(0, .ref (HB.size + 89)), (3, .int v3)] → f_X8_begin_l12 F  fu G22 v3 = some q → WX RM_X8_begin p l e s m args below meth c HB none (B_X8_begin HB D y n κ σ0 q) H locs (F0 m 12 ls []) := by
    intro  fu
    induction fu with
    | zero =>
      intro σ H locs ls G22 v3 hI e22 fr hl h
      exact absurd h (by intro h; cases h)
    | succ fu hk12 =>
      intro σ H locs ls G22 v3 hI e22 fr hl h
      have h : f_X8_begin_l12b F  (f_X8_begin_l12 F  fu) G22 v3 = some q := h
      generalize f_X8_begin_l12 F  fu = k12 at h hk12
      unfold f_X8_begin_l12b at h
      refine lv_iload_n hx hb dX8_begin_12 rfl (lv_at hl 1 rfl) ?_
      refine lv_bipush (v := 16) hx hb dX8_begin_13 (by decide) ?_
      refine lv_icmp_ge (tgt := 31) hx hb dX8_begin_15 (by decide) (fun hc => ?_) (fun hc => ?_)
      · replace h := ite_t hc h
        have hq := Option.some.inj h
        exact W.vret hx hb hr (fun t ht hW => qc_mk (rfl) (by rw [ht]; exact ⟨σ, hI.nil, e22.trans (congrArg (fun z => z) hq), fr⟩)) hI.2.2 dX8_begin_31 hlocks
      · replace h := ite_f hc h
        refine lv_aload_n hx hb dX8_begin_18 rfl (lv_at hl 0 rfl) ?_
        refine gf_X8_9 hx hb hts hown hKK hI hN dX8_begin_19 ?_
        refine lv_iload_n hx hb dX8_begin_22 rfl (lv_at hl 1 rfl) ?_
        refine lv_iconst (v := (-1)) hx hb dX8_begin_23 (by decide) ?_
        obtain ⟨hin_, h⟩ := ck_e h
        obtain ⟨G22_24, qq, h⟩ := bn_e h
        refine sa_41 hx hb hKK hI e22 (lc90 hN) (kc90 hk0) hin_ dX8_begin_24 (fun σ H locs hI ew ho => ?_)
        have e22 := ew.trans qq.symm
        have fr := frs fr ho (by decide)
        obtain ⟨v3_25, qq, h⟩ := bn_e h
        refine lv_iinc (v := v3_25) (lv' := [(3, .int v3_25), (0, .ref (HB.size + 89))]) hx hb dX8_begin_25 hl (k := 1) rfl (by rw [qq]; rfl) (by decide) rfl (fun ls hl => ?_)
        refine lv_goto (tgt := 12) hx hb dX8_begin_28 (by decide) ?_
        exact hk12 σ H locs ls G22_24 v3_25  hI e22 fr (lv_sub hl [1, 0] rfl) h
  obtain ⟨σ, hI, e22, fr⟩ : ∃ σ : St, IV HB D y n n κ σ [] s.heap ∧ σ 22 = G22 ∧ ∀ j, j ∉ W_X8_begin → σ j = σ0 j := ⟨σ0, hI, e22, fun _ _ => rfl⟩
  show WX RM_X8_begin p l e s m args below meth c HB none (B_X8_begin HB D y n κ σ0 q) s.heap [] (F0 m 0 ls [])
  generalize s.heap = H at hI ⊢
  unfold f_X8_begin at h
  obtain ⟨locs, hlocs⟩ : ∃ x : List Loc, x = [] := ⟨_, rfl⟩
  rw [← hlocs] at hI ⊢
  refine lv_aload_n hx hb dX8_begin_0 rfl (lv_at hl 0 rfl) ?_
  refine lv_iload_n hx hb dX8_begin_1 rfl (lv_at hl 1 rfl) ?_
  obtain ⟨G22_2, qq, h⟩ := bn_e h
  refine pt_X8_15 hx hb hts hown hKK hI e22 (lc89 hN) (kc89 hk0) dX8_begin_2 (fun σ H locs hI ew ho => ?_)
  have e22 := ew.trans qq.symm
  have fr := frs fr ho (by decide)
  refine lv_aload_n hx hb dX8_begin_5 rfl (lv_at hl 0 rfl) ?_
  refine lv_iload_n hx hb dX8_begin_6 rfl (lv_at hl 2 rfl) ?_
  obtain ⟨G22_7, qq, h⟩ := bn_e h
  refine pt_X8_19 hx hb hts hown hKK hI e22 (lc89 hN) (kc89 hk0) dX8_begin_7 (fun σ H locs hI ew ho => ?_)
  have e22 := ew.trans qq.symm
  have fr := frs fr ho (by decide)
  refine lv_iconst (v := 0) hx hb dX8_begin_10 (by decide) ?_
  refine lv_istore_n (lv' := [(3, .int 0), (0, .ref (HB.size + 89)), (1, .int v1), (2, .int v2)]) hx hb dX8_begin_11 rfl hl (by decide) rfl (fun ls hl => ?_)
  exact b12  F σ H locs ls G22_7 0  hI e22 fr (lv_sub hl [1, 0] rfl) h
noncomputable def f_X8_isOf (F : Nat) (G22 : Grp) (v1 : Int32) : Option (Int32) :=
  ob (f_X11_within F v1 0 15) (fun q_4 => if q_4 = 0 then some 0 else if (((G22.1 89 0) >>> (v1 &&& 31)) &&& 1) = 0 then some 0 else some 1)
def RM_X8_isOf : Room := { frames := 1, cells := 0, slots := 0, locals := 22 }
abbrev B_X8_isOf (HB : Heap) (D : va_G) (y : Nat → ClassId) (n : Nat) (κ : Nat → Nat) (σ : St) (q : Int32) : Heap → Prop := fun H => IV HB D y n n κ σ [] H
set_option maxRecDepth 100000 in
set_option maxHeartbeats 4000000 in
theorem c_X8_isOf (l : Launch) (HB : Heap) (D : va_G) (y : Nat → ClassId) (F n : Nat) (κ : Nat → Nat) (σ : St) (hN : N0 ≤ n) (v1 : Int32)  (G22 : Grp) (e22 : σ 22 = G22) (q : Int32) (h : f_X8_isOf F G22 v1 = some q) : MT l HB D y yX8_isOf cX8_isOf 2 (some .boolean) RM_X8_isOf [.ref (HB.size + 89), .int v1] (IV HB D y n n κ σ []) (some (.int q)) (B_X8_isOf HB D y n κ σ q) := by
  refine Met.ofW (cc := cX8_isOf) (maxL := 2) (ret := (some .boolean)) (by decide) rfl ?_
  intro p e s m args below meth c s₁ BL hml hv
  obtain ⟨rfl, hI, hKK⟩ := hv
  have hx := BL.exec
  have hb := BL.bytes
  have hr := BL.returns
  have hts : ∀ w ∈ gtb, w.before _ s = true := fun w hw => atoms_spec BL.pre w (List.mem_cons_of_mem _ hw)
  have hml : c.maxLocals = 2 := hml
  have hown : s.vm.findClass RX8 = some m.cls := findClass_of_methodNamed BL.named
  have hlocks := BL.notSynchronized
  have hk0 := hI.1.2.2.2.2
  have hl := lv_entry ([.ref (HB.size + 89), .int v1]) (n := 2) (Nat.le_of_ble_eq_true rfl)
  rw [lg_entry_eq]
  generalize (lg_sl ([.ref (HB.size + 89), .int v1]) ++ List.replicate (2 - (lg_sl ([.ref (HB.size + 89), .int v1])).length) Slot.unset).toArray = ls at hl ⊢
  have hl : lv_has ls 2 [(0, .ref (HB.size + 89)), (1, .int v1)] := hl
  generalize hargs : ([.ref (HB.size + 89), .int v1] : List Value).toArray = args at *
  show WX RM_X8_isOf p l e s m args below meth c HB (some (.int q)) (B_X8_isOf HB D y n κ σ q) s.heap [] (F0 m 0 ls [])
  generalize s.heap = H at hI ⊢
  unfold f_X8_isOf at h
  obtain ⟨locs, hlocs⟩ : ∃ x : List Loc, x = [] := ⟨_, rfl⟩
  rw [← hlocs] at hI ⊢
  refine lv_iload_n hx hb dX8_isOf_0 rfl (lv_at hl 1 rfl) ?_
  refine lv_iconst (v := 0) hx hb dX8_isOf_1 (by decide) ?_
  refine lv_bipush (v := 15) hx hb dX8_isOf_2 (by decide) ?_
  obtain ⟨q_4, hq_4, h⟩ := ob_e h
  refine r_callSN (As := [.int v1, .int 0, .int 15]) (rest := []) hx hb hml hts hown (c_X11_within l HB D y F n κ σ hN v1 0 15  q_4 hq_4) cal_X11_within st_X11_within (hKK.2.1 _ (List.mem_of_getElem? (i := 18) rfl)) ⟨Nat.le_of_ble_eq_true rfl, Nat.le_of_ble_eq_true rfl⟩ hI.nil hKK rfl hl.1 hI.2.2 rfl (Nat.le_of_ble_eq_true rfl) dX8_isOf_4 ⟨Nat.le_of_ble_eq_true rfl, Nat.le_of_ble_eq_true rfl⟩ rfl rfl rfl (fun H locs hB hlo => ?_)
  have hI := hB.re hlo
  refine lv_if_eq (tgt := 25) hx hb dX8_isOf_7 (by decide) (fun hc => ?_) (fun hc => ?_)
  · replace h := ite_t hc h
    refine lv_iconst (v := 0) hx hb dX8_isOf_25 (by decide) ?_
    have hq := Option.some.inj h
    exact W.zret (v := 0) (ty := .boolean) hx hb hr rfl (fun t ht hW => qc_mk (congrArg (fun z => Outcome.returned (some (Value.int z))) hq) (by rw [ht]; exact hI.nil)) hI.2.2 dX8_isOf_26 hlocks
  · replace h := ite_f hc h
    refine lv_aload_n hx hb dX8_isOf_10 rfl (lv_at hl 0 rfl) ?_
    refine gt_X8_15 hx hb hts hown hKK hI e22 (lc89 hN) (kc89 hk0) dX8_isOf_11 ?_
    refine lv_iload_n hx hb dX8_isOf_14 rfl (lv_at hl 1 rfl) ?_
    refine lv_ishr hx hb dX8_isOf_15 ?_
    refine lv_iconst (v := 1) hx hb dX8_isOf_16 (by decide) ?_
    refine lv_iand hx hb dX8_isOf_17 ?_
    refine lv_if_eq (tgt := 25) hx hb dX8_isOf_18 (by decide) (fun hc => ?_) (fun hc => ?_)
    · replace h := ite_t hc h
      refine lv_iconst (v := 0) hx hb dX8_isOf_25 (by decide) ?_
      have hq := Option.some.inj h
      exact W.zret (v := 0) (ty := .boolean) hx hb hr rfl (fun t ht hW => qc_mk (congrArg (fun z => Outcome.returned (some (Value.int z))) hq) (by rw [ht]; exact hI.nil)) hI.2.2 dX8_isOf_26 hlocks
    · replace h := ite_f hc h
      refine lv_iconst (v := 1) hx hb dX8_isOf_21 (by decide) ?_
      refine lv_goto (tgt := 26) hx hb dX8_isOf_22 (by decide) ?_
      have hq := Option.some.inj h
      exact W.zret (v := 1) (ty := .boolean) hx hb hr rfl (fun t ht hW => qc_mk (congrArg (fun z => Outcome.returned (some (Value.int z))) hq) (by rw [ht]; exact hI.nil)) hI.2.2 dX8_isOf_26 hlocks
noncomputable def f_X8_sumOf_l4b (F : Nat)  (k4 : Grp → Int32 → Int32 → Int32 → Option (Int32)) (G22 : Grp) (v1 : Int32) (v2 : Int32) (v3 : Int32) : Option (Int32) :=
  if 16 ≤ v3 then some v2 else if ((v1 >>> (v3 &&& 31)) &&& 1) = 0 then bn ((v2 + 0)) (fun v2_30 => bn (v3 + 1) (fun v3_31 => k4 G22 v1 v2_30 v3_31)) else ck v3 16 (bn ((v2 + (G22.1 90 v3.toNatClampNeg))) (fun v2_30 => bn (v3 + 1) (fun v3_31 => k4 G22 v1 v2_30 v3_31)))
noncomputable def f_X8_sumOf_l4 (F : Nat)  (fu : Nat) : Grp → Int32 → Int32 → Int32 → Option (Int32) := Nat.rec (motive := fun _ => Grp → Int32 → Int32 → Int32 → Option (Int32)) (fun _ _ _ _ => none) (fun _ ih => f_X8_sumOf_l4b F  ih) fu
noncomputable def f_X8_sumOf (F : Nat) (G22 : Grp) (v1 : Int32) : Option (Int32) :=
  f_X8_sumOf_l4 F  F G22 v1 0 0
def RM_X8_sumOf : Room := { frames := 0, cells := 0, slots := 0, locals := 0 }
abbrev B_X8_sumOf (HB : Heap) (D : va_G) (y : Nat → ClassId) (n : Nat) (κ : Nat → Nat) (σ : St) (q : Int32) : Heap → Prop := fun H => IV HB D y n n κ σ [] H
set_option maxRecDepth 100000 in
set_option maxHeartbeats 4000000 in
theorem c_X8_sumOf (l : Launch) (HB : Heap) (D : va_G) (y : Nat → ClassId) (F n : Nat) (κ : Nat → Nat) (σ : St) (hN : N0 ≤ n) (v1 : Int32)  (G22 : Grp) (e22 : σ 22 = G22) (q : Int32) (h : f_X8_sumOf F G22 v1 = some q) : MT l HB D y yX8_sumOf cX8_sumOf 4 (some .int) RM_X8_sumOf [.ref (HB.size + 89), .int v1] (IV HB D y n n κ σ []) (some (.int q)) (B_X8_sumOf HB D y n κ σ q) := by
  refine Met.ofW (cc := cX8_sumOf) (maxL := 4) (ret := (some .int)) (by decide) rfl ?_
  intro p e s m args below meth c s₁ BL hml hv
  obtain ⟨rfl, hI, hKK⟩ := hv
  have hx := BL.exec
  have hb := BL.bytes
  have hr := BL.returns
  have hts : ∀ w ∈ gtb, w.before _ s = true := fun w hw => atoms_spec BL.pre w (List.mem_cons_of_mem _ hw)
  have hml : c.maxLocals = 4 := hml
  have hown : s.vm.findClass RX8 = some m.cls := findClass_of_methodNamed BL.named
  have hlocks := BL.notSynchronized
  have hk0 := hI.1.2.2.2.2
  have hl := lv_entry ([.ref (HB.size + 89), .int v1]) (n := 4) (Nat.le_of_ble_eq_true rfl)
  rw [lg_entry_eq]
  generalize (lg_sl ([.ref (HB.size + 89), .int v1]) ++ List.replicate (4 - (lg_sl ([.ref (HB.size + 89), .int v1])).length) Slot.unset).toArray = ls at hl ⊢
  have hl : lv_has ls 4 [(0, .ref (HB.size + 89)), (1, .int v1)] := hl
  generalize hargs : ([.ref (HB.size + 89), .int v1] : List Value).toArray = args at *
  have b4 : ∀ (fu : Nat) (H : Heap) (locs : List Loc) (ls : Array Slot) (G22 : Grp) (v1 : Int32) (v2 : Int32) (v3 : Int32) , IV HB D y n n κ σ locs H → σ 22 = G22 → lv_has ls 4 [(0, .ref (HB.size + 89)), (1, .int v1), (2, .int v2), (3, .int v3)] → f_X8_sumOf_l4 F  fu G22 v1 v2 v3 = some q → WX RM_X8_sumOf p l e s m args below meth c HB (some (.int q)) (B_X8_sumOf HB D y n κ σ q) H locs (F0 m 4 ls []) := by
    intro  fu
    induction fu with
    | zero =>
      intro H locs ls G22 v1 v2 v3 hI e22 hl h
      exact absurd h (by intro h; cases h)
    | succ fu hk4 =>
      intro H locs ls G22 v1 v2 v3 hI e22 hl h
      have h : f_X8_sumOf_l4b F  (f_X8_sumOf_l4 F  fu) G22 v1 v2 v3 = some q := h
      generalize f_X8_sumOf_l4 F  fu = k4 at h hk4
      unfold f_X8_sumOf_l4b at h
      refine lv_iload_n hx hb dX8_sumOf_4 rfl (lv_at hl 3 rfl) ?_
      refine lv_bipush (v := 16) hx hb dX8_sumOf_5 (by decide) ?_
      refine lv_icmp_ge (tgt := 37) hx hb dX8_sumOf_7 (by decide) (fun hc => ?_) (fun hc => ?_)
      · replace h := ite_t hc h
        refine lv_iload_n hx hb dX8_sumOf_37 rfl (lv_at hl 2 rfl) ?_
        have hq := Option.some.inj h
        exact W.iret (v := v2) hx hb hr (fun t ht hW => qc_mk (congrArg (fun z => Outcome.returned (some (Value.int z))) hq) (by rw [ht]; exact hI.nil)) hI.2.2 dX8_sumOf_38 hlocks
      · replace h := ite_f hc h
        refine lv_iload_n hx hb dX8_sumOf_10 rfl (lv_at hl 2 rfl) ?_
        refine lv_iload_n hx hb dX8_sumOf_11 rfl (lv_at hl 1 rfl) ?_
        refine lv_iload_n hx hb dX8_sumOf_12 rfl (lv_at hl 3 rfl) ?_
        refine lv_ishr hx hb dX8_sumOf_13 ?_
        refine lv_iconst (v := 1) hx hb dX8_sumOf_14 (by decide) ?_
        refine lv_iand hx hb dX8_sumOf_15 ?_
        refine lv_if_eq (tgt := 28) hx hb dX8_sumOf_16 (by decide) (fun hc => ?_) (fun hc => ?_)
        · replace h := ite_t hc h
          refine lv_iconst (v := 0) hx hb dX8_sumOf_28 (by decide) ?_
          refine lv_iadd hx hb dX8_sumOf_29 ?_
          obtain ⟨v2_30, qq, h⟩ := bn_e h
          refine topi qq ?_
          refine lv_istore_n (lv' := [(2, .int v2_30), (0, .ref (HB.size + 89)), (1, .int v1), (3, .int v3)]) hx hb dX8_sumOf_30 rfl hl (by decide) rfl (fun ls hl => ?_)
          obtain ⟨v3_31, qq, h⟩ := bn_e h
          refine lv_iinc (v := v3_31) (lv' := [(3, .int v3_31), (2, .int v2_30), (0, .ref (HB.size + 89)), (1, .int v1)]) hx hb dX8_sumOf_31 hl (k := 3) rfl (by rw [qq]; rfl) (by decide) rfl (fun ls hl => ?_)
          refine lv_goto (tgt := 4) hx hb dX8_sumOf_34 (by decide) ?_
          exact hk4 H locs ls G22 v1 v2_30 v3_31  hI e22 (lv_sub hl [2, 3, 1, 0] rfl) h
        · replace h := ite_f hc h
          refine lv_aload_n hx hb dX8_sumOf_19 rfl (lv_at hl 0 rfl) ?_
          refine gf_X8_9 hx hb hts hown hKK hI hN dX8_sumOf_20 ?_
          refine lv_iload_n hx hb dX8_sumOf_23 rfl (lv_at hl 3 rfl) ?_
          obtain ⟨hin_, h⟩ := ck_e h
          refine la_41 hx hb hKK hI e22 (lc90 hN) (kc90 hk0) hin_ dX8_sumOf_24 ?_
          refine lv_goto (tgt := 29) hx hb dX8_sumOf_25 (by decide) ?_
          refine lv_iadd hx hb dX8_sumOf_29 ?_
          obtain ⟨v2_30, qq, h⟩ := bn_e h
          refine topi qq ?_
          refine lv_istore_n (lv' := [(2, .int v2_30), (0, .ref (HB.size + 89)), (1, .int v1), (3, .int v3)]) hx hb dX8_sumOf_30 rfl hl (by decide) rfl (fun ls hl => ?_)
          obtain ⟨v3_31, qq, h⟩ := bn_e h
          refine lv_iinc (v := v3_31) (lv' := [(3, .int v3_31), (2, .int v2_30), (0, .ref (HB.size + 89)), (1, .int v1)]) hx hb dX8_sumOf_31 hl (k := 3) rfl (by rw [qq]; rfl) (by decide) rfl (fun ls hl => ?_)
          refine lv_goto (tgt := 4) hx hb dX8_sumOf_34 (by decide) ?_
          exact hk4 H locs ls G22 v1 v2_30 v3_31  hI e22 (lv_sub hl [2, 3, 1, 0] rfl) h
  show WX RM_X8_sumOf p l e s m args below meth c HB (some (.int q)) (B_X8_sumOf HB D y n κ σ q) s.heap [] (F0 m 0 ls [])
  generalize s.heap = H at hI ⊢
  unfold f_X8_sumOf at h
  obtain ⟨locs, hlocs⟩ : ∃ x : List Loc, x = [] := ⟨_, rfl⟩
  rw [← hlocs] at hI ⊢
  refine lv_iconst (v := 0) hx hb dX8_sumOf_0 (by decide) ?_
  refine lv_istore_n (lv' := [(2, .int 0), (0, .ref (HB.size + 89)), (1, .int v1)]) hx hb dX8_sumOf_1 rfl hl (by decide) rfl (fun ls hl => ?_)
  refine lv_iconst (v := 0) hx hb dX8_sumOf_2 (by decide) ?_
  refine lv_istore_n (lv' := [(3, .int 0), (2, .int 0), (0, .ref (HB.size + 89)), (1, .int v1)]) hx hb dX8_sumOf_3 rfl hl (by decide) rfl (fun ls hl => ?_)
  exact b4  F H locs ls G22 v1 0 0  hI e22 (lv_sub hl [2, 3, 1, 0] rfl) h
noncomputable def f_X8_withOutcomes_l4b (F : Nat)  (k4 : Grp → Int32 → Int32 → Option (Int32)) (G22 : Grp) (v1 : Int32) (v2 : Int32) : Option (Int32) :=
  if 16 ≤ v2 then some v1 else ob (f_X8_isOf F G22 v2) (fun q_12 => if q_12 = 0 then bn (v2 + 1) (fun v2_34 => k4 G22 v1 v2_34) else ck v2 16 (if (G22.1 90 v2.toNatClampNeg) = (-1) then bn (v2 + 1) (fun v2_34 => k4 G22 v1 v2_34) else bn ((v1 ||| (1 <<< (v2 &&& 31)))) (fun v1_33 => bn (v2 + 1) (fun v2_34 => k4 G22 v1_33 v2_34))))
noncomputable def f_X8_withOutcomes_l4 (F : Nat)  (fu : Nat) : Grp → Int32 → Int32 → Option (Int32) := Nat.rec (motive := fun _ => Grp → Int32 → Int32 → Option (Int32)) (fun _ _ _ => none) (fun _ ih => f_X8_withOutcomes_l4b F  ih) fu
noncomputable def f_X8_withOutcomes (F : Nat) (G22 : Grp)  : Option (Int32) :=
  f_X8_withOutcomes_l4 F  F G22 0 0
def RM_X8_withOutcomes : Room := { frames := 2, cells := 0, slots := 0, locals := 43 }
abbrev B_X8_withOutcomes (HB : Heap) (D : va_G) (y : Nat → ClassId) (n : Nat) (κ : Nat → Nat) (σ : St) (q : Int32) : Heap → Prop := fun H => IV HB D y n n κ σ [] H
set_option maxRecDepth 100000 in
set_option maxHeartbeats 4000000 in
theorem c_X8_withOutcomes (l : Launch) (HB : Heap) (D : va_G) (y : Nat → ClassId) (F n : Nat) (κ : Nat → Nat) (σ : St) (hN : N0 ≤ n)  (G22 : Grp) (e22 : σ 22 = G22) (q : Int32) (h : f_X8_withOutcomes F G22 = some q) : MT l HB D y yX8_withOutcomes cX8_withOutcomes 3 (some .int) RM_X8_withOutcomes [.ref (HB.size + 89)] (IV HB D y n n κ σ []) (some (.int q)) (B_X8_withOutcomes HB D y n κ σ q) := by
  refine Met.ofW (cc := cX8_withOutcomes) (maxL := 3) (ret := (some .int)) (by decide) rfl ?_
  intro p e s m args below meth c s₁ BL hml hv
  obtain ⟨rfl, hI, hKK⟩ := hv
  have hx := BL.exec
  have hb := BL.bytes
  have hr := BL.returns
  have hts : ∀ w ∈ gtb, w.before _ s = true := fun w hw => atoms_spec BL.pre w (List.mem_cons_of_mem _ hw)
  have hml : c.maxLocals = 3 := hml
  have hown : s.vm.findClass RX8 = some m.cls := findClass_of_methodNamed BL.named
  have hlocks := BL.notSynchronized
  have hk0 := hI.1.2.2.2.2
  have hl := lv_entry ([.ref (HB.size + 89)]) (n := 3) (Nat.le_of_ble_eq_true rfl)
  rw [lg_entry_eq]
  generalize (lg_sl ([.ref (HB.size + 89)]) ++ List.replicate (3 - (lg_sl ([.ref (HB.size + 89)])).length) Slot.unset).toArray = ls at hl ⊢
  have hl : lv_has ls 3 [(0, .ref (HB.size + 89))] := hl
  generalize hargs : ([.ref (HB.size + 89)] : List Value).toArray = args at *
  have b4 : ∀ (fu : Nat) (H : Heap) (locs : List Loc) (ls : Array Slot) (G22 : Grp) (v1 : Int32) (v2 : Int32) , IV HB D y n n κ σ locs H → σ 22 = G22 → lv_has ls 3 [(0, .ref (HB.size + 89)), (1, .int v1), (2, .int v2)] → f_X8_withOutcomes_l4 F  fu G22 v1 v2 = some q → WX RM_X8_withOutcomes p l e s m args below meth c HB (some (.int q)) (B_X8_withOutcomes HB D y n κ σ q) H locs (F0 m 4 ls []) := by
    intro  fu
    induction fu with
    | zero =>
      intro H locs ls G22 v1 v2 hI e22 hl h
      exact absurd h (by intro h; cases h)
    | succ fu hk4 =>
      intro H locs ls G22 v1 v2 hI e22 hl h
      have h : f_X8_withOutcomes_l4b F  (f_X8_withOutcomes_l4 F  fu) G22 v1 v2 = some q := h
      generalize f_X8_withOutcomes_l4 F  fu = k4 at h hk4
      unfold f_X8_withOutcomes_l4b at h
      refine lv_iload_n hx hb dX8_withOutcomes_4 rfl (lv_at hl 2 rfl) ?_
      refine lv_bipush (v := 16) hx hb dX8_withOutcomes_5 (by decide) ?_
      refine lv_icmp_ge (tgt := 40) hx hb dX8_withOutcomes_7 (by decide) (fun hc => ?_) (fun hc => ?_)
      · replace h := ite_t hc h
        refine lv_iload_n hx hb dX8_withOutcomes_40 rfl (lv_at hl 1 rfl) ?_
        have hq := Option.some.inj h
        exact W.iret (v := v1) hx hb hr (fun t ht hW => qc_mk (congrArg (fun z => Outcome.returned (some (Value.int z))) hq) (by rw [ht]; exact hI.nil)) hI.2.2 dX8_withOutcomes_41 hlocks
      · replace h := ite_f hc h
        refine lv_aload_n hx hb dX8_withOutcomes_10 rfl (lv_at hl 0 rfl) ?_
        refine lv_iload_n hx hb dX8_withOutcomes_11 rfl (lv_at hl 2 rfl) ?_
        obtain ⟨q_12, hq_12, h⟩ := ob_e h
        refine r_callV (As := [.int v2]) (rest := []) hx hb hml hts hown (c_X8_isOf l HB D y F n κ σ hN v2 G22 e22 q_12 hq_12) cal_X8_isOf im_X8_isOf se_X8_isOf lm_X8_39 ⟨Nat.le_of_ble_eq_true rfl, Nat.le_of_ble_eq_true rfl⟩ hI.nil hKK (r_recv hKK hI (hE8 HB.size y) rfl (lc89 hN) (kc89 hk0)) rfl hl.1 hI.2.2 rfl (Nat.le_of_ble_eq_true rfl) dX8_withOutcomes_12 ⟨Nat.le_of_ble_eq_true rfl, Nat.le_of_ble_eq_true rfl⟩ rfl rfl rfl (fun H locs hB hlo => ?_)
        have hI := hB.re hlo
        refine lv_if_eq (tgt := 34) hx hb dX8_withOutcomes_15 (by decide) (fun hc => ?_) (fun hc => ?_)
        · replace h := ite_t hc h
          obtain ⟨v2_34, qq, h⟩ := bn_e h
          refine lv_iinc (v := v2_34) (lv' := [(2, .int v2_34), (0, .ref (HB.size + 89)), (1, .int v1)]) hx hb dX8_withOutcomes_34 hl (k := 2) rfl (by rw [qq]; rfl) (by decide) rfl (fun ls hl => ?_)
          refine lv_goto (tgt := 4) hx hb dX8_withOutcomes_37 (by decide) ?_
          exact hk4 H locs ls G22 v1 v2_34  hI e22 (lv_sub hl [1, 2, 0] rfl) h
        · replace h := ite_f hc h
          refine lv_aload_n hx hb dX8_withOutcomes_18 rfl (lv_at hl 0 rfl) ?_
          refine gf_X8_9 hx hb hts hown hKK hI hN dX8_withOutcomes_19 ?_
          refine lv_iload_n hx hb dX8_withOutcomes_22 rfl (lv_at hl 2 rfl) ?_
          obtain ⟨hin_, h⟩ := ck_e h
          refine la_41 hx hb hKK hI e22 (lc90 hN) (kc90 hk0) hin_ dX8_withOutcomes_23 ?_
          refine lv_iconst (v := (-1)) hx hb dX8_withOutcomes_24 (by decide) ?_
          refine lv_icmp_eq (tgt := 34) hx hb dX8_withOutcomes_25 (by decide) (fun hc => ?_) (fun hc => ?_)
          · replace h := ite_t hc h
            obtain ⟨v2_34, qq, h⟩ := bn_e h
            refine lv_iinc (v := v2_34) (lv' := [(2, .int v2_34), (0, .ref (HB.size + 89)), (1, .int v1)]) hx hb dX8_withOutcomes_34 hl (k := 2) rfl (by rw [qq]; rfl) (by decide) rfl (fun ls hl => ?_)
            refine lv_goto (tgt := 4) hx hb dX8_withOutcomes_37 (by decide) ?_
            exact hk4 H locs ls G22 v1 v2_34  hI e22 (lv_sub hl [1, 2, 0] rfl) h
          · replace h := ite_f hc h
            refine lv_iload_n hx hb dX8_withOutcomes_28 rfl (lv_at hl 1 rfl) ?_
            refine lv_iconst (v := 1) hx hb dX8_withOutcomes_29 (by decide) ?_
            refine lv_iload_n hx hb dX8_withOutcomes_30 rfl (lv_at hl 2 rfl) ?_
            refine lv_ishl hx hb dX8_withOutcomes_31 ?_
            refine lv_ior hx hb dX8_withOutcomes_32 ?_
            obtain ⟨v1_33, qq, h⟩ := bn_e h
            refine topi qq ?_
            refine lv_istore_n (lv' := [(1, .int v1_33), (0, .ref (HB.size + 89)), (2, .int v2)]) hx hb dX8_withOutcomes_33 rfl hl (by decide) rfl (fun ls hl => ?_)
            obtain ⟨v2_34, qq, h⟩ := bn_e h
            refine lv_iinc (v := v2_34) (lv' := [(2, .int v2_34), (1, .int v1_33), (0, .ref (HB.size + 89))]) hx hb dX8_withOutcomes_34 hl (k := 2) rfl (by rw [qq]; rfl) (by decide) rfl (fun ls hl => ?_)
            refine lv_goto (tgt := 4) hx hb dX8_withOutcomes_37 (by decide) ?_
            exact hk4 H locs ls G22 v1_33 v2_34  hI e22 (lv_sub hl [2, 1, 0] rfl) h
  show WX RM_X8_withOutcomes p l e s m args below meth c HB (some (.int q)) (B_X8_withOutcomes HB D y n κ σ q) s.heap [] (F0 m 0 ls [])
  generalize s.heap = H at hI ⊢
  unfold f_X8_withOutcomes at h
  obtain ⟨locs, hlocs⟩ : ∃ x : List Loc, x = [] := ⟨_, rfl⟩
  rw [← hlocs] at hI ⊢
  refine lv_iconst (v := 0) hx hb dX8_withOutcomes_0 (by decide) ?_
  refine lv_istore_n (lv' := [(1, .int 0), (0, .ref (HB.size + 89))]) hx hb dX8_withOutcomes_1 rfl hl (by decide) rfl (fun ls hl => ?_)
  refine lv_iconst (v := 0) hx hb dX8_withOutcomes_2 (by decide) ?_
  refine lv_istore_n (lv' := [(2, .int 0), (1, .int 0), (0, .ref (HB.size + 89))]) hx hb dX8_withOutcomes_3 rfl hl (by decide) rfl (fun ls hl => ?_)
  exact b4  F H locs ls G22 0 0  hI e22 (lv_sub hl [2, 1, 0] rfl) h
noncomputable def f_X8_ways_l41b (F : Nat)  (k41 : Grp → Int32 → Int32 → Int32 → Int32 → Int32 → Option (Int32)) (G22 : Grp) (v2 : Int32) (v3 : Int32) (v4 : Int32) (v5 : Int32) (v6 : Int32) : Option (Int32) :=
  if v2 < v6 then some v5 else if (v6 &&& (v2 ^^^ (-1))) = 0 then ob (f_J6_bitCount_0f7a4 F v6) (fun q_58 => if q_58 = v3 then ob (f_X8_sumOf F G22 v6) (fun q_68 => if q_68 < v4 then bn (v6 + 1) (fun v6_79 => k41 G22 v2 v3 v4 v5 v6_79) else bn (v5 + 1) (fun v5_76 => bn (v6 + 1) (fun v6_79 => k41 G22 v2 v3 v4 v5_76 v6_79))) else bn (v6 + 1) (fun v6_79 => k41 G22 v2 v3 v4 v5 v6_79)) else bn (v6 + 1) (fun v6_79 => k41 G22 v2 v3 v4 v5 v6_79)
noncomputable def f_X8_ways_l41 (F : Nat)  (fu : Nat) : Grp → Int32 → Int32 → Int32 → Int32 → Int32 → Option (Int32) := Nat.rec (motive := fun _ => Grp → Int32 → Int32 → Int32 → Int32 → Int32 → Option (Int32)) (fun _ _ _ _ _ _ => none) (fun _ ih => f_X8_ways_l41b F  ih) fu
noncomputable def f_X8_ways (F : Nat) (G22 : Grp) (v1 : Int32) : Option (Int32) :=
  ob (f_X8_withOutcomes F G22) (fun q_1 => ob (f_J6_bitCount_0f7a4 F ((G22.1 89 1) &&& q_1)) (fun q_11 => if v1 = 0 then f_X8_ways_l41 F  F G22 q_1 q_11 0 0 0 else ob (f_X8_sumOf F G22 ((G22.1 89 1) &&& q_1)) (fun q_26 => f_X8_ways_l41 F  F G22 q_1 q_11 q_26 0 0)))
def RM_X8_ways : Room := { frames := 3, cells := 0, slots := 0, locals := 65 }
abbrev B_X8_ways (HB : Heap) (D : va_G) (y : Nat → ClassId) (n : Nat) (κ : Nat → Nat) (σ : St) (q : Int32) : Heap → Prop := fun H => IV HB D y n n κ σ [] H
set_option maxRecDepth 100000 in
set_option maxHeartbeats 4000000 in
theorem c_X8_ways (l : Launch) (HB : Heap) (D : va_G) (y : Nat → ClassId) (F n : Nat) (κ : Nat → Nat) (σ : St) (hN : N0 ≤ n) (v1 : Int32)  (G22 : Grp) (e22 : σ 22 = G22) (q : Int32) (h : f_X8_ways F G22 v1 = some q) : MT l HB D y yX8_ways cX8_ways 7 (some .int) RM_X8_ways [.ref (HB.size + 89), .int v1] (IV HB D y n n κ σ []) (some (.int q)) (B_X8_ways HB D y n κ σ q) := by
  refine Met.ofW (cc := cX8_ways) (maxL := 7) (ret := (some .int)) (by decide) rfl ?_
  intro p e s m args below meth c s₁ BL hml hv
  obtain ⟨rfl, hI, hKK⟩ := hv
  have hx := BL.exec
  have hb := BL.bytes
  have hr := BL.returns
  have hts : ∀ w ∈ gtb, w.before _ s = true := fun w hw => atoms_spec BL.pre w (List.mem_cons_of_mem _ hw)
  have hml : c.maxLocals = 7 := hml
  have hown : s.vm.findClass RX8 = some m.cls := findClass_of_methodNamed BL.named
  have hlocks := BL.notSynchronized
  have hk0 := hI.1.2.2.2.2
  have hl := lv_entry ([.ref (HB.size + 89), .int v1]) (n := 7) (Nat.le_of_ble_eq_true rfl)
  rw [lg_entry_eq]
  generalize (lg_sl ([.ref (HB.size + 89), .int v1]) ++ List.replicate (7 - (lg_sl ([.ref (HB.size + 89), .int v1])).length) Slot.unset).toArray = ls at hl ⊢
  have hl : lv_has ls 7 [(0, .ref (HB.size + 89)), (1, .int v1)] := hl
  generalize hargs : ([.ref (HB.size + 89), .int v1] : List Value).toArray = args at *
  have b41 : ∀ (fu : Nat) (H : Heap) (locs : List Loc) (ls : Array Slot) (G22 : Grp) (v2 : Int32) (v3 : Int32) (v4 : Int32) (v5 : Int32) (v6 : Int32) , IV HB D y n n κ σ locs H → σ 22 = G22 → lv_has ls 7 [(0, .ref (HB.size + 89)), (2, .int v2), (3, .int v3), (4, .int v4), (5, .int v5), (6, .int v6)] → f_X8_ways_l41 F  fu G22 v2 v3 v4 v5 v6 = some q → WX RM_X8_ways p l e s m args below meth c HB (some (.int q)) (B_X8_ways HB D y n κ σ q) H locs (F0 m 41 ls []) := by
    intro  fu
    induction fu with
    | zero =>
      intro H locs ls G22 v2 v3 v4 v5 v6 hI e22 hl h
      exact absurd h (by intro h; cases h)
    | succ fu hk41 =>
      intro H locs ls G22 v2 v3 v4 v5 v6 hI e22 hl h
      have h : f_X8_ways_l41b F  (f_X8_ways_l41 F  fu) G22 v2 v3 v4 v5 v6 = some q := h
      generalize f_X8_ways_l41 F  fu = k41 at h hk41
      unfold f_X8_ways_l41b at h
      refine lv_iload hx hb dX8_ways_41 (lv_at hl 5 rfl) ?_
      refine lv_iload_n hx hb dX8_ways_43 rfl (lv_at hl 1 rfl) ?_
      refine lv_icmp_gt (tgt := 85) hx hb dX8_ways_44 (by decide) (fun hc => ?_) (fun hc => ?_)
      · replace h := ite_t hc h
        refine lv_iload hx hb dX8_ways_85 (lv_at hl 4 rfl) ?_
        have hq := Option.some.inj h
        exact W.iret (v := v5) hx hb hr (fun t ht hW => qc_mk (congrArg (fun z => Outcome.returned (some (Value.int z))) hq) (by rw [ht]; exact hI.nil)) hI.2.2 dX8_ways_87 hlocks
      · replace h := ite_f hc h
        refine lv_iload hx hb dX8_ways_47 (lv_at hl 5 rfl) ?_
        refine lv_iload_n hx hb dX8_ways_49 rfl (lv_at hl 1 rfl) ?_
        refine lv_iconst (v := (-1)) hx hb dX8_ways_50 (by decide) ?_
        refine lv_ixor hx hb dX8_ways_51 ?_
        refine lv_iand hx hb dX8_ways_52 ?_
        refine lv_if_ne (tgt := 79) hx hb dX8_ways_53 (by decide) (fun hc => ?_) (fun hc => ?_)
        · replace h := ite_f hc h
          obtain ⟨v6_79, qq, h⟩ := bn_e h
          refine lv_iinc (v := v6_79) (lv' := [(6, .int v6_79), (0, .ref (HB.size + 89)), (2, .int v2), (3, .int v3), (4, .int v4), (5, .int v5)]) hx hb dX8_ways_79 hl (k := 5) rfl (by rw [qq]; rfl) (by decide) rfl (fun ls hl => ?_)
          refine lv_goto (tgt := 41) hx hb dX8_ways_82 (by decide) ?_
          exact hk41 H locs ls G22 v2 v3 v4 v5 v6_79  hI e22 (lv_sub hl [1, 2, 3, 4, 5, 0] rfl) h
        · replace h := ite_t hc h
          refine lv_iload hx hb dX8_ways_56 (lv_at hl 5 rfl) ?_
          obtain ⟨q_58, hq_58, h⟩ := ob_e h
          refine r_callS (As := [.int v6]) (rest := []) hx hb hml hts hown (c_J6_bitCount_0f7a4 l HB D y F n κ σ hN v6  q_58 hq_58) cal_J6_bitCount_0f7a4 st_J6_bitCount_0f7a4 lm_X8_30 ⟨Nat.le_of_ble_eq_true rfl, Nat.le_of_ble_eq_true rfl⟩ hI.nil hKK rfl hl.1 hI.2.2 rfl (Nat.le_of_ble_eq_true rfl) dX8_ways_58 ⟨Nat.le_of_ble_eq_true rfl, Nat.le_of_ble_eq_true rfl⟩ rfl rfl rfl (fun H locs hB hlo => ?_)
          have hI := hB.re hlo
          refine lv_iload_n hx hb dX8_ways_61 rfl (lv_at hl 2 rfl) ?_
          refine lv_icmp_ne (tgt := 79) hx hb dX8_ways_62 (by decide) (fun hc => ?_) (fun hc => ?_)
          · replace h := ite_f hc h
            obtain ⟨v6_79, qq, h⟩ := bn_e h
            refine lv_iinc (v := v6_79) (lv' := [(6, .int v6_79), (0, .ref (HB.size + 89)), (2, .int v2), (3, .int v3), (4, .int v4), (5, .int v5)]) hx hb dX8_ways_79 hl (k := 5) rfl (by rw [qq]; rfl) (by decide) rfl (fun ls hl => ?_)
            refine lv_goto (tgt := 41) hx hb dX8_ways_82 (by decide) ?_
            exact hk41 H locs ls G22 v2 v3 v4 v5 v6_79  hI e22 (lv_sub hl [1, 2, 3, 4, 5, 0] rfl) h
          · replace h := ite_t hc h
            refine lv_aload_n hx hb dX8_ways_65 rfl (lv_at hl 0 rfl) ?_
            refine lv_iload hx hb dX8_ways_66 (lv_at hl 5 rfl) ?_
            obtain ⟨q_68, hq_68, h⟩ := ob_e h
            refine r_callV (As := [.int v6]) (rest := []) hx hb hml hts hown (c_X8_sumOf l HB D y F n κ σ hN v6 G22 e22 q_68 hq_68) cal_X8_sumOf im_X8_sumOf se_X8_sumOf lm_X8_36 ⟨Nat.le_of_ble_eq_true rfl, Nat.le_of_ble_eq_true rfl⟩ hI.nil hKK (r_recv hKK hI (hE8 HB.size y) rfl (lc89 hN) (kc89 hk0)) rfl hl.1 hI.2.2 rfl (Nat.le_of_ble_eq_true rfl) dX8_ways_68 ⟨Nat.le_of_ble_eq_true rfl, Nat.le_of_ble_eq_true rfl⟩ rfl rfl rfl (fun H locs hB hlo => ?_)
            have hI := hB.re hlo
            refine lv_iload hx hb dX8_ways_71 (lv_at hl 3 rfl) ?_
            refine lv_icmp_lt (tgt := 79) hx hb dX8_ways_73 (by decide) (fun hc => ?_) (fun hc => ?_)
            · replace h := ite_t hc h
              obtain ⟨v6_79, qq, h⟩ := bn_e h
              refine lv_iinc (v := v6_79) (lv' := [(6, .int v6_79), (0, .ref (HB.size + 89)), (2, .int v2), (3, .int v3), (4, .int v4), (5, .int v5)]) hx hb dX8_ways_79 hl (k := 5) rfl (by rw [qq]; rfl) (by decide) rfl (fun ls hl => ?_)
              refine lv_goto (tgt := 41) hx hb dX8_ways_82 (by decide) ?_
              exact hk41 H locs ls G22 v2 v3 v4 v5 v6_79  hI e22 (lv_sub hl [1, 2, 3, 4, 5, 0] rfl) h
            · replace h := ite_f hc h
              obtain ⟨v5_76, qq, h⟩ := bn_e h
              refine lv_iinc (v := v5_76) (lv' := [(5, .int v5_76), (0, .ref (HB.size + 89)), (2, .int v2), (3, .int v3), (4, .int v4), (6, .int v6)]) hx hb dX8_ways_76 hl (k := 4) rfl (by rw [qq]; rfl) (by decide) rfl (fun ls hl => ?_)
              obtain ⟨v6_79, qq, h⟩ := bn_e h
              refine lv_iinc (v := v6_79) (lv' := [(6, .int v6_79), (5, .int v5_76), (0, .ref (HB.size + 89)), (2, .int v2), (3, .int v3), (4, .int v4)]) hx hb dX8_ways_79 hl (k := 5) rfl (by rw [qq]; rfl) (by decide) rfl (fun ls hl => ?_)
              refine lv_goto (tgt := 41) hx hb dX8_ways_82 (by decide) ?_
              exact hk41 H locs ls G22 v2 v3 v4 v5_76 v6_79  hI e22 (lv_sub hl [2, 3, 4, 5, 1, 0] rfl) h
  show WX RM_X8_ways p l e s m args below meth c HB (some (.int q)) (B_X8_ways HB D y n κ σ q) s.heap [] (F0 m 0 ls [])
  generalize s.heap = H at hI ⊢
  unfold f_X8_ways at h
  obtain ⟨locs, hlocs⟩ : ∃ x : List Loc, x = [] := ⟨_, rfl⟩
  rw [← hlocs] at hI ⊢
  refine lv_aload_n hx hb dX8_ways_0 rfl (lv_at hl 0 rfl) ?_
  obtain ⟨q_1, hq_1, h⟩ := ob_e h
  refine r_callV (As := []) (rest := []) hx hb hml hts hown (c_X8_withOutcomes l HB D y F n κ σ hN  G22 e22 q_1 hq_1) cal_X8_withOutcomes im_X8_withOutcomes se_X8_withOutcomes lm_X8_26 ⟨Nat.le_of_ble_eq_true rfl, Nat.le_of_ble_eq_true rfl⟩ hI.nil hKK (r_recv hKK hI (hE8 HB.size y) rfl (lc89 hN) (kc89 hk0)) rfl hl.1 hI.2.2 rfl (Nat.le_of_ble_eq_true rfl) dX8_ways_1 ⟨Nat.le_of_ble_eq_true rfl, Nat.le_of_ble_eq_true rfl⟩ rfl rfl rfl (fun H locs hB hlo => ?_)
  have hI := hB.re hlo
  refine lv_istore_n (lv' := [(2, .int q_1), (0, .ref (HB.size + 89)), (1, .int v1)]) hx hb dX8_ways_4 rfl hl (by decide) rfl (fun ls hl => ?_)
  refine lv_aload_n hx hb dX8_ways_5 rfl (lv_at hl 1 rfl) ?_
  refine gt_X8_19 hx hb hts hown hKK hI e22 (lc89 hN) (kc89 hk0) dX8_ways_6 ?_
  refine lv_iload_n hx hb dX8_ways_9 rfl (lv_at hl 0 rfl) ?_
  refine lv_iand hx hb dX8_ways_10 ?_
  obtain ⟨q_11, hq_11, h⟩ := ob_e h
  refine r_callS (As := [.int ((G22.1 89 1) &&& q_1)]) (rest := []) hx hb hml hts hown (c_J6_bitCount_0f7a4 l HB D y F n κ σ hN ((G22.1 89 1) &&& q_1)  q_11 hq_11) cal_J6_bitCount_0f7a4 st_J6_bitCount_0f7a4 lm_X8_30 ⟨Nat.le_of_ble_eq_true rfl, Nat.le_of_ble_eq_true rfl⟩ hI.nil hKK rfl hl.1 hI.2.2 rfl (Nat.le_of_ble_eq_true rfl) dX8_ways_11 ⟨Nat.le_of_ble_eq_true rfl, Nat.le_of_ble_eq_true rfl⟩ rfl rfl rfl (fun H locs hB hlo => ?_)
  have hI := hB.re hlo
  refine lv_istore_n (lv' := [(3, .int q_11), (2, .int q_1), (0, .ref (HB.size + 89)), (1, .int v1)]) hx hb dX8_ways_14 rfl hl (by decide) rfl (fun ls hl => ?_)
  refine lv_iload_n hx hb dX8_ways_15 rfl (lv_at hl 3 rfl) ?_
  refine lv_if_eq (tgt := 32) hx hb dX8_ways_16 (by decide) (fun hc => ?_) (fun hc => ?_)
  · replace h := ite_t hc h
    refine lv_iconst (v := 0) hx hb dX8_ways_32 (by decide) ?_
    refine lv_istore (lv' := [(4, .int 0), (3, .int q_11), (2, .int q_1), (0, .ref (HB.size + 89)), (1, .int v1)]) hx hb dX8_ways_33 hl (by decide) rfl (fun ls hl => ?_)
    refine lv_iconst (v := 0) hx hb dX8_ways_35 (by decide) ?_
    refine lv_istore (lv' := [(5, .int 0), (4, .int 0), (3, .int q_11), (2, .int q_1), (0, .ref (HB.size + 89)), (1, .int v1)]) hx hb dX8_ways_36 hl (by decide) rfl (fun ls hl => ?_)
    refine lv_iconst (v := 0) hx hb dX8_ways_38 (by decide) ?_
    refine lv_istore (lv' := [(6, .int 0), (5, .int 0), (4, .int 0), (3, .int q_11), (2, .int q_1), (0, .ref (HB.size + 89)), (1, .int v1)]) hx hb dX8_ways_39 hl (by decide) rfl (fun ls hl => ?_)
    exact b41  F H locs ls G22 q_1 q_11 0 0 0  hI e22 (lv_sub hl [5, 4, 3, 2, 1, 0] rfl) h
  · replace h := ite_f hc h
    refine lv_aload_n hx hb dX8_ways_19 rfl (lv_at hl 2 rfl) ?_
    refine lv_aload_n hx hb dX8_ways_20 rfl (lv_at hl 2 rfl) ?_
    refine gt_X8_19 hx hb hts hown hKK hI e22 (lc89 hN) (kc89 hk0) dX8_ways_21 ?_
    refine lv_iload_n hx hb dX8_ways_24 rfl (lv_at hl 1 rfl) ?_
    refine lv_iand hx hb dX8_ways_25 ?_
    obtain ⟨q_26, hq_26, h⟩ := ob_e h
    refine r_callV (As := [.int ((G22.1 89 1) &&& q_1)]) (rest := []) hx hb hml hts hown (c_X8_sumOf l HB D y F n κ σ hN ((G22.1 89 1) &&& q_1) G22 e22 q_26 hq_26) cal_X8_sumOf im_X8_sumOf se_X8_sumOf lm_X8_36 ⟨Nat.le_of_ble_eq_true rfl, Nat.le_of_ble_eq_true rfl⟩ hI.nil hKK (r_recv hKK hI (hE8 HB.size y) rfl (lc89 hN) (kc89 hk0)) rfl hl.1 hI.2.2 rfl (Nat.le_of_ble_eq_true rfl) dX8_ways_26 ⟨Nat.le_of_ble_eq_true rfl, Nat.le_of_ble_eq_true rfl⟩ rfl rfl rfl (fun H locs hB hlo => ?_)
    have hI := hB.re hlo
    refine lv_goto (tgt := 33) hx hb dX8_ways_29 (by decide) ?_
    refine lv_istore (lv' := [(4, .int q_26), (3, .int q_11), (2, .int q_1), (0, .ref (HB.size + 89)), (1, .int v1)]) hx hb dX8_ways_33 hl (by decide) rfl (fun ls hl => ?_)
    refine lv_iconst (v := 0) hx hb dX8_ways_35 (by decide) ?_
    refine lv_istore (lv' := [(5, .int 0), (4, .int q_26), (3, .int q_11), (2, .int q_1), (0, .ref (HB.size + 89)), (1, .int v1)]) hx hb dX8_ways_36 hl (by decide) rfl (fun ls hl => ?_)
    refine lv_iconst (v := 0) hx hb dX8_ways_38 (by decide) ?_
    refine lv_istore (lv' := [(6, .int 0), (5, .int 0), (4, .int q_26), (3, .int q_11), (2, .int q_1), (0, .ref (HB.size + 89)), (1, .int v1)]) hx hb dX8_ways_39 hl (by decide) rfl (fun ls hl => ?_)
    exact b41  F H locs ls G22 q_1 q_11 q_26 0 0  hI e22 (lv_sub hl [5, 4, 3, 2, 1, 0] rfl) h
noncomputable def f_X9_add (F : Nat) (G16 : Grp) (v1 : Int64) (v3 : Int32) (v4 : Int32) : Option (Int32 × Grp) :=
  if (G16.1 60 0) < 6 then ck (G16.1 60 0) 6 (bn (gJ G16 61 (G16.1 60 0).toNatClampNeg v1) (fun G16_20 => ck (G16_20.1 60 0) 6 (bn (gI G16_20 62 (G16_20.1 60 0).toNatClampNeg v3) (fun G16_30 => ck (G16_30.1 60 0) 6 (bn (gI G16_30 63 (G16_30.1 60 0).toNatClampNeg v4) (fun G16_41 => bn (gI G16_41 60 0 ((G16_41.1 60 0) + 1)) (fun G16_49 => some (((G16_49.1 60 0) - 1), G16_49)))))))) else some ((-1), G16)
def RM_X9_add : Room := { frames := 0, cells := 0, slots := 0, locals := 0 }
abbrev W_X9_add : List Nat := [16]
abbrev B_X9_add (HB : Heap) (D : va_G) (y : Nat → ClassId) (n : Nat) (κ : Nat → Nat) (σ0 : St) (q : Int32 × Grp) : Heap → Prop := fun H => ∃ σ : St, IV HB D y n n κ σ [] H ∧ σ 16 = q.2 ∧ ∀ j, j ∉ W_X9_add → σ j = σ0 j
set_option maxRecDepth 100000 in
set_option maxHeartbeats 4000000 in
theorem c_X9_add (l : Launch) (HB : Heap) (D : va_G) (y : Nat → ClassId) (F n : Nat) (κ : Nat → Nat) (σ0 : St) (hN : N0 ≤ n) (v1 : Int64)  (v3 : Int32)  (v4 : Int32)  (G16 : Grp) (e16 : σ0 16 = G16) (q : Int32 × Grp) (h : f_X9_add F G16 v1 v3 v4 = some q) : MT l HB D y yX9_add cX9_add 5 (some .int) RM_X9_add [.ref (HB.size + 60), .long v1, .int v3, .int v4] (IV HB D y n n κ σ0 []) (some (.int q.1)) (B_X9_add HB D y n κ σ0 q) := by
  refine Met.ofW (cc := cX9_add) (maxL := 5) (ret := (some .int)) (by decide) rfl ?_
  intro p e s m args below meth c s₁ BL hml hv
  obtain ⟨rfl, hI, hKK⟩ := hv
  have hx := BL.exec
  have hb := BL.bytes
  have hr := BL.returns
  have hts : ∀ w ∈ gtb, w.before _ s = true := fun w hw => atoms_spec BL.pre w (List.mem_cons_of_mem _ hw)
  have hml : c.maxLocals = 5 := hml
  have hown : s.vm.findClass RX9 = some m.cls := findClass_of_methodNamed BL.named
  have hlocks := BL.notSynchronized
  have hk0 := hI.1.2.2.2.2
  have hl := lv_entry ([.ref (HB.size + 60), .long v1, .int v3, .int v4]) (n := 5) (Nat.le_of_ble_eq_true rfl)
  rw [lg_entry_eq]
  generalize (lg_sl ([.ref (HB.size + 60), .long v1, .int v3, .int v4]) ++ List.replicate (5 - (lg_sl ([.ref (HB.size + 60), .long v1, .int v3, .int v4])).length) Slot.unset).toArray = ls at hl ⊢
  have hl : lv_has ls 5 [(0, .ref (HB.size + 60)), (1, .long v1), (3, .int v3), (4, .int v4)] := hl
  generalize hargs : ([.ref (HB.size + 60), .long v1, .int v3, .int v4] : List Value).toArray = args at *
  obtain ⟨σ, hI, e16, fr⟩ : ∃ σ : St, IV HB D y n n κ σ [] s.heap ∧ σ 16 = G16 ∧ ∀ j, j ∉ W_X9_add → σ j = σ0 j := ⟨σ0, hI, e16, fun _ _ => rfl⟩
  show WX RM_X9_add p l e s m args below meth c HB (some (.int q.1)) (B_X9_add HB D y n κ σ0 q) s.heap [] (F0 m 0 ls [])
  generalize s.heap = H at hI ⊢
  unfold f_X9_add at h
  obtain ⟨locs, hlocs⟩ : ∃ x : List Loc, x = [] := ⟨_, rfl⟩
  rw [← hlocs] at hI ⊢
  refine lv_aload_n hx hb dX9_add_0 rfl (lv_at hl 0 rfl) ?_
  refine gt_X9_35 hx hb hts hown hKK hI e16 (lc60 hN) (kc60 hk0) dX9_add_1 ?_
  refine lv_bipush (v := 6) hx hb dX9_add_4 (by decide) ?_
  refine lv_icmp_lt (tgt := 11) hx hb dX9_add_6 (by decide) (fun hc => ?_) (fun hc => ?_)
  · replace h := ite_t hc h
    refine lv_aload_n hx hb dX9_add_11 rfl (lv_at hl 0 rfl) ?_
    refine gf_X9_9 hx hb hts hown hKK hI hN dX9_add_12 ?_
    refine lv_aload_n hx hb dX9_add_15 rfl (lv_at hl 0 rfl) ?_
    refine gt_X9_35 hx hb hts hown hKK hI e16 (lc60 hN) (kc60 hk0) dX9_add_16 ?_
    refine lv_lload_n hx hb dX9_add_19 rfl (lv_at hl 1 rfl) ?_
    obtain ⟨hin_, h⟩ := ck_e h
    obtain ⟨G16_20, qq, h⟩ := bn_e h
    refine sa_29 hx hb hKK hI e16 (lc61 hN) (kc61 hk0) hin_ dX9_add_20 (fun σ H locs hI ew ho => ?_)
    have e16 := ew.trans qq.symm
    have fr := frs fr ho (by decide)
    refine lv_aload_n hx hb dX9_add_21 rfl (lv_at hl 0 rfl) ?_
    refine gf_X9_15 hx hb hts hown hKK hI hN dX9_add_22 ?_
    refine lv_aload_n hx hb dX9_add_25 rfl (lv_at hl 0 rfl) ?_
    refine gt_X9_35 hx hb hts hown hKK hI e16 (lc60 hN) (kc60 hk0) dX9_add_26 ?_
    refine lv_iload_n hx hb dX9_add_29 rfl (lv_at hl 2 rfl) ?_
    obtain ⟨hin_, h⟩ := ck_e h
    obtain ⟨G16_30, qq, h⟩ := bn_e h
    refine sa_30 hx hb hKK hI e16 (lc62 hN) (kc62 hk0) hin_ dX9_add_30 (fun σ H locs hI ew ho => ?_)
    have e16 := ew.trans qq.symm
    have fr := frs fr ho (by decide)
    refine lv_aload_n hx hb dX9_add_31 rfl (lv_at hl 0 rfl) ?_
    refine gf_X9_19 hx hb hts hown hKK hI hN dX9_add_32 ?_
    refine lv_aload_n hx hb dX9_add_35 rfl (lv_at hl 0 rfl) ?_
    refine gt_X9_35 hx hb hts hown hKK hI e16 (lc60 hN) (kc60 hk0) dX9_add_36 ?_
    refine lv_iload hx hb dX9_add_39 (lv_at hl 3 rfl) ?_
    obtain ⟨hin_, h⟩ := ck_e h
    obtain ⟨G16_41, qq, h⟩ := bn_e h
    refine sa_30 hx hb hKK hI e16 (lc63 hN) (kc63 hk0) hin_ dX9_add_41 (fun σ H locs hI ew ho => ?_)
    have e16 := ew.trans qq.symm
    have fr := frs fr ho (by decide)
    refine lv_aload_n hx hb dX9_add_42 rfl (lv_at hl 0 rfl) ?_
    refine lv_dup hx hb dX9_add_43 rfl ?_
    refine gt_X9_35 hx hb hts hown hKK hI e16 (lc60 hN) (kc60 hk0) dX9_add_44 ?_
    refine lv_iconst (v := 1) hx hb dX9_add_47 (by decide) ?_
    refine lv_iadd hx hb dX9_add_48 ?_
    obtain ⟨G16_49, qq, h⟩ := bn_e h
    refine pt_X9_35 hx hb hts hown hKK hI e16 (lc60 hN) (kc60 hk0) dX9_add_49 (fun σ H locs hI ew ho => ?_)
    have e16 := ew.trans qq.symm
    have fr := frs fr ho (by decide)
    refine lv_aload_n hx hb dX9_add_52 rfl (lv_at hl 0 rfl) ?_
    refine gt_X9_35 hx hb hts hown hKK hI e16 (lc60 hN) (kc60 hk0) dX9_add_53 ?_
    refine lv_iconst (v := 1) hx hb dX9_add_56 (by decide) ?_
    refine lv_isub hx hb dX9_add_57 ?_
    have hq := Option.some.inj h
    exact W.iret (v := ((G16_49.1 60 0) - 1)) hx hb hr (fun t ht hW => qc_mk (congrArg (fun z => Outcome.returned (some (Value.int z.1))) hq) (by rw [ht]; exact ⟨σ, hI.nil, e16.trans (congrArg (fun z => z.2) hq), fr⟩)) hI.2.2 dX9_add_58 hlocks
  · replace h := ite_f hc h
    refine lv_iconst (v := (-1)) hx hb dX9_add_9 (by decide) ?_
    have hq := Option.some.inj h
    exact W.iret (v := (-1)) hx hb hr (fun t ht hW => qc_mk (congrArg (fun z => Outcome.returned (some (Value.int z.1))) hq) (by rw [ht]; exact ⟨σ, hI.nil, e16.trans (congrArg (fun z => z.2) hq), fr⟩)) hI.2.2 dX9_add_10 hlocks
