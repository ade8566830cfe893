noncomputable def f_X3_addVillage (F : Nat) (G6 : Grp) (v1 : Int32) (v2 : Int32) : Option (Int32 × Grp) :=
  if (G6.1 32 0) < 6 then ck (G6.1 32 0) 6 (bn (gI G6 33 (G6.1 32 0).toNatClampNeg v1) (fun G6_20 => ck (G6_20.1 32 0) 6 (bn (gI G6_20 34 (G6_20.1 32 0).toNatClampNeg v2) (fun G6_30 => bn (gI G6_30 32 0 ((G6_30.1 32 0) + 1)) (fun G6_38 => some (((G6_38.1 32 0) - 1), G6_38)))))) else some ((-1), G6)
def RM_X3_addVillage : Room := { frames := 0, cells := 0, slots := 0, locals := 0 }
abbrev W_X3_addVillage : List Nat := [6]
abbrev B_X3_addVillage (HB : Heap) (D : va_G) (y : Nat → ClassId) (n : Nat) (κ : Nat → Nat) (σ0 : St) (q : Int32 × Grp) : Heap → Prop := fun H => ∃ σ : St, IV HB D y n n κ σ [] H ∧ σ 6 = q.2 ∧ ∀ j, j ∉ W_X3_addVillage → σ j = σ0 j
set_option maxRecDepth 100000 in
set_option maxHeartbeats 4000000 in
theorem c_X3_addVillage (l : Launch) (HB : Heap) (D : va_G) (y : Nat → ClassId) (F n : Nat) (κ : Nat → Nat) (σ0 : St) (hN : N0 ≤ n) (v1 : Int32)  (v2 : Int32)  (G6 : Grp) (e6 : σ0 6 = G6) (q : Int32 × Grp) (h : f_X3_addVillage F G6 v1 v2 = some q) : MT l HB D y yX3_addVillage cX3_addVillage 3 (some .int) RM_X3_addVillage [.ref (HB.size + 32), .int v1, .int v2] (IV HB D y n n κ σ0 []) (some (.int q.1)) (B_X3_addVillage HB D y n κ σ0 q) := by
  refine Met.ofW (cc := cX3_addVillage) (maxL := 3) (ret := (some .int)) (by decide) rfl ?_
  intro p e s m args below meth c s₁ BL hml hv
  obtain ⟨rfl, hI, hKK⟩ := hv
  have hx := BL.exec
  have hb := BL.bytes
  have hr := BL.returns
  have hts : ∀ w ∈ gtb, w.before _ s = true := fun w hw => atoms_spec BL.pre w (List.mem_cons_of_mem _ hw)
  have hml : c.maxLocals = 3 := hml
  have hown : s.vm.findClass RX3 = some m.cls := findClass_of_methodNamed BL.named
  have hlocks := BL.notSynchronized
  have hk0 := hI.1.2.2.2.2
  have hl := lv_entry ([.ref (HB.size + 32), .int v1, .int v2]) (n := 3) (Nat.le_of_ble_eq_true rfl)
  rw [lg_entry_eq]
  generalize (lg_sl ([.ref (HB.size + 32), .int v1, .int v2]) ++ List.replicate (3 - (lg_sl ([.ref (HB.size + 32), .int v1, .int v2])).length) Slot.unset).toArray = ls at hl ⊢
  have hl : lv_has ls 3 [(0, .ref (HB.size + 32)), (1, .int v1), (2, .int v2)] := hl
  generalize hargs : ([.ref (HB.size + 32), .int v1, .int v2] : List Value).toArray = args at *
  obtain ⟨σ, hI, e6, fr⟩ : ∃ σ : St, IV HB D y n n κ σ [] s.heap ∧ σ 6 = G6 ∧ ∀ j, j ∉ W_X3_addVillage → σ j = σ0 j := ⟨σ0, hI, e6, fun _ _ => rfl⟩
  show WX RM_X3_addVillage p l e s m args below meth c HB (some (.int q.1)) (B_X3_addVillage HB D y n κ σ0 q) s.heap [] (F0 m 0 ls [])
  generalize s.heap = H at hI ⊢
  unfold f_X3_addVillage at h
  obtain ⟨locs, hlocs⟩ : ∃ x : List Loc, x = [] := ⟨_, rfl⟩
  rw [← hlocs] at hI ⊢
  refine lv_aload_n hx hb dX3_addVillage_0 rfl (lv_at hl 0 rfl) ?_
  refine gt_X3_48 hx hb hts hown hKK hI e6 (lc32 hN) (kc32 hk0) dX3_addVillage_1 ?_
  refine lv_bipush (v := 6) hx hb dX3_addVillage_4 (by decide) ?_
  refine lv_icmp_lt (tgt := 11) hx hb dX3_addVillage_6 (by decide) (fun hc => ?_) (fun hc => ?_)
  · replace h := ite_t hc h
    refine lv_aload_n hx hb dX3_addVillage_11 rfl (lv_at hl 0 rfl) ?_
    refine gf_X3_9 hx hb hts hown hKK hI hN dX3_addVillage_12 ?_
    refine lv_aload_n hx hb dX3_addVillage_15 rfl (lv_at hl 0 rfl) ?_
    refine gt_X3_48 hx hb hts hown hKK hI e6 (lc32 hN) (kc32 hk0) dX3_addVillage_16 ?_
    refine lv_iload_n hx hb dX3_addVillage_19 rfl (lv_at hl 1 rfl) ?_
    obtain ⟨hin_, h⟩ := ck_e h
    obtain ⟨G6_20, qq, h⟩ := bn_e h
    refine sa_20 hx hb hKK hI e6 (lc33 hN) (kc33 hk0) hin_ dX3_addVillage_20 (fun σ H locs hI ew ho => ?_)
    have e6 := ew.trans qq.symm
    have fr := frs fr ho (by decide)
    refine lv_aload_n hx hb dX3_addVillage_21 rfl (lv_at hl 0 rfl) ?_
    refine gf_X3_15 hx hb hts hown hKK hI hN dX3_addVillage_22 ?_
    refine lv_aload_n hx hb dX3_addVillage_25 rfl (lv_at hl 0 rfl) ?_
    refine gt_X3_48 hx hb hts hown hKK hI e6 (lc32 hN) (kc32 hk0) dX3_addVillage_26 ?_
    refine lv_iload_n hx hb dX3_addVillage_29 rfl (lv_at hl 2 rfl) ?_
    obtain ⟨hin_, h⟩ := ck_e h
    obtain ⟨G6_30, qq, h⟩ := bn_e h
    refine sa_20 hx hb hKK hI e6 (lc34 hN) (kc34 hk0) hin_ dX3_addVillage_30 (fun σ H locs hI ew ho => ?_)
    have e6 := ew.trans qq.symm
    have fr := frs fr ho (by decide)
    refine lv_aload_n hx hb dX3_addVillage_31 rfl (lv_at hl 0 rfl) ?_
    refine lv_dup hx hb dX3_addVillage_32 rfl ?_
    refine gt_X3_48 hx hb hts hown hKK hI e6 (lc32 hN) (kc32 hk0) dX3_addVillage_33 ?_
    refine lv_iconst (v := 1) hx hb dX3_addVillage_36 (by decide) ?_
    refine lv_iadd hx hb dX3_addVillage_37 ?_
    obtain ⟨G6_38, qq, h⟩ := bn_e h
    refine pt_X3_48 hx hb hts hown hKK hI e6 (lc32 hN) (kc32 hk0) dX3_addVillage_38 (fun σ H locs hI ew ho => ?_)
    have e6 := ew.trans qq.symm
    have fr := frs fr ho (by decide)
    refine lv_aload_n hx hb dX3_addVillage_41 rfl (lv_at hl 0 rfl) ?_
    refine gt_X3_48 hx hb hts hown hKK hI e6 (lc32 hN) (kc32 hk0) dX3_addVillage_42 ?_
    refine lv_iconst (v := 1) hx hb dX3_addVillage_45 (by decide) ?_
    refine lv_isub hx hb dX3_addVillage_46 ?_
    have hq := Option.some.inj h
    exact W.iret (v := ((G6_38.1 32 0) - 1)) hx hb hr (fun t ht hW => qc_mk (congrArg (fun z => Outcome.returned (some (Value.int z.1))) hq) (by rw [ht]; exact ⟨σ, hI.nil, e6.trans (congrArg (fun z => z.2) hq), fr⟩)) hI.2.2 dX3_addVillage_47 hlocks
  · replace h := ite_f hc h
    refine lv_iconst (v := (-1)) hx hb dX3_addVillage_9 (by decide) ?_
    have hq := Option.some.inj h
    exact W.iret (v := (-1)) hx hb hr (fun t ht hW => qc_mk (congrArg (fun z => Outcome.returned (some (Value.int z.1))) hq) (by rw [ht]; exact ⟨σ, hI.nil, e6.trans (congrArg (fun z => z.2) hq), fr⟩)) hI.2.2 dX3_addVillage_10 hlocks
noncomputable def f_X3_addGiver (F : Nat) (G6 : Grp) (v1 : Int32) : Option (Int32 × Grp) :=
  if (G6.1 32 3) < 16 then ck (G6.1 32 3) 16 (bn (gI G6 35 (G6.1 32 3).toNatClampNeg v1) (fun G6_20 => bn (gI G6_20 32 3 ((G6_20.1 32 3) + 1)) (fun G6_28 => some (((G6_28.1 32 3) - 1), G6_28)))) else some ((-1), G6)
def RM_X3_addGiver : Room := { frames := 0, cells := 0, slots := 0, locals := 0 }
abbrev W_X3_addGiver : List Nat := [6]
abbrev B_X3_addGiver (HB : Heap) (D : va_G) (y : Nat → ClassId) (n : Nat) (κ : Nat → Nat) (σ0 : St) (q : Int32 × Grp) : Heap → Prop := fun H => ∃ σ : St, IV HB D y n n κ σ [] H ∧ σ 6 = q.2 ∧ ∀ j, j ∉ W_X3_addGiver → σ j = σ0 j
set_option maxRecDepth 100000 in
set_option maxHeartbeats 4000000 in
theorem c_X3_addGiver (l : Launch) (HB : Heap) (D : va_G) (y : Nat → ClassId) (F n : Nat) (κ : Nat → Nat) (σ0 : St) (hN : N0 ≤ n) (v1 : Int32)  (G6 : Grp) (e6 : σ0 6 = G6) (q : Int32 × Grp) (h : f_X3_addGiver F G6 v1 = some q) : MT l HB D y yX3_addGiver cX3_addGiver 2 (some .int) RM_X3_addGiver [.ref (HB.size + 32), .int v1] (IV HB D y n n κ σ0 []) (some (.int q.1)) (B_X3_addGiver HB D y n κ σ0 q) := by
  refine Met.ofW (cc := cX3_addGiver) (maxL := 2) (ret := (some .int)) (by decide) rfl ?_
  intro p e s m args below meth c s₁ BL hml hv
  obtain ⟨rfl, hI, hKK⟩ := hv
  have hx := BL.exec
  have hb := BL.bytes
  have hr := BL.returns
  have hts : ∀ w ∈ gtb, w.before _ s = true := fun w hw => atoms_spec BL.pre w (List.mem_cons_of_mem _ hw)
  have hml : c.maxLocals = 2 := hml
  have hown : s.vm.findClass RX3 = some m.cls := findClass_of_methodNamed BL.named
  have hlocks := BL.notSynchronized
  have hk0 := hI.1.2.2.2.2
  have hl := lv_entry ([.ref (HB.size + 32), .int v1]) (n := 2) (Nat.le_of_ble_eq_true rfl)
  rw [lg_entry_eq]
  generalize (lg_sl ([.ref (HB.size + 32), .int v1]) ++ List.replicate (2 - (lg_sl ([.ref (HB.size + 32), .int v1])).length) Slot.unset).toArray = ls at hl ⊢
  have hl : lv_has ls 2 [(0, .ref (HB.size + 32)), (1, .int v1)] := hl
  generalize hargs : ([.ref (HB.size + 32), .int v1] : List Value).toArray = args at *
  obtain ⟨σ, hI, e6, fr⟩ : ∃ σ : St, IV HB D y n n κ σ [] s.heap ∧ σ 6 = G6 ∧ ∀ j, j ∉ W_X3_addGiver → σ j = σ0 j := ⟨σ0, hI, e6, fun _ _ => rfl⟩
  show WX RM_X3_addGiver p l e s m args below meth c HB (some (.int q.1)) (B_X3_addGiver HB D y n κ σ0 q) s.heap [] (F0 m 0 ls [])
  generalize s.heap = H at hI ⊢
  unfold f_X3_addGiver at h
  obtain ⟨locs, hlocs⟩ : ∃ x : List Loc, x = [] := ⟨_, rfl⟩
  rw [← hlocs] at hI ⊢
  refine lv_aload_n hx hb dX3_addGiver_0 rfl (lv_at hl 0 rfl) ?_
  refine gt_X3_56 hx hb hts hown hKK hI e6 (lc32 hN) (kc32 hk0) dX3_addGiver_1 ?_
  refine lv_bipush (v := 16) hx hb dX3_addGiver_4 (by decide) ?_
  refine lv_icmp_lt (tgt := 11) hx hb dX3_addGiver_6 (by decide) (fun hc => ?_) (fun hc => ?_)
  · replace h := ite_t hc h
    refine lv_aload_n hx hb dX3_addGiver_11 rfl (lv_at hl 0 rfl) ?_
    refine gf_X3_18 hx hb hts hown hKK hI hN dX3_addGiver_12 ?_
    refine lv_aload_n hx hb dX3_addGiver_15 rfl (lv_at hl 0 rfl) ?_
    refine gt_X3_56 hx hb hts hown hKK hI e6 (lc32 hN) (kc32 hk0) dX3_addGiver_16 ?_
    refine lv_iload_n hx hb dX3_addGiver_19 rfl (lv_at hl 1 rfl) ?_
    obtain ⟨hin_, h⟩ := ck_e h
    obtain ⟨G6_20, qq, h⟩ := bn_e h
    refine sa_21 hx hb hKK hI e6 (lc35 hN) (kc35 hk0) hin_ dX3_addGiver_20 (fun σ H locs hI ew ho => ?_)
    have e6 := ew.trans qq.symm
    have fr := frs fr ho (by decide)
    refine lv_aload_n hx hb dX3_addGiver_21 rfl (lv_at hl 0 rfl) ?_
    refine lv_dup hx hb dX3_addGiver_22 rfl ?_
    refine gt_X3_56 hx hb hts hown hKK hI e6 (lc32 hN) (kc32 hk0) dX3_addGiver_23 ?_
    refine lv_iconst (v := 1) hx hb dX3_addGiver_26 (by decide) ?_
    refine lv_iadd hx hb dX3_addGiver_27 ?_
    obtain ⟨G6_28, qq, h⟩ := bn_e h
    refine pt_X3_56 hx hb hts hown hKK hI e6 (lc32 hN) (kc32 hk0) dX3_addGiver_28 (fun σ H locs hI ew ho => ?_)
    have e6 := ew.trans qq.symm
    have fr := frs fr ho (by decide)
    refine lv_aload_n hx hb dX3_addGiver_31 rfl (lv_at hl 0 rfl) ?_
    refine gt_X3_56 hx hb hts hown hKK hI e6 (lc32 hN) (kc32 hk0) dX3_addGiver_32 ?_
    refine lv_iconst (v := 1) hx hb dX3_addGiver_35 (by decide) ?_
    refine lv_isub hx hb dX3_addGiver_36 ?_
    have hq := Option.some.inj h
    exact W.iret (v := ((G6_28.1 32 3) - 1)) hx hb hr (fun t ht hW => qc_mk (congrArg (fun z => Outcome.returned (some (Value.int z.1))) hq) (by rw [ht]; exact ⟨σ, hI.nil, e6.trans (congrArg (fun z => z.2) hq), fr⟩)) hI.2.2 dX3_addGiver_37 hlocks
  · replace h := ite_f hc h
    refine lv_iconst (v := (-1)) hx hb dX3_addGiver_9 (by decide) ?_
    have hq := Option.some.inj h
    exact W.iret (v := (-1)) hx hb hr (fun t ht hW => qc_mk (congrArg (fun z => Outcome.returned (some (Value.int z.1))) hq) (by rw [ht]; exact ⟨σ, hI.nil, e6.trans (congrArg (fun z => z.2) hq), fr⟩)) hI.2.2 dX3_addGiver_10 hlocks
noncomputable def f_X3_addChild (F : Nat) (G6 : Grp) (v1 : Int32) (v2 : Int32) (v3 : Int32) (v4 : Int32) : Option (Int32 × Grp) :=
  if (G6.1 32 5) < 16 then ck (G6.1 32 5) 16 (bn (gI G6 36 (G6.1 32 5).toNatClampNeg v1) (fun G6_20 => ck (G6_20.1 32 5) 16 (bn (gI G6_20 37 (G6_20.1 32 5).toNatClampNeg v2) (fun G6_30 => ck (G6_30.1 32 5) 16 (bn (gI G6_30 38 (G6_30.1 32 5).toNatClampNeg v3) (fun G6_40 => ck (G6_40.1 32 5) 16 (bn (gI G6_40 39 (G6_40.1 32 5).toNatClampNeg v4) (fun G6_51 => bn (gI G6_51 32 5 ((G6_51.1 32 5) + 1)) (fun G6_59 => some (((G6_59.1 32 5) - 1), G6_59)))))))))) else some ((-1), G6)
def RM_X3_addChild : Room := { frames := 0, cells := 0, slots := 0, locals := 0 }
abbrev W_X3_addChild : List Nat := [6]
abbrev B_X3_addChild (HB : Heap) (D : va_G) (y : Nat → ClassId) (n : Nat) (κ : Nat → Nat) (σ0 : St) (q : Int32 × Grp) : Heap → Prop := fun H => ∃ σ : St, IV HB D y n n κ σ [] H ∧ σ 6 = q.2 ∧ ∀ j, j ∉ W_X3_addChild → σ j = σ0 j
set_option maxRecDepth 100000 in
set_option maxHeartbeats 4000000 in
theorem c_X3_addChild (l : Launch) (HB : Heap) (D : va_G) (y : Nat → ClassId) (F n : Nat) (κ : Nat → Nat) (σ0 : St) (hN : N0 ≤ n) (v1 : Int32)  (v2 : Int32)  (v3 : Int32)  (v4 : Int32)  (G6 : Grp) (e6 : σ0 6 = G6) (q : Int32 × Grp) (h : f_X3_addChild F G6 v1 v2 v3 v4 = some q) : MT l HB D y yX3_addChild cX3_addChild 5 (some .int) RM_X3_addChild [.ref (HB.size + 32), .int v1, .int v2, .int v3, .int v4] (IV HB D y n n κ σ0 []) (some (.int q.1)) (B_X3_addChild HB D y n κ σ0 q) := by
  refine Met.ofW (cc := cX3_addChild) (maxL := 5) (ret := (some .int)) (by decide) rfl ?_
  intro p e s m args below meth c s₁ BL hml hv
  obtain ⟨rfl, hI, hKK⟩ := hv
  have hx := BL.exec
  have hb := BL.bytes
  have hr := BL.returns
  have hts : ∀ w ∈ gtb, w.before _ s = true := fun w hw => atoms_spec BL.pre w (List.mem_cons_of_mem _ hw)
  have hml : c.maxLocals = 5 := hml
  have hown : s.vm.findClass RX3 = some m.cls := findClass_of_methodNamed BL.named
  have hlocks := BL.notSynchronized
  have hk0 := hI.1.2.2.2.2
  have hl := lv_entry ([.ref (HB.size + 32), .int v1, .int v2, .int v3, .int v4]) (n := 5) (Nat.le_of_ble_eq_true rfl)
  rw [lg_entry_eq]
  generalize (lg_sl ([.ref (HB.size + 32), .int v1, .int v2, .int v3, .int v4]) ++ List.replicate (5 - (lg_sl ([.ref (HB.size + 32), .int v1, .int v2, .int v3, .int v4])).length) Slot.unset).toArray = ls at hl ⊢
  have hl : lv_has ls 5 [(0, .ref (HB.size + 32)), (1, .int v1), (2, .int v2), (3, .int v3), (4, .int v4)] := hl
  generalize hargs : ([.ref (HB.size + 32), .int v1, .int v2, .int v3, .int v4] : List Value).toArray = args at *
  obtain ⟨σ, hI, e6, fr⟩ : ∃ σ : St, IV HB D y n n κ σ [] s.heap ∧ σ 6 = G6 ∧ ∀ j, j ∉ W_X3_addChild → σ j = σ0 j := ⟨σ0, hI, e6, fun _ _ => rfl⟩
  show WX RM_X3_addChild p l e s m args below meth c HB (some (.int q.1)) (B_X3_addChild HB D y n κ σ0 q) s.heap [] (F0 m 0 ls [])
  generalize s.heap = H at hI ⊢
  unfold f_X3_addChild at h
  obtain ⟨locs, hlocs⟩ : ∃ x : List Loc, x = [] := ⟨_, rfl⟩
  rw [← hlocs] at hI ⊢
  refine lv_aload_n hx hb dX3_addChild_0 rfl (lv_at hl 0 rfl) ?_
  refine gt_X3_59 hx hb hts hown hKK hI e6 (lc32 hN) (kc32 hk0) dX3_addChild_1 ?_
  refine lv_bipush (v := 16) hx hb dX3_addChild_4 (by decide) ?_
  refine lv_icmp_lt (tgt := 11) hx hb dX3_addChild_6 (by decide) (fun hc => ?_) (fun hc => ?_)
  · replace h := ite_t hc h
    refine lv_aload_n hx hb dX3_addChild_11 rfl (lv_at hl 0 rfl) ?_
    refine gf_X3_21 hx hb hts hown hKK hI hN dX3_addChild_12 ?_
    refine lv_aload_n hx hb dX3_addChild_15 rfl (lv_at hl 0 rfl) ?_
    refine gt_X3_59 hx hb hts hown hKK hI e6 (lc32 hN) (kc32 hk0) dX3_addChild_16 ?_
    refine lv_iload_n hx hb dX3_addChild_19 rfl (lv_at hl 1 rfl) ?_
    obtain ⟨hin_, h⟩ := ck_e h
    obtain ⟨G6_20, qq, h⟩ := bn_e h
    refine sa_21 hx hb hKK hI e6 (lc36 hN) (kc36 hk0) hin_ dX3_addChild_20 (fun σ H locs hI ew ho => ?_)
    have e6 := ew.trans qq.symm
    have fr := frs fr ho (by decide)
    refine lv_aload_n hx hb dX3_addChild_21 rfl (lv_at hl 0 rfl) ?_
    refine gf_X3_24 hx hb hts hown hKK hI hN dX3_addChild_22 ?_
    refine lv_aload_n hx hb dX3_addChild_25 rfl (lv_at hl 0 rfl) ?_
    refine gt_X3_59 hx hb hts hown hKK hI e6 (lc32 hN) (kc32 hk0) dX3_addChild_26 ?_
    refine lv_iload_n hx hb dX3_addChild_29 rfl (lv_at hl 2 rfl) ?_
    obtain ⟨hin_, h⟩ := ck_e h
    obtain ⟨G6_30, qq, h⟩ := bn_e h
    refine sa_21 hx hb hKK hI e6 (lc37 hN) (kc37 hk0) hin_ dX3_addChild_30 (fun σ H locs hI ew ho => ?_)
    have e6 := ew.trans qq.symm
    have fr := frs fr ho (by decide)
    refine lv_aload_n hx hb dX3_addChild_31 rfl (lv_at hl 0 rfl) ?_
    refine gf_X3_27 hx hb hts hown hKK hI hN dX3_addChild_32 ?_
    refine lv_aload_n hx hb dX3_addChild_35 rfl (lv_at hl 0 rfl) ?_
    refine gt_X3_59 hx hb hts hown hKK hI e6 (lc32 hN) (kc32 hk0) dX3_addChild_36 ?_
    refine lv_iload_n hx hb dX3_addChild_39 rfl (lv_at hl 3 rfl) ?_
    obtain ⟨hin_, h⟩ := ck_e h
    obtain ⟨G6_40, qq, h⟩ := bn_e h
    refine sa_21 hx hb hKK hI e6 (lc38 hN) (kc38 hk0) hin_ dX3_addChild_40 (fun σ H locs hI ew ho => ?_)
    have e6 := ew.trans qq.symm
    have fr := frs fr ho (by decide)
    refine lv_aload_n hx hb dX3_addChild_41 rfl (lv_at hl 0 rfl) ?_
    refine gf_X3_30 hx hb hts hown hKK hI hN dX3_addChild_42 ?_
    refine lv_aload_n hx hb dX3_addChild_45 rfl (lv_at hl 0 rfl) ?_
    refine gt_X3_59 hx hb hts hown hKK hI e6 (lc32 hN) (kc32 hk0) dX3_addChild_46 ?_
    refine lv_iload hx hb dX3_addChild_49 (lv_at hl 4 rfl) ?_
    obtain ⟨hin_, h⟩ := ck_e h
    obtain ⟨G6_51, qq, h⟩ := bn_e h
    refine sa_21 hx hb hKK hI e6 (lc39 hN) (kc39 hk0) hin_ dX3_addChild_51 (fun σ H locs hI ew ho => ?_)
    have e6 := ew.trans qq.symm
    have fr := frs fr ho (by decide)
    refine lv_aload_n hx hb dX3_addChild_52 rfl (lv_at hl 0 rfl) ?_
    refine lv_dup hx hb dX3_addChild_53 rfl ?_
    refine gt_X3_59 hx hb hts hown hKK hI e6 (lc32 hN) (kc32 hk0) dX3_addChild_54 ?_
    refine lv_iconst (v := 1) hx hb dX3_addChild_57 (by decide) ?_
    refine lv_iadd hx hb dX3_addChild_58 ?_
    obtain ⟨G6_59, qq, h⟩ := bn_e h
    refine pt_X3_59 hx hb hts hown hKK hI e6 (lc32 hN) (kc32 hk0) dX3_addChild_59 (fun σ H locs hI ew ho => ?_)
    have e6 := ew.trans qq.symm
    have fr := frs fr ho (by decide)
    refine lv_aload_n hx hb dX3_addChild_62 rfl (lv_at hl 0 rfl) ?_
    refine gt_X3_59 hx hb hts hown hKK hI e6 (lc32 hN) (kc32 hk0) dX3_addChild_63 ?_
    refine lv_iconst (v := 1) hx hb dX3_addChild_66 (by decide) ?_
    refine lv_isub hx hb dX3_addChild_67 ?_
    have hq := Option.some.inj h
    exact W.iret (v := ((G6_59.1 32 5) - 1)) hx hb hr (fun t ht hW => qc_mk (congrArg (fun z => Outcome.returned (some (Value.int z.1))) hq) (by rw [ht]; exact ⟨σ, hI.nil, e6.trans (congrArg (fun z => z.2) hq), fr⟩)) hI.2.2 dX3_addChild_68 hlocks
  · replace h := ite_f hc h
    refine lv_iconst (v := (-1)) hx hb dX3_addChild_9 (by decide) ?_
    have hq := Option.some.inj h
    exact W.iret (v := (-1)) hx hb hr (fun t ht hW => qc_mk (congrArg (fun z => Outcome.returned (some (Value.int z.1))) hq) (by rw [ht]; exact ⟨σ, hI.nil, e6.trans (congrArg (fun z => z.2) hq), fr⟩)) hI.2.2 dX3_addChild_10 hlocks
noncomputable def f_X3_pairAt_b24 (F : Nat)  (G7 : Grp) (s0 : Option Nat) : Option (Option Nat) :=
  some s0
noncomputable def f_X3_pairAt (F : Nat) (G7 : Grp) (v1 : Int32) : Option (Option Nat) :=
  ob (f_X11_within F v1 0 ((G7.1 32 10) - 1)) (fun q_8 => if q_8 = 0 then f_X3_pairAt_b24 F  G7 none else ck v1 40 (om (G7.2.2 40 v1.toNatClampNeg) (f_X3_pairAt_b24 F  G7 none) (fun t_19 => f_X3_pairAt_b24 F  G7 (some t_19))))
def RM_X3_pairAt : Room := { frames := 1, cells := 0, slots := 0, locals := 22 }
abbrev B_X3_pairAt (HB : Heap) (D : va_G) (y : Nat → ClassId) (n : Nat) (κ : Nat → Nat) (σ : St) (q : Option Nat) : Heap → Prop := fun H => (IV HB D y n n κ σ [] H) ∧ ∀ t : Nat, q = some t → t < n ∧ κ t = 5
set_option maxRecDepth 100000 in
set_option maxHeartbeats 4000000 in
theorem c_X3_pairAt (l : Launch) (HB : Heap) (D : va_G) (y : Nat → ClassId) (F n : Nat) (κ : Nat → Nat) (σ : St) (hN : N0 ≤ n) (v1 : Int32)  (G7 : Grp) (e7 : σ 7 = G7) (q : Option Nat) (h : f_X3_pairAt F G7 v1 = some q) : MT l HB D y yX3_pairAt cX3_pairAt 2 (some (.object "ChildLetters$Pair")) RM_X3_pairAt [.ref (HB.size + 32), .int v1] (IV HB D y n n κ σ []) (some (rfv HB.size q)) (B_X3_pairAt HB D y n κ σ q) := by
  refine Met.ofW (cc := cX3_pairAt) (maxL := 2) (ret := (some (.object "ChildLetters$Pair"))) (by decide) rfl ?_
  intro p e s m args below meth c s₁ BL hml hv
  obtain ⟨rfl, hI, hKK⟩ := hv
  have hx := BL.exec
  have hb := BL.bytes
  have hr := BL.returns
  have hts : ∀ w ∈ gtb, w.before _ s = true := fun w hw => atoms_spec BL.pre w (List.mem_cons_of_mem _ hw)
  have hml : c.maxLocals = 2 := hml
  have hown : s.vm.findClass RX3 = some m.cls := findClass_of_methodNamed BL.named
  have hlocks := BL.notSynchronized
  have hk0 := hI.1.2.2.2.2
  have hl := lv_entry ([.ref (HB.size + 32), .int v1]) (n := 2) (Nat.le_of_ble_eq_true rfl)
  rw [lg_entry_eq]
  generalize (lg_sl ([.ref (HB.size + 32), .int v1]) ++ List.replicate (2 - (lg_sl ([.ref (HB.size + 32), .int v1])).length) Slot.unset).toArray = ls at hl ⊢
  have hl : lv_has ls 2 [(0, .ref (HB.size + 32)), (1, .int v1)] := hl
  generalize hargs : ([.ref (HB.size + 32), .int v1] : List Value).toArray = args at *
  have b24 : ∀ (H : Heap) (locs : List Loc) (ls : Array Slot) (G7 : Grp) (s0 : Option Nat) (hf_s0 : ∀ t : Nat, s0 = some t → t < n ∧ κ t = 5), IV HB D y n n κ σ locs H → σ 7 = G7 → lv_has ls 2 [] → f_X3_pairAt_b24 F  G7 s0 = some q → WX RM_X3_pairAt p l e s m args below meth c HB (some (rfv HB.size q)) (B_X3_pairAt HB D y n κ σ q) H locs (F0 m 24 ls [rfv HB.size s0]) := by
    intro  H locs ls G7 s0 hf_s0 hI e7 hl h
    unfold f_X3_pairAt_b24 at h
    have hq := Option.some.inj h
    exact W.aret (v := rfv HB.size s0) hx hb hr (Or.inl ⟨_, rfl⟩) (rfv_or _ _) (fun t ht hW => qc_mk (congrArg (fun z => Outcome.returned (some (rfv HB.size z))) hq) (by rw [ht]; exact ⟨hI.nil, (fun t q => hf_s0 t (hq.trans q))⟩)) hI.2.2 dX3_pairAt_24 hlocks
  show WX RM_X3_pairAt p l e s m args below meth c HB (some (rfv HB.size q)) (B_X3_pairAt HB D y n κ σ q) s.heap [] (F0 m 0 ls [])
  generalize s.heap = H at hI ⊢
  unfold f_X3_pairAt at h
  obtain ⟨locs, hlocs⟩ : ∃ x : List Loc, x = [] := ⟨_, rfl⟩
  rw [← hlocs] at hI ⊢
  refine lv_iload_n hx hb dX3_pairAt_0 rfl (lv_at hl 1 rfl) ?_
  refine lv_iconst (v := 0) hx hb dX3_pairAt_1 (by decide) ?_
  refine lv_aload_n hx hb dX3_pairAt_2 rfl (lv_at hl 0 rfl) ?_
  refine gt_X3_62 hx hb hts hown hKK hI e7 (lc32 hN) (kc32 hk0) dX3_pairAt_3 ?_
  refine lv_iconst (v := 1) hx hb dX3_pairAt_6 (by decide) ?_
  refine lv_isub hx hb dX3_pairAt_7 ?_
  obtain ⟨q_8, hq_8, h⟩ := ob_e h
  refine r_callSN (As := [.int v1, .int 0, .int ((G7.1 32 10) - 1)]) (rest := []) hx hb hml hts hown (c_X11_within l HB D y F n κ σ hN v1 0 ((G7.1 32 10) - 1)  q_8 hq_8) cal_X11_within st_X11_within (hKK.2.1 _ (List.mem_of_getElem? (i := 9) rfl)) ⟨Nat.le_of_ble_eq_true rfl, Nat.le_of_ble_eq_true rfl⟩ hI.nil hKK rfl hl.1 hI.2.2 rfl (Nat.le_of_ble_eq_true rfl) dX3_pairAt_8 ⟨Nat.le_of_ble_eq_true rfl, Nat.le_of_ble_eq_true rfl⟩ rfl rfl rfl (fun H locs hB hlo => ?_)
  have hI := hB.re hlo
  refine lv_if_eq (tgt := 23) hx hb dX3_pairAt_11 (by decide) (fun hc => ?_) (fun hc => ?_)
  · replace h := ite_t hc h
    refine lv_null hx hb dX3_pairAt_23 ?_
    exact b24  H locs ls G7 none (fun _ q => by cases q) hI e7 (lv_sub hl [] rfl) h
  · replace h := ite_f hc h
    refine lv_aload_n hx hb dX3_pairAt_14 rfl (lv_at hl 0 rfl) ?_
    refine gf_X3_35 hx hb hts hown hKK hI hN dX3_pairAt_15 ?_
    refine lv_iload_n hx hb dX3_pairAt_18 rfl (lv_at hl 1 rfl) ?_
    obtain ⟨hin_, h⟩ := ck_e h
    refine la_22 hx hb hKK hI e7 (lc40 hN) (kc40 hk0) hin_ dX3_pairAt_19 ?_
    rcases om_e h with ⟨eo, h⟩ | ⟨t_19, eo, h⟩
    · refine topn eo ?_
      refine lv_goto (tgt := 24) hx hb dX3_pairAt_20 (by decide) ?_
      exact b24  H locs ls G7 none (fun _ q => by cases q) hI e7 (lv_sub hl [] rfl) h
    · refine topr eo ?_
      obtain ⟨ha_19, hk_19⟩ := tarF hI (lc40 hN) (kc40 hk0) 0 rfl e7 eo
      refine lv_goto (tgt := 24) hx hb dX3_pairAt_20 (by decide) ?_
      exact b24  H locs ls G7 (some t_19) (fun _ q => by cases q; exact ⟨ha_19, hk_19⟩) hI e7 (lv_sub hl [] rfl) h
noncomputable def f_X5_isOpen (F : Nat) (G9 : Grp) (v0 : Nat) : Option (Int32) :=
  if (G9.1 v0 4) = (-1) then some 1 else some 0
def RM_X5_isOpen : Room := { frames := 0, cells := 0, slots := 0, locals := 0 }
abbrev B_X5_isOpen (HB : Heap) (D : va_G) (y : Nat → ClassId) (n : Nat) (κ : Nat → Nat) (σ : St) (q : Int32) : Heap → Prop := fun H => IV HB D y n n κ σ [] H
set_option maxRecDepth 100000 in
set_option maxHeartbeats 4000000 in
theorem c_X5_isOpen (l : Launch) (HB : Heap) (D : va_G) (y : Nat → ClassId) (F n : Nat) (κ : Nat → Nat) (σ : St) (hN : N0 ≤ n) (v0 : Nat) (ha_v0 : v0 < n) (hk_v0 : κ v0 = 5) (G9 : Grp) (e9 : σ 9 = G9) (q : Int32) (h : f_X5_isOpen F G9 v0 = some q) : MT l HB D y yX5_isOpen cX5_isOpen 1 (some .boolean) RM_X5_isOpen [.ref (HB.size + v0)] (IV HB D y n n κ σ []) (some (.int q)) (B_X5_isOpen HB D y n κ σ q) := by
  refine Met.ofW (cc := cX5_isOpen) (maxL := 1) (ret := (some .boolean)) (by decide) rfl ?_
  intro p e s m args below meth c s₁ BL hml hv
  obtain ⟨rfl, hI, hKK⟩ := hv
  have hx := BL.exec
  have hb := BL.bytes
  have hr := BL.returns
  have hts : ∀ w ∈ gtb, w.before _ s = true := fun w hw => atoms_spec BL.pre w (List.mem_cons_of_mem _ hw)
  have hml : c.maxLocals = 1 := hml
  have hown : s.vm.findClass RX5 = some m.cls := findClass_of_methodNamed BL.named
  have hlocks := BL.notSynchronized
  have hk0 := hI.1.2.2.2.2
  have hl := lv_entry ([.ref (HB.size + v0)]) (n := 1) (Nat.le_of_ble_eq_true rfl)
  rw [lg_entry_eq]
  generalize (lg_sl ([.ref (HB.size + v0)]) ++ List.replicate (1 - (lg_sl ([.ref (HB.size + v0)])).length) Slot.unset).toArray = ls at hl ⊢
  have hl : lv_has ls 1 [(0, .ref (HB.size + v0))] := hl
  generalize hargs : ([.ref (HB.size + v0)] : List Value).toArray = args at *
  show WX RM_X5_isOpen p l e s m args below meth c HB (some (.int q)) (B_X5_isOpen HB D y n κ σ q) s.heap [] (F0 m 0 ls [])
  generalize s.heap = H at hI ⊢
  unfold f_X5_isOpen at h
  obtain ⟨locs, hlocs⟩ : ∃ x : List Loc, x = [] := ⟨_, rfl⟩
  rw [← hlocs] at hI ⊢
  refine lv_aload_n hx hb dX5_isOpen_0 rfl (lv_at hl 0 rfl) ?_
  refine gt_X5_24 hx hb hts hown hKK hI e9 ha_v0 hk_v0 dX5_isOpen_1 ?_
  refine lv_iconst (v := (-1)) hx hb dX5_isOpen_4 (by decide) ?_
  refine lv_icmp_ne (tgt := 12) hx hb dX5_isOpen_5 (by decide) (fun hc => ?_) (fun hc => ?_)
  · replace h := ite_f hc h
    refine lv_iconst (v := 0) hx hb dX5_isOpen_12 (by decide) ?_
    have hq := Option.some.inj h
    exact W.zret (v := 0) (ty := .boolean) hx hb hr rfl (fun t ht hW => qc_mk (congrArg (fun z => Outcome.returned (some (Value.int z))) hq) (by rw [ht]; exact hI.nil)) hI.2.2 dX5_isOpen_13 hlocks
  · replace h := ite_t hc h
    refine lv_iconst (v := 1) hx hb dX5_isOpen_8 (by decide) ?_
    refine lv_goto (tgt := 13) hx hb dX5_isOpen_9 (by decide) ?_
    have hq := Option.some.inj h
    exact W.zret (v := 1) (ty := .boolean) hx hb hr rfl (fun t ht hW => qc_mk (congrArg (fun z => Outcome.returned (some (Value.int z))) hq) (by rw [ht]; exact hI.nil)) hI.2.2 dX5_isOpen_13 hlocks
noncomputable def f_X3_openPairAt_b22 (F : Nat)  (G7 : Grp) (G9 : Grp) (s0 : Option Nat) : Option (Option Nat) :=
  some s0
noncomputable def f_X3_openPairAt_b21 (F : Nat)  (G7 : Grp) (G9 : Grp)  : Option (Option Nat) :=
  f_X3_openPairAt_b22 F  G7 G9 none
noncomputable def f_X3_openPairAt (F : Nat) (G7 : Grp) (G9 : Grp) (v1 : Int32) : Option (Option Nat) :=
  ob (f_X3_pairAt F G7 v1) (fun q_2 => om q_2 (f_X3_openPairAt_b21 F  G7 G9) (fun t_2 => ob (f_X5_isOpen F G9 t_2) (fun q_11 => if q_11 = 0 then f_X3_openPairAt_b21 F  G7 G9 else f_X3_openPairAt_b22 F  G7 G9 (some t_2))))
def RM_X3_openPairAt : Room := { frames := 2, cells := 0, slots := 0, locals := 43 }
abbrev B_X3_openPairAt (HB : Heap) (D : va_G) (y : Nat → ClassId) (n : Nat) (κ : Nat → Nat) (σ : St) (q : Option Nat) : Heap → Prop := fun H => (IV HB D y n n κ σ [] H) ∧ ∀ t : Nat, q = some t → t < n ∧ κ t = 5
set_option maxRecDepth 100000 in
set_option maxHeartbeats 4000000 in
theorem c_X3_openPairAt (l : Launch) (HB : Heap) (D : va_G) (y : Nat → ClassId) (F n : Nat) (κ : Nat → Nat) (σ : St) (hN : N0 ≤ n) (v1 : Int32)  (G7 : Grp) (e7 : σ 7 = G7) (G9 : Grp) (e9 : σ 9 = G9) (q : Option Nat) (h : f_X3_openPairAt F G7 G9 v1 = some q) : MT l HB D y yX3_openPairAt cX3_openPairAt 3 (some (.object "ChildLetters$Pair")) RM_X3_openPairAt [.ref (HB.size + 32), .int v1] (IV HB D y n n κ σ []) (some (rfv HB.size q)) (B_X3_openPairAt HB D y n κ σ q) := by
  refine Met.ofW (cc := cX3_openPairAt) (maxL := 3) (ret := (some (.object "ChildLetters$Pair"))) (by decide) rfl ?_
  intro p e s m args below meth c s₁ BL hml hv
  obtain ⟨rfl, hI, hKK⟩ := hv
  have hx := BL.exec
  have hb := BL.bytes
  have hr := BL.returns
  have hts : ∀ w ∈ gtb, w.before _ s = true := fun w hw => atoms_spec BL.pre w (List.mem_cons_of_mem _ hw)
  have hml : c.maxLocals = 3 := hml
  have hown : s.vm.findClass RX3 = some m.cls := findClass_of_methodNamed BL.named
  have hlocks := BL.notSynchronized
  have hk0 := hI.1.2.2.2.2
  have hl := lv_entry ([.ref (HB.size + 32), .int v1]) (n := 3) (Nat.le_of_ble_eq_true rfl)
  rw [lg_entry_eq]
  generalize (lg_sl ([.ref (HB.size + 32), .int v1]) ++ List.replicate (3 - (lg_sl ([.ref (HB.size + 32), .int v1])).length) Slot.unset).toArray = ls at hl ⊢
  have hl : lv_has ls 3 [(0, .ref (HB.size + 32)), (1, .int v1)] := hl
  generalize hargs : ([.ref (HB.size + 32), .int v1] : List Value).toArray = args at *
  have b22 : ∀ (H : Heap) (locs : List Loc) (ls : Array Slot) (G7 : Grp) (G9 : Grp) (s0 : Option Nat) (hf_s0 : ∀ t : Nat, s0 = some t → t < n ∧ κ t = 5), IV HB D y n n κ σ locs H → σ 7 = G7 → σ 9 = G9 → lv_has ls 3 [] → f_X3_openPairAt_b22 F  G7 G9 s0 = some q → WX RM_X3_openPairAt p l e s m args below meth c HB (some (rfv HB.size q)) (B_X3_openPairAt HB D y n κ σ q) H locs (F0 m 22 ls [rfv HB.size s0]) := by
    intro  H locs ls G7 G9 s0 hf_s0 hI e7 e9 hl h
    unfold f_X3_openPairAt_b22 at h
    have hq := Option.some.inj h
    exact W.aret (v := rfv HB.size s0) hx hb hr (Or.inl ⟨_, rfl⟩) (rfv_or _ _) (fun t ht hW => qc_mk (congrArg (fun z => Outcome.returned (some (rfv HB.size z))) hq) (by rw [ht]; exact ⟨hI.nil, (fun t q => hf_s0 t (hq.trans q))⟩)) hI.2.2 dX3_openPairAt_22 hlocks
  have b21 : ∀ (H : Heap) (locs : List Loc) (ls : Array Slot) (G7 : Grp) (G9 : Grp)  , IV HB D y n n κ σ locs H → σ 7 = G7 → σ 9 = G9 → lv_has ls 3 [] → f_X3_openPairAt_b21 F  G7 G9 = some q → WX RM_X3_openPairAt p l e s m args below meth c HB (some (rfv HB.size q)) (B_X3_openPairAt HB D y n κ σ q) H locs (F0 m 21 ls []) := by
    intro  H locs ls G7 G9 hI e7 e9 hl h
    unfold f_X3_openPairAt_b21 at h
    refine lv_null hx hb dX3_openPairAt_21 ?_
    exact b22  H locs ls G7 G9 none (fun _ q => by cases q) hI e7 e9 (lv_sub hl [] rfl) h
  show WX RM_X3_openPairAt p l e s m args below meth c HB (some (rfv HB.size q)) (B_X3_openPairAt HB D y n κ σ q) s.heap [] (F0 m 0 ls [])
  generalize s.heap = H at hI ⊢
  unfold f_X3_openPairAt at h
  obtain ⟨locs, hlocs⟩ : ∃ x : List Loc, x = [] := ⟨_, rfl⟩
  rw [← hlocs] at hI ⊢
  refine lv_aload_n hx hb dX3_openPairAt_0 rfl (lv_at hl 0 rfl) ?_
  refine lv_iload_n hx hb dX3_openPairAt_1 rfl (lv_at hl 1 rfl) ?_
  obtain ⟨q_2, hq_2, h⟩ := ob_e h
  refine r_callV (As := [.int v1]) (rest := []) hx hb hml hts hown (c_X3_pairAt l HB D y F n κ σ hN v1 G7 e7 q_2 hq_2) cal_X3_pairAt im_X3_pairAt se_X3_pairAt lm_X3_68 ⟨Nat.le_of_ble_eq_true rfl, Nat.le_of_ble_eq_true rfl⟩ hI.nil hKK (r_recv hKK hI (hE3 HB.size y) rfl (lc32 hN) (kc32 hk0)) rfl hl.1 hI.2.2 rfl (Nat.le_of_ble_eq_true rfl) dX3_openPairAt_2 ⟨Nat.le_of_ble_eq_true rfl, Nat.le_of_ble_eq_true rfl⟩ rfl rfl rfl (fun H locs hB hlo => ?_)
  obtain ⟨hB, hf_2⟩ := hB
  have hI := hB.re hlo
  rcases om_e h with ⟨eo, h⟩ | ⟨t_2, eo, h⟩
  · refine topn eo ?_
    refine lv_astore_nN (lv' := [(2, .null), (0, .ref (HB.size + 32)), (1, .int v1)]) hx hb dX3_openPairAt_5 rfl hl (by decide) rfl (fun ls hl => ?_)
    refine lv_aload_nN hx hb dX3_openPairAt_6 rfl (lv_at hl 0 rfl) ?_
    refine lv_ifnullN (tgt := 21) hx hb dX3_openPairAt_7 (by decide) ?_
    exact b21  H locs ls G7 G9  hI e7 e9 (lv_sub hl [] rfl) h
  · refine topr eo ?_
    obtain ⟨ha_2, hk_2⟩ := hf_2 _ eo
    refine lv_astore_n (lv' := [(2, .ref (HB.size + t_2)), (0, .ref (HB.size + 32)), (1, .int v1)]) hx hb dX3_openPairAt_5 rfl hl (by decide) rfl (fun ls hl => ?_)
    refine lv_aload_n hx hb dX3_openPairAt_6 rfl (lv_at hl 0 rfl) ?_
    refine lv_ifnull hx hb dX3_openPairAt_7 ?_
    refine lv_aload_n hx hb dX3_openPairAt_10 rfl (lv_at hl 0 rfl) ?_
    obtain ⟨q_11, hq_11, h⟩ := ob_e h
    refine r_callV (As := []) (rest := []) hx hb hml hts hown (c_X5_isOpen l HB D y F n κ σ hN t_2 ha_2 hk_2 G9 e9 q_11 hq_11) cal_X5_isOpen im_X5_isOpen se_X5_isOpen lm_X3_72 ⟨Nat.le_of_ble_eq_true rfl, Nat.le_of_ble_eq_true rfl⟩ hI.nil hKK (r_recv hKK hI (hE5 HB.size y) rfl ha_2 hk_2) rfl hl.1 hI.2.2 rfl (Nat.le_of_ble_eq_true rfl) dX3_openPairAt_11 ⟨Nat.le_of_ble_eq_true rfl, Nat.le_of_ble_eq_true rfl⟩ rfl rfl rfl (fun H locs hB hlo => ?_)
    have hI := hB.re hlo
    refine lv_if_eq (tgt := 21) hx hb dX3_openPairAt_14 (by decide) (fun hc => ?_) (fun hc => ?_)
    · replace h := ite_t hc h
      exact b21  H locs ls G7 G9  hI e7 e9 (lv_sub hl [] rfl) h
    · replace h := ite_f hc h
      refine lv_aload_n hx hb dX3_openPairAt_17 rfl (lv_at hl 0 rfl) ?_
      refine lv_goto (tgt := 22) hx hb dX3_openPairAt_18 (by decide) ?_
      exact b22  H locs ls G7 G9 (some t_2) (fun _ q => by cases q; exact ⟨ha_2, hk_2⟩) hI e7 e9 (lv_sub hl [] rfl) h
noncomputable def f_X3_openPairOf_l2b (F : Nat)  (k2 : Grp → Grp → Int32 → Int32 → Option (Option Nat)) (G7 : Grp) (G9 : Grp) (v1 : Int32) (v2 : Int32) : Option (Option Nat) :=
  if (G7.1 32 10) ≤ v2 then some none else ck v2 40 (om (G7.2.2 40 v2.toNatClampNeg) (none) (fun t_15 => if (G9.1 t_15 2) = v1 then ck v2 40 (om (G7.2.2 40 v2.toNatClampNeg) (none) (fun t_28 => ob (f_X5_isOpen F G9 t_28) (fun q_29 => if q_29 = 0 then bn (v2 + 1) (fun v2_42 => k2 G7 G9 v1 v2_42) else ck v2 40 (om (G7.2.2 40 v2.toNatClampNeg) (some none) (fun t_40 => some (some t_40)))))) else bn (v2 + 1) (fun v2_42 => k2 G7 G9 v1 v2_42)))
noncomputable def f_X3_openPairOf_l2 (F : Nat)  (fu : Nat) : Grp → Grp → Int32 → Int32 → Option (Option Nat) := Nat.rec (motive := fun _ => Grp → Grp → Int32 → Int32 → Option (Option Nat)) (fun _ _ _ _ => none) (fun _ ih => f_X3_openPairOf_l2b F  ih) fu
noncomputable def f_X3_openPairOf (F : Nat) (G7 : Grp) (G9 : Grp) (v1 : Int32) : Option (Option Nat) :=
  f_X3_openPairOf_l2 F  F G7 G9 v1 0
def RM_X3_openPairOf : Room := { frames := 1, cells := 0, slots := 0, locals := 20 }
abbrev B_X3_openPairOf (HB : Heap) (D : va_G) (y : Nat → ClassId) (n : Nat) (κ : Nat → Nat) (σ : St) (q : Option Nat) : Heap → Prop := fun H => (IV HB D y n n κ σ [] H) ∧ ∀ t : Nat, q = some t → t < n ∧ κ t = 5
set_option maxRecDepth 100000 in
set_option maxHeartbeats 4000000 in
theorem c_X3_openPairOf (l : Launch) (HB : Heap) (D : va_G) (y : Nat → ClassId) (F n : Nat) (κ : Nat → Nat) (σ : St) (hN : N0 ≤ n) (v1 : Int32)  (G7 : Grp) (e7 : σ 7 = G7) (G9 : Grp) (e9 : σ 9 = G9) (q : Option Nat) (h : f_X3_openPairOf F G7 G9 v1 = some q) : MT l HB D y yX3_openPairOf cX3_openPairOf 3 (some (.object "ChildLetters$Pair")) RM_X3_openPairOf [.ref (HB.size + 32), .int v1] (IV HB D y n n κ σ []) (some (rfv HB.size q)) (B_X3_openPairOf HB D y n κ σ q) := by
  refine Met.ofW (cc := cX3_openPairOf) (maxL := 3) (ret := (some (.object "ChildLetters$Pair"))) (by decide) rfl ?_
  intro p e s m args below meth c s₁ BL hml hv
  obtain ⟨rfl, hI, hKK⟩ := hv
  have hx := BL.exec
  have hb := BL.bytes
  have hr := BL.returns
  have hts : ∀ w ∈ gtb, w.before _ s = true := fun w hw => atoms_spec BL.pre w (List.mem_cons_of_mem _ hw)
  have hml : c.maxLocals = 3 := hml
  have hown : s.vm.findClass RX3 = some m.cls := findClass_of_methodNamed BL.named
  have hlocks := BL.notSynchronized
  have hk0 := hI.1.2.2.2.2
  have hl := lv_entry ([.ref (HB.size + 32), .int v1]) (n := 3) (Nat.le_of_ble_eq_true rfl)
  rw [lg_entry_eq]
  generalize (lg_sl ([.ref (HB.size + 32), .int v1]) ++ List.replicate (3 - (lg_sl ([.ref (HB.size + 32), .int v1])).length) Slot.unset).toArray = ls at hl ⊢
  have hl : lv_has ls 3 [(0, .ref (HB.size + 32)), (1, .int v1)] := hl
  generalize hargs : ([.ref (HB.size + 32), .int v1] : List Value).toArray = args at *
  have b2 : ∀ (fu : Nat) (H : Heap) (locs : List Loc) (ls : Array Slot) (G7 : Grp) (G9 : Grp) (v1 : Int32) (v2 : Int32) , IV HB D y n n κ σ locs H → σ 7 = G7 → σ 9 = G9 → lv_has ls 3 [(0, .ref (HB.size + 32)), (1, .int v1), (2, .int v2)] → f_X3_openPairOf_l2 F  fu G7 G9 v1 v2 = some q → WX RM_X3_openPairOf p l e s m args below meth c HB (some (rfv HB.size q)) (B_X3_openPairOf HB D y n κ σ q) H locs (F0 m 2 ls []) := by
    intro  fu
    induction fu with
    | zero =>
      intro H locs ls G7 G9 v1 v2 hI e7 e9 hl h
      exact absurd h (by intro h; cases h)
    | succ fu hk2 =>
      intro H locs ls G7 G9 v1 v2 hI e7 e9 hl h
      have h : f_X3_openPairOf_l2b F  (f_X3_openPairOf_l2 F  fu) G7 G9 v1 v2 = some q := h
      generalize f_X3_openPairOf_l2 F  fu = k2 at h hk2
      unfold f_X3_openPairOf_l2b at h
      refine lv_iload_n hx hb dX3_openPairOf_2 rfl (lv_at hl 2 rfl) ?_
      refine lv_aload_n hx hb dX3_openPairOf_3 rfl (lv_at hl 0 rfl) ?_
      refine gt_X3_62 hx hb hts hown hKK hI e7 (lc32 hN) (kc32 hk0) dX3_openPairOf_4 ?_
      refine lv_icmp_ge (tgt := 48) hx hb dX3_openPairOf_7 (by decide) (fun hc => ?_) (fun hc => ?_)
      · replace h := ite_t hc h
        refine lv_null hx hb dX3_openPairOf_48 ?_
        have hq := Option.some.inj h
        exact W.aret (v := .null) hx hb hr (Or.inl ⟨_, rfl⟩) (Or.inl rfl) (fun t ht hW => qc_mk (congrArg (fun z => Outcome.returned (some (rfv HB.size z))) hq) (by rw [ht]; exact ⟨hI.nil, (fun t q => by rw [← hq] at q; cases q)⟩)) hI.2.2 dX3_openPairOf_49 hlocks
      · replace h := ite_f hc h
        refine lv_aload_n hx hb dX3_openPairOf_10 rfl (lv_at hl 0 rfl) ?_
        refine gf_X3_35 hx hb hts hown hKK hI hN dX3_openPairOf_11 ?_
        refine lv_iload_n hx hb dX3_openPairOf_14 rfl (lv_at hl 2 rfl) ?_
        obtain ⟨hin_, h⟩ := ck_e h
        refine la_22 hx hb hKK hI e7 (lc40 hN) (kc40 hk0) hin_ dX3_openPairOf_15 ?_
        rcases om_e h with ⟨eo, h⟩ | ⟨t_15, eo, h⟩
        · cases h
        · refine topr eo ?_
          obtain ⟨ha_15, hk_15⟩ := tarF hI (lc40 hN) (kc40 hk0) 0 rfl e7 eo
          refine gt_X3_76 hx hb hts hown hKK hI e9 ha_15 hk_15 dX3_openPairOf_16 ?_
          refine lv_iload_n hx hb dX3_openPairOf_19 rfl (lv_at hl 1 rfl) ?_
          refine lv_icmp_ne (tgt := 42) hx hb dX3_openPairOf_20 (by decide) (fun hc => ?_) (fun hc => ?_)
          · replace h := ite_f hc h
            obtain ⟨v2_42, qq, h⟩ := bn_e h
            refine lv_iinc (v := v2_42) (lv' := [(2, .int v2_42), (0, .ref (HB.size + 32)), (1, .int v1)]) hx hb dX3_openPairOf_42 hl (k := 2) rfl (by rw [qq]; rfl) (by decide) rfl (fun ls hl => ?_)
            refine lv_goto (tgt := 2) hx hb dX3_openPairOf_45 (by decide) ?_
            exact hk2 H locs ls G7 G9 v1 v2_42  hI e7 e9 (lv_sub hl [1, 2, 0] rfl) h
          · replace h := ite_t hc h
            refine lv_aload_n hx hb dX3_openPairOf_23 rfl (lv_at hl 0 rfl) ?_
            refine gf_X3_35 hx hb hts hown hKK hI hN dX3_openPairOf_24 ?_
            refine lv_iload_n hx hb dX3_openPairOf_27 rfl (lv_at hl 2 rfl) ?_
            obtain ⟨hin_, h⟩ := ck_e h
            refine la_22 hx hb hKK hI e7 (lc40 hN) (kc40 hk0) hin_ dX3_openPairOf_28 ?_
            rcases om_e h with ⟨eo, h⟩ | ⟨t_28, eo, h⟩
            · cases h
            · refine topr eo ?_
              obtain ⟨ha_28, hk_28⟩ := tarF hI (lc40 hN) (kc40 hk0) 0 rfl e7 eo
              obtain ⟨q_29, hq_29, h⟩ := ob_e h
              refine r_callV (As := []) (rest := []) hx hb hml hts hown (c_X5_isOpen l HB D y F n κ σ hN t_28 ha_28 hk_28 G9 e9 q_29 hq_29) cal_X5_isOpen im_X5_isOpen se_X5_isOpen lm_X3_72 ⟨Nat.le_of_ble_eq_true rfl, Nat.le_of_ble_eq_true rfl⟩ hI.nil hKK (r_recv hKK hI (hE5 HB.size y) rfl ha_28 hk_28) rfl hl.1 hI.2.2 rfl (Nat.le_of_ble_eq_true rfl) dX3_openPairOf_29 ⟨Nat.le_of_ble_eq_true rfl, Nat.le_of_ble_eq_true rfl⟩ rfl rfl rfl (fun H locs hB hlo => ?_)
              have hI := hB.re hlo
              refine lv_if_eq (tgt := 42) hx hb dX3_openPairOf_32 (by decide) (fun hc => ?_) (fun hc => ?_)
              · replace h := ite_t hc h
                obtain ⟨v2_42, qq, h⟩ := bn_e h
                refine lv_iinc (v := v2_42) (lv' := [(2, .int v2_42), (0, .ref (HB.size + 32)), (1, .int v1)]) hx hb dX3_openPairOf_42 hl (k := 2) rfl (by rw [qq]; rfl) (by decide) rfl (fun ls hl => ?_)
                refine lv_goto (tgt := 2) hx hb dX3_openPairOf_45 (by decide) ?_
                exact hk2 H locs ls G7 G9 v1 v2_42  hI e7 e9 (lv_sub hl [1, 2, 0] rfl) h
              · replace h := ite_f hc h
                refine lv_aload_n hx hb dX3_openPairOf_35 rfl (lv_at hl 0 rfl) ?_
                refine gf_X3_35 hx hb hts hown hKK hI hN dX3_openPairOf_36 ?_
                refine lv_iload_n hx hb dX3_openPairOf_39 rfl (lv_at hl 2 rfl) ?_
                obtain ⟨hin_, h⟩ := ck_e h
                refine la_22 hx hb hKK hI e7 (lc40 hN) (kc40 hk0) hin_ dX3_openPairOf_40 ?_
                rcases om_e h with ⟨eo, h⟩ | ⟨t_40, eo, h⟩
                · refine topn eo ?_
                  have hq := Option.some.inj h
                  exact W.aret (v := .null) hx hb hr (Or.inl ⟨_, rfl⟩) (Or.inl rfl) (fun t ht hW => qc_mk (congrArg (fun z => Outcome.returned (some (rfv HB.size z))) hq) (by rw [ht]; exact ⟨hI.nil, (fun t q => by rw [← hq] at q; cases q)⟩)) hI.2.2 dX3_openPairOf_41 hlocks
                · refine topr eo ?_
                  obtain ⟨ha_40, hk_40⟩ := tarF hI (lc40 hN) (kc40 hk0) 0 rfl e7 eo
                  have hq := Option.some.inj h
                  exact W.aret (v := .ref (HB.size + t_40)) hx hb hr (Or.inl ⟨_, rfl⟩) (Or.inr ⟨_, rfl⟩) (fun t ht hW => qc_mk (congrArg (fun z => Outcome.returned (some (rfv HB.size z))) hq) (by rw [ht]; exact ⟨hI.nil, (fun t q => by rw [← hq] at q; cases q; exact ⟨ha_40, hk_40⟩)⟩)) hI.2.2 dX3_openPairOf_41 hlocks
  show WX RM_X3_openPairOf p l e s m args below meth c HB (some (rfv HB.size q)) (B_X3_openPairOf HB D y n κ σ q) s.heap [] (F0 m 0 ls [])
  generalize s.heap = H at hI ⊢
  unfold f_X3_openPairOf at h
  obtain ⟨locs, hlocs⟩ : ∃ x : List Loc, x = [] := ⟨_, rfl⟩
  rw [← hlocs] at hI ⊢
  refine lv_iconst (v := 0) hx hb dX3_openPairOf_0 (by decide) ?_
  refine lv_istore_n (lv' := [(2, .int 0), (0, .ref (HB.size + 32)), (1, .int v1)]) hx hb dX3_openPairOf_1 rfl hl (by decide) rfl (fun ls hl => ?_)
  exact b2  F H locs ls G7 G9 v1 0  hI e7 e9 (lv_sub hl [1, 2, 0] rfl) h
noncomputable def f_X3_openPairs_l4b (F : Nat)  (k4 : Grp → Grp → Int32 → Int32 → Option (Int32)) (G7 : Grp) (G9 : Grp) (v1 : Int32) (v2 : Int32) : Option (Int32) :=
  if (G7.1 32 10) ≤ v2 then some v1 else ck v2 40 (om (G7.2.2 40 v2.toNatClampNeg) (none) (fun t_18 => ob (f_X5_isOpen F G9 t_18) (fun q_19 => if q_19 = 0 then bn ((v1 + 0)) (fun v1_31 => bn (v2 + 1) (fun v2_32 => k4 G7 G9 v1_31 v2_32)) else bn ((v1 + 1)) (fun v1_31 => bn (v2 + 1) (fun v2_32 => k4 G7 G9 v1_31 v2_32)))))
noncomputable def f_X3_openPairs_l4 (F : Nat)  (fu : Nat) : Grp → Grp → Int32 → Int32 → Option (Int32) := Nat.rec (motive := fun _ => Grp → Grp → Int32 → Int32 → Option (Int32)) (fun _ _ _ _ => none) (fun _ ih => f_X3_openPairs_l4b F  ih) fu
noncomputable def f_X3_openPairs (F : Nat) (G7 : Grp) (G9 : Grp)  : Option (Int32) :=
  f_X3_openPairs_l4 F  F G7 G9 0 0
def RM_X3_openPairs : Room := { frames := 1, cells := 0, slots := 0, locals := 20 }
abbrev B_X3_openPairs (HB : Heap) (D : va_G) (y : Nat → ClassId) (n : Nat) (κ : Nat → Nat) (σ : St) (q : Int32) : Heap → Prop := fun H => IV HB D y n n κ σ [] H
set_option maxRecDepth 100000 in
set_option maxHeartbeats 4000000 in
theorem c_X3_openPairs (l : Launch) (HB : Heap) (D : va_G) (y : Nat → ClassId) (F n : Nat) (κ : Nat → Nat) (σ : St) (hN : N0 ≤ n)  (G7 : Grp) (e7 : σ 7 = G7) (G9 : Grp) (e9 : σ 9 = G9) (q : Int32) (h : f_X3_openPairs F G7 G9 = some q) : MT l HB D y yX3_openPairs cX3_openPairs 3 (some .int) RM_X3_openPairs [.ref (HB.size + 32)] (IV HB D y n n κ σ []) (some (.int q)) (B_X3_openPairs HB D y n κ σ q) := by
  refine Met.ofW (cc := cX3_openPairs) (maxL := 3) (ret := (some .int)) (by decide) rfl ?_
  intro p e s m args below meth c s₁ BL hml hv
  obtain ⟨rfl, hI, hKK⟩ := hv
  have hx := BL.exec
  have hb := BL.bytes
  have hr := BL.returns
  have hts : ∀ w ∈ gtb, w.before _ s = true := fun w hw => atoms_spec BL.pre w (List.mem_cons_of_mem _ hw)
  have hml : c.maxLocals = 3 := hml
  have hown : s.vm.findClass RX3 = some m.cls := findClass_of_methodNamed BL.named
  have hlocks := BL.notSynchronized
  have hk0 := hI.1.2.2.2.2
  have hl := lv_entry ([.ref (HB.size + 32)]) (n := 3) (Nat.le_of_ble_eq_true rfl)
  rw [lg_entry_eq]
  generalize (lg_sl ([.ref (HB.size + 32)]) ++ List.replicate (3 - (lg_sl ([.ref (HB.size + 32)])).length) Slot.unset).toArray = ls at hl ⊢
  have hl : lv_has ls 3 [(0, .ref (HB.size + 32))] := hl
  generalize hargs : ([.ref (HB.size + 32)] : List Value).toArray = args at *
  have b4 : ∀ (fu : Nat) (H : Heap) (locs : List Loc) (ls : Array Slot) (G7 : Grp) (G9 : Grp) (v1 : Int32) (v2 : Int32) , IV HB D y n n κ σ locs H → σ 7 = G7 → σ 9 = G9 → lv_has ls 3 [(0, .ref (HB.size + 32)), (1, .int v1), (2, .int v2)] → f_X3_openPairs_l4 F  fu G7 G9 v1 v2 = some q → WX RM_X3_openPairs p l e s m args below meth c HB (some (.int q)) (B_X3_openPairs HB D y n κ σ q) H locs (F0 m 4 ls []) := by
    intro  fu
    induction fu with
    | zero =>
      intro H locs ls G7 G9 v1 v2 hI e7 e9 hl h
      exact absurd h (by intro h; cases h)
    | succ fu hk4 =>
      intro H locs ls G7 G9 v1 v2 hI e7 e9 hl h
      have h : f_X3_openPairs_l4b F  (f_X3_openPairs_l4 F  fu) G7 G9 v1 v2 = some q := h
      generalize f_X3_openPairs_l4 F  fu = k4 at h hk4
      unfold f_X3_openPairs_l4b at h
      refine lv_iload_n hx hb dX3_openPairs_4 rfl (lv_at hl 2 rfl) ?_
      refine lv_aload_n hx hb dX3_openPairs_5 rfl (lv_at hl 0 rfl) ?_
      refine gt_X3_62 hx hb hts hown hKK hI e7 (lc32 hN) (kc32 hk0) dX3_openPairs_6 ?_
      refine lv_icmp_ge (tgt := 38) hx hb dX3_openPairs_9 (by decide) (fun hc => ?_) (fun hc => ?_)
      · replace h := ite_t hc h
        refine lv_iload_n hx hb dX3_openPairs_38 rfl (lv_at hl 1 rfl) ?_
        have hq := Option.some.inj h
        exact W.iret (v := v1) hx hb hr (fun t ht hW => qc_mk (congrArg (fun z => Outcome.returned (some (Value.int z))) hq) (by rw [ht]; exact hI.nil)) hI.2.2 dX3_openPairs_39 hlocks
      · replace h := ite_f hc h
        refine lv_iload_n hx hb dX3_openPairs_12 rfl (lv_at hl 1 rfl) ?_
        refine lv_aload_n hx hb dX3_openPairs_13 rfl (lv_at hl 0 rfl) ?_
        refine gf_X3_35 hx hb hts hown hKK hI hN dX3_openPairs_14 ?_
        refine lv_iload_n hx hb dX3_openPairs_17 rfl (lv_at hl 2 rfl) ?_
        obtain ⟨hin_, h⟩ := ck_e h
        refine la_22 hx hb hKK hI e7 (lc40 hN) (kc40 hk0) hin_ dX3_openPairs_18 ?_
        rcases om_e h with ⟨eo, h⟩ | ⟨t_18, eo, h⟩
        · cases h
        · refine topr eo ?_
          obtain ⟨ha_18, hk_18⟩ := tarF hI (lc40 hN) (kc40 hk0) 0 rfl e7 eo
          obtain ⟨q_19, hq_19, h⟩ := ob_e h
          refine r_callV (As := []) (rest := [.int v1]) hx hb hml hts hown (c_X5_isOpen l HB D y F n κ σ hN t_18 ha_18 hk_18 G9 e9 q_19 hq_19) cal_X5_isOpen im_X5_isOpen se_X5_isOpen lm_X3_72 ⟨Nat.le_of_ble_eq_true rfl, Nat.le_of_ble_eq_true rfl⟩ hI.nil hKK (r_recv hKK hI (hE5 HB.size y) rfl ha_18 hk_18) rfl hl.1 hI.2.2 rfl (Nat.le_of_ble_eq_true rfl) dX3_openPairs_19 ⟨Nat.le_of_ble_eq_true rfl, Nat.le_of_ble_eq_true rfl⟩ rfl rfl rfl (fun H locs hB hlo => ?_)
          have hI := hB.re hlo
          refine lv_if_eq (tgt := 29) hx hb dX3_openPairs_22 (by decide) (fun hc => ?_) (fun hc => ?_)
          · replace h := ite_t hc h
            refine lv_iconst (v := 0) hx hb dX3_openPairs_29 (by decide) ?_
            refine lv_iadd hx hb dX3_openPairs_30 ?_
            obtain ⟨v1_31, qq, h⟩ := bn_e h
            refine topi qq ?_
            refine lv_istore_n (lv' := [(1, .int v1_31), (0, .ref (HB.size + 32)), (2, .int v2)]) hx hb dX3_openPairs_31 rfl hl (by decide) rfl (fun ls hl => ?_)
            obtain ⟨v2_32, qq, h⟩ := bn_e h
            refine lv_iinc (v := v2_32) (lv' := [(2, .int v2_32), (1, .int v1_31), (0, .ref (HB.size + 32))]) hx hb dX3_openPairs_32 hl (k := 2) rfl (by rw [qq]; rfl) (by decide) rfl (fun ls hl => ?_)
            refine lv_goto (tgt := 4) hx hb dX3_openPairs_35 (by decide) ?_
            exact hk4 H locs ls G7 G9 v1_31 v2_32  hI e7 e9 (lv_sub hl [2, 1, 0] rfl) h
          · replace h := ite_f hc h
            refine lv_iconst (v := 1) hx hb dX3_openPairs_25 (by decide) ?_
            refine lv_goto (tgt := 30) hx hb dX3_openPairs_26 (by decide) ?_
            refine lv_iadd hx hb dX3_openPairs_30 ?_
            obtain ⟨v1_31, qq, h⟩ := bn_e h
            refine topi qq ?_
            refine lv_istore_n (lv' := [(1, .int v1_31), (0, .ref (HB.size + 32)), (2, .int v2)]) hx hb dX3_openPairs_31 rfl hl (by decide) rfl (fun ls hl => ?_)
            obtain ⟨v2_32, qq, h⟩ := bn_e h
            refine lv_iinc (v := v2_32) (lv' := [(2, .int v2_32), (1, .int v1_31), (0, .ref (HB.size + 32))]) hx hb dX3_openPairs_32 hl (k := 2) rfl (by rw [qq]; rfl) (by decide) rfl (fun ls hl => ?_)
            refine lv_goto (tgt := 4) hx hb dX3_openPairs_35 (by decide) ?_
            exact hk4 H locs ls G7 G9 v1_31 v2_32  hI e7 e9 (lv_sub hl [2, 1, 0] rfl) h
  show WX RM_X3_openPairs p l e s m args below meth c HB (some (.int q)) (B_X3_openPairs HB D y n κ σ q) s.heap [] (F0 m 0 ls [])
  generalize s.heap = H at hI ⊢
  unfold f_X3_openPairs at h
  obtain ⟨locs, hlocs⟩ : ∃ x : List Loc, x = [] := ⟨_, rfl⟩
  rw [← hlocs] at hI ⊢
  refine lv_iconst (v := 0) hx hb dX3_openPairs_0 (by decide) ?_
  refine lv_istore_n (lv' := [(1, .int 0), (0, .ref (HB.size + 32))]) hx hb dX3_openPairs_1 rfl hl (by decide) rfl (fun ls hl => ?_)
  refine lv_iconst (v := 0) hx hb dX3_openPairs_2 (by decide) ?_
  refine lv_istore_n (lv' := [(2, .int 0), (1, .int 0), (0, .ref (HB.size + 32))]) hx hb dX3_openPairs_3 rfl hl (by decide) rfl (fun ls hl => ?_)
  exact b4  F H locs ls G7 G9 0 0  hI e7 e9 (lv_sub hl [2, 1, 0] rfl) h
noncomputable def f_X3_hasRoom_l4b (F : Nat)  (k4 : Grp → Grp → Int32 → Int32 → Int32 → Option (Int32)) (G7 : Grp) (G9 : Grp) (v1 : Int32) (v2 : Int32) (v3 : Int32) : Option (Int32) :=
  if (G7.1 32 10) ≤ v3 then if 2 ≤ v2 then some 0 else some 1 else ck v3 40 (om (G7.2.2 40 v3.toNatClampNeg) (none) (fun t_18 => if (G9.1 t_18 1) = v1 then ck v3 40 (om (G7.2.2 40 v3.toNatClampNeg) (none) (fun t_31 => ob (f_X5_isOpen F G9 t_31) (fun q_32 => if q_32 = 0 then bn ((v2 + 0)) (fun v2_44 => bn (v3 + 1) (fun v3_45 => k4 G7 G9 v1 v2_44 v3_45)) else bn ((v2 + 1)) (fun v2_44 => bn (v3 + 1) (fun v3_45 => k4 G7 G9 v1 v2_44 v3_45))))) else bn ((v2 + 0)) (fun v2_44 => bn (v3 + 1) (fun v3_45 => k4 G7 G9 v1 v2_44 v3_45))))
noncomputable def f_X3_hasRoom_l4 (F : Nat)  (fu : Nat) : Grp → Grp → Int32 → Int32 → Int32 → Option (Int32) := Nat.rec (motive := fun _ => Grp → Grp → Int32 → Int32 → Int32 → Option (Int32)) (fun _ _ _ _ _ => none) (fun _ ih => f_X3_hasRoom_l4b F  ih) fu
noncomputable def f_X3_hasRoom (F : Nat) (G7 : Grp) (G9 : Grp) (v1 : Int32) : Option (Int32) :=
  f_X3_hasRoom_l4 F  F G7 G9 v1 0 0
def RM_X3_hasRoom : Room := { frames := 1, cells := 0, slots := 0, locals := 20 }
abbrev B_X3_hasRoom (HB : Heap) (D : va_G) (y : Nat → ClassId) (n : Nat) (κ : Nat → Nat) (σ : St) (q : Int32) : Heap → Prop := fun H => IV HB D y n n κ σ [] H
set_option maxRecDepth 100000 in
set_option maxHeartbeats 4000000 in
theorem c_X3_hasRoom (l : Launch) (HB : Heap) (D : va_G) (y : Nat → ClassId) (F n : Nat) (κ : Nat → Nat) (σ : St) (hN : N0 ≤ n) (v1 : Int32)  (G7 : Grp) (e7 : σ 7 = G7) (G9 : Grp) (e9 : σ 9 = G9) (q : Int32) (h : f_X3_hasRoom F G7 G9 v1 = some q) : MT l HB D y yX3_hasRoom cX3_hasRoom 4 (some .boolean) RM_X3_hasRoom [.ref (HB.size + 32), .int v1] (IV HB D y n n κ σ []) (some (.int q)) (B_X3_hasRoom HB D y n κ σ q) := by
  refine Met.ofW (cc := cX3_hasRoom) (maxL := 4) (ret := (some .boolean)) (by decide) rfl ?_
  intro p e s m args below meth c s₁ BL hml hv
  obtain ⟨rfl, hI, hKK⟩ := hv
  have hx := BL.exec
  have hb := BL.bytes
  have hr := BL.returns
  have hts : ∀ w ∈ gtb, w.before _ s = true := fun w hw => atoms_spec BL.pre w (List.mem_cons_of_mem _ hw)
  have hml : c.maxLocals = 4 := hml
  have hown : s.vm.findClass RX3 = some m.cls := findClass_of_methodNamed BL.named
  have hlocks := BL.notSynchronized
  have hk0 := hI.1.2.2.2.2
  have hl := lv_entry ([.ref (HB.size + 32), .int v1]) (n := 4) (Nat.le_of_ble_eq_true rfl)
  rw [lg_entry_eq]
  generalize (lg_sl ([.ref (HB.size + 32), .int v1]) ++ List.replicate (4 - (lg_sl ([.ref (HB.size + 32), .int v1])).length) Slot.unset).toArray = ls at hl ⊢
  have hl : lv_has ls 4 [(0, .ref (HB.size + 32)), (1, .int v1)] := hl
  generalize hargs : ([.ref (HB.size + 32), .int v1] : List Value).toArray = args at *
  have b4 : ∀ (fu : Nat) (H : Heap) (locs : List Loc) (ls : Array Slot) (G7 : Grp) (G9 : Grp) (v1 : Int32) (v2 : Int32) (v3 : Int32) , IV HB D y n n κ σ locs H → σ 7 = G7 → σ 9 = G9 → lv_has ls 4 [(0, .ref (HB.size + 32)), (1, .int v1), (2, .int v2), (3, .int v3)] → f_X3_hasRoom_l4 F  fu G7 G9 v1 v2 v3 = some q → WX RM_X3_hasRoom p l e s m args below meth c HB (some (.int q)) (B_X3_hasRoom HB D y n κ σ q) H locs (F0 m 4 ls []) := by
    intro  fu
    induction fu with
    | zero =>
      intro H locs ls G7 G9 v1 v2 v3 hI e7 e9 hl h
      exact absurd h (by intro h; cases h)
    | succ fu hk4 =>
      intro H locs ls G7 G9 v1 v2 v3 hI e7 e9 hl h
      have h : f_X3_hasRoom_l4b F  (f_X3_hasRoom_l4 F  fu) G7 G9 v1 v2 v3 = some q := h
      generalize f_X3_hasRoom_l4 F  fu = k4 at h hk4
      unfold f_X3_hasRoom_l4b at h
      refine lv_iload_n hx hb dX3_hasRoom_4 rfl (lv_at hl 3 rfl) ?_
      refine lv_aload_n hx hb dX3_hasRoom_5 rfl (lv_at hl 0 rfl) ?_
      refine gt_X3_62 hx hb hts hown hKK hI e7 (lc32 hN) (kc32 hk0) dX3_hasRoom_6 ?_
      refine lv_icmp_ge (tgt := 51) hx hb dX3_hasRoom_9 (by decide) (fun hc => ?_) (fun hc => ?_)
      · replace h := ite_t hc h
        refine lv_iload_n hx hb dX3_hasRoom_51 rfl (lv_at hl 2 rfl) ?_
        refine lv_iconst (v := 2) hx hb dX3_hasRoom_52 (by decide) ?_
        refine lv_icmp_ge (tgt := 60) hx hb dX3_hasRoom_53 (by decide) (fun hc => ?_) (fun hc => ?_)
        · replace h := ite_t hc h
          refine lv_iconst (v := 0) hx hb dX3_hasRoom_60 (by decide) ?_
          have hq := Option.some.inj h
          exact W.zret (v := 0) (ty := .boolean) hx hb hr rfl (fun t ht hW => qc_mk (congrArg (fun z => Outcome.returned (some (Value.int z))) hq) (by rw [ht]; exact hI.nil)) hI.2.2 dX3_hasRoom_61 hlocks
        · replace h := ite_f hc h
          refine lv_iconst (v := 1) hx hb dX3_hasRoom_56 (by decide) ?_
          refine lv_goto (tgt := 61) hx hb dX3_hasRoom_57 (by decide) ?_
          have hq := Option.some.inj h
          exact W.zret (v := 1) (ty := .boolean) hx hb hr rfl (fun t ht hW => qc_mk (congrArg (fun z => Outcome.returned (some (Value.int z))) hq) (by rw [ht]; exact hI.nil)) hI.2.2 dX3_hasRoom_61 hlocks
      · replace h := ite_f hc h
        refine lv_iload_n hx hb dX3_hasRoom_12 rfl (lv_at hl 2 rfl) ?_
        refine lv_aload_n hx hb dX3_hasRoom_13 rfl (lv_at hl 0 rfl) ?_
        refine gf_X3_35 hx hb hts hown hKK hI hN dX3_hasRoom_14 ?_
        refine lv_iload_n hx hb dX3_hasRoom_17 rfl (lv_at hl 3 rfl) ?_
        obtain ⟨hin_, h⟩ := ck_e h
        refine la_22 hx hb hKK hI e7 (lc40 hN) (kc40 hk0) hin_ dX3_hasRoom_18 ?_
        rcases om_e h with ⟨eo, h⟩ | ⟨t_18, eo, h⟩
        · cases h
        · refine topr eo ?_
          obtain ⟨ha_18, hk_18⟩ := tarF hI (lc40 hN) (kc40 hk0) 0 rfl e7 eo
          refine gt_X3_79 hx hb hts hown hKK hI e9 ha_18 hk_18 dX3_hasRoom_19 ?_
          refine lv_iload_n hx hb dX3_hasRoom_22 rfl (lv_at hl 1 rfl) ?_
          refine lv_icmp_ne (tgt := 42) hx hb dX3_hasRoom_23 (by decide) (fun hc => ?_) (fun hc => ?_)
          · replace h := ite_f hc h
            refine lv_iconst (v := 0) hx hb dX3_hasRoom_42 (by decide) ?_
            refine lv_iadd hx hb dX3_hasRoom_43 ?_
            obtain ⟨v2_44, qq, h⟩ := bn_e h
            refine topi qq ?_
            refine lv_istore_n (lv' := [(2, .int v2_44), (0, .ref (HB.size + 32)), (1, .int v1), (3, .int v3)]) hx hb dX3_hasRoom_44 rfl hl (by decide) rfl (fun ls hl => ?_)
            obtain ⟨v3_45, qq, h⟩ := bn_e h
            refine lv_iinc (v := v3_45) (lv' := [(3, .int v3_45), (2, .int v2_44), (0, .ref (HB.size + 32)), (1, .int v1)]) hx hb dX3_hasRoom_45 hl (k := 3) rfl (by rw [qq]; rfl) (by decide) rfl (fun ls hl => ?_)
            refine lv_goto (tgt := 4) hx hb dX3_hasRoom_48 (by decide) ?_
            exact hk4 H locs ls G7 G9 v1 v2_44 v3_45  hI e7 e9 (lv_sub hl [2, 3, 1, 0] rfl) h
          · replace h := ite_t hc h
            refine lv_aload_n hx hb dX3_hasRoom_26 rfl (lv_at hl 0 rfl) ?_
            refine gf_X3_35 hx hb hts hown hKK hI hN dX3_hasRoom_27 ?_
            refine lv_iload_n hx hb dX3_hasRoom_30 rfl (lv_at hl 3 rfl) ?_
            obtain ⟨hin_, h⟩ := ck_e h
            refine la_22 hx hb hKK hI e7 (lc40 hN) (kc40 hk0) hin_ dX3_hasRoom_31 ?_
            rcases om_e h with ⟨eo, h⟩ | ⟨t_31, eo, h⟩
            · cases h
            · refine topr eo ?_
              obtain ⟨ha_31, hk_31⟩ := tarF hI (lc40 hN) (kc40 hk0) 0 rfl e7 eo
              obtain ⟨q_32, hq_32, h⟩ := ob_e h
              refine r_callV (As := []) (rest := [.int v2]) hx hb hml hts hown (c_X5_isOpen l HB D y F n κ σ hN t_31 ha_31 hk_31 G9 e9 q_32 hq_32) cal_X5_isOpen im_X5_isOpen se_X5_isOpen lm_X3_72 ⟨Nat.le_of_ble_eq_true rfl, Nat.le_of_ble_eq_true rfl⟩ hI.nil hKK (r_recv hKK hI (hE5 HB.size y) rfl ha_31 hk_31) rfl hl.1 hI.2.2 rfl (Nat.le_of_ble_eq_true rfl) dX3_hasRoom_32 ⟨Nat.le_of_ble_eq_true rfl, Nat.le_of_ble_eq_true rfl⟩ rfl rfl rfl (fun H locs hB hlo => ?_)
              have hI := hB.re hlo
              refine lv_if_eq (tgt := 42) hx hb dX3_hasRoom_35 (by decide) (fun hc => ?_) (fun hc => ?_)
              · replace h := ite_t hc h
                refine lv_iconst (v := 0) hx hb dX3_hasRoom_42 (by decide) ?_
                refine lv_iadd hx hb dX3_hasRoom_43 ?_
                obtain ⟨v2_44, qq, h⟩ := bn_e h
                refine topi qq ?_
                refine lv_istore_n (lv' := [(2, .int v2_44), (0, .ref (HB.size + 32)), (1, .int v1), (3, .int v3)]) hx hb dX3_hasRoom_44 rfl hl (by decide) rfl (fun ls hl => ?_)
                obtain ⟨v3_45, qq, h⟩ := bn_e h
                refine lv_iinc (v := v3_45) (lv' := [(3, .int v3_45), (2, .int v2_44), (0, .ref (HB.size + 32)), (1, .int v1)]) hx hb dX3_hasRoom_45 hl (k := 3) rfl (by rw [qq]; rfl) (by decide) rfl (fun ls hl => ?_)
                refine lv_goto (tgt := 4) hx hb dX3_hasRoom_48 (by decide) ?_
                exact hk4 H locs ls G7 G9 v1 v2_44 v3_45  hI e7 e9 (lv_sub hl [2, 3, 1, 0] rfl) h
              · replace h := ite_f hc h
                refine lv_iconst (v := 1) hx hb dX3_hasRoom_38 (by decide) ?_
                refine lv_goto (tgt := 43) hx hb dX3_hasRoom_39 (by decide) ?_
                refine lv_iadd hx hb dX3_hasRoom_43 ?_
                obtain ⟨v2_44, qq, h⟩ := bn_e h
                refine topi qq ?_
                refine lv_istore_n (lv' := [(2, .int v2_44), (0, .ref (HB.size + 32)), (1, .int v1), (3, .int v3)]) hx hb dX3_hasRoom_44 rfl hl (by decide) rfl (fun ls hl => ?_)
                obtain ⟨v3_45, qq, h⟩ := bn_e h
                refine lv_iinc (v := v3_45) (lv' := [(3, .int v3_45), (2, .int v2_44), (0, .ref (HB.size + 32)), (1, .int v1)]) hx hb dX3_hasRoom_45 hl (k := 3) rfl (by rw [qq]; rfl) (by decide) rfl (fun ls hl => ?_)
                refine lv_goto (tgt := 4) hx hb dX3_hasRoom_48 (by decide) ?_
                exact hk4 H locs ls G7 G9 v1 v2_44 v3_45  hI e7 e9 (lv_sub hl [2, 3, 1, 0] rfl) h
  show WX RM_X3_hasRoom p l e s m args below meth c HB (some (.int q)) (B_X3_hasRoom HB D y n κ σ q) s.heap [] (F0 m 0 ls [])
  generalize s.heap = H at hI ⊢
  unfold f_X3_hasRoom at h
  obtain ⟨locs, hlocs⟩ : ∃ x : List Loc, x = [] := ⟨_, rfl⟩
  rw [← hlocs] at hI ⊢
  refine lv_iconst (v := 0) hx hb dX3_hasRoom_0 (by decide) ?_
  refine lv_istore_n (lv' := [(2, .int 0), (0, .ref (HB.size + 32)), (1, .int v1)]) hx hb dX3_hasRoom_1 rfl hl (by decide) rfl (fun ls hl => ?_)
  refine lv_iconst (v := 0) hx hb dX3_hasRoom_2 (by decide) ?_
  refine lv_istore_n (lv' := [(3, .int 0), (2, .int 0), (0, .ref (HB.size + 32)), (1, .int v1)]) hx hb dX3_hasRoom_3 rfl hl (by decide) rfl (fun ls hl => ?_)
  exact b4  F H locs ls G7 G9 v1 0 0  hI e7 e9 (lv_sub hl [2, 3, 1, 0] rfl) h
noncomputable def f_X3_leftAsKnown_l7b (F : Nat)  (k7 : Grp → Int32 → Int32 → Int32 → Option (Int32)) (G8 : Grp) (v1 : Int32) (v2 : Int32) (v3 : Int32) : Option (Int32) :=
  if v3 < 0 then some (-1) else ck v3 100 (if (G8.1 41 v3.toNatClampNeg) = v1 then ck v3 100 (if v2 < (G8.1 42 v3.toNatClampNeg) then bn (v3 + (-1)) (fun v3_38 => k7 G8 v1 v2 v3_38) else ck v3 100 (some (G8.1 43 v3.toNatClampNeg))) else bn (v3 + (-1)) (fun v3_38 => k7 G8 v1 v2 v3_38))
noncomputable def f_X3_leftAsKnown_l7 (F : Nat)  (fu : Nat) : Grp → Int32 → Int32 → Int32 → Option (Int32) := Nat.rec (motive := fun _ => Grp → Int32 → Int32 → Int32 → Option (Int32)) (fun _ _ _ _ => none) (fun _ ih => f_X3_leftAsKnown_l7b F  ih) fu
noncomputable def f_X3_leftAsKnown (F : Nat) (G8 : Grp) (v1 : Int32) (v2 : Int32) : Option (Int32) :=
  bn (((G8.1 32 12) - 1)) (fun v3_6 => f_X3_leftAsKnown_l7 F  F G8 v1 v2 v3_6)
def RM_X3_leftAsKnown : Room := { frames := 0, cells := 0, slots := 0, locals := 0 }
abbrev B_X3_leftAsKnown (HB : Heap) (D : va_G) (y : Nat → ClassId) (n : Nat) (κ : Nat → Nat) (σ : St) (q : Int32) : Heap → Prop := fun H => IV HB D y n n κ σ [] H
set_option maxRecDepth 100000 in
set_option maxHeartbeats 4000000 in
theorem c_X3_leftAsKnown (l : Launch) (HB : Heap) (D : va_G) (y : Nat → ClassId) (F n : Nat) (κ : Nat → Nat) (σ : St) (hN : N0 ≤ n) (v1 : Int32)  (v2 : Int32)  (G8 : Grp) (e8 : σ 8 = G8) (q : Int32) (h : f_X3_leftAsKnown F G8 v1 v2 = some q) : MT l HB D y yX3_leftAsKnown cX3_leftAsKnown 4 (some .int) RM_X3_leftAsKnown [.ref (HB.size + 32), .int v1, .int v2] (IV HB D y n n κ σ []) (some (.int q)) (B_X3_leftAsKnown HB D y n κ σ q) := by
  refine Met.ofW (cc := cX3_leftAsKnown) (maxL := 4) (ret := (some .int)) (by decide) rfl ?_
  intro p e s m args below meth c s₁ BL hml hv
  obtain ⟨rfl, hI, hKK⟩ := hv
  have hx := BL.exec
  have hb := BL.bytes
  have hr := BL.returns
  have hts : ∀ w ∈ gtb, w.before _ s = true := fun w hw => atoms_spec BL.pre w (List.mem_cons_of_mem _ hw)
  have hml : c.maxLocals = 4 := hml
  have hown : s.vm.findClass RX3 = some m.cls := findClass_of_methodNamed BL.named
  have hlocks := BL.notSynchronized
  have hk0 := hI.1.2.2.2.2
  have hl := lv_entry ([.ref (HB.size + 32), .int v1, .int v2]) (n := 4) (Nat.le_of_ble_eq_true rfl)
  rw [lg_entry_eq]
  generalize (lg_sl ([.ref (HB.size + 32), .int v1, .int v2]) ++ List.replicate (4 - (lg_sl ([.ref (HB.size + 32), .int v1, .int v2])).length) Slot.unset).toArray = ls at hl ⊢
  have hl : lv_has ls 4 [(0, .ref (HB.size + 32)), (1, .int v1), (2, .int v2)] := hl
  generalize hargs : ([.ref (HB.size + 32), .int v1, .int v2] : List Value).toArray = args at *
  have b7 : ∀ (fu : Nat) (H : Heap) (locs : List Loc) (ls : Array Slot) (G8 : Grp) (v1 : Int32) (v2 : Int32) (v3 : Int32) , IV HB D y n n κ σ locs H → σ 8 = G8 → lv_has ls 4 [(0, .ref (HB.size + 32)), (1, .int v1), (2, .int v2), (3, .int v3)] → f_X3_leftAsKnown_l7 F  fu G8 v1 v2 v3 = some q → WX RM_X3_leftAsKnown p l e s m args below meth c HB (some (.int q)) (B_X3_leftAsKnown HB D y n κ σ q) H locs (F0 m 7 ls []) := by
    intro  fu
    induction fu with
    | zero =>
      intro H locs ls G8 v1 v2 v3 hI e8 hl h
      exact absurd h (by intro h; cases h)
    | succ fu hk7 =>
      intro H locs ls G8 v1 v2 v3 hI e8 hl h
      have h : f_X3_leftAsKnown_l7b F  (f_X3_leftAsKnown_l7 F  fu) G8 v1 v2 v3 = some q := h
      generalize f_X3_leftAsKnown_l7 F  fu = k7 at h hk7
      unfold f_X3_leftAsKnown_l7b at h
      refine lv_iload_n hx hb dX3_leftAsKnown_7 rfl (lv_at hl 3 rfl) ?_
      refine lv_if_lt (tgt := 44) hx hb dX3_leftAsKnown_8 (by decide) (fun hc => ?_) (fun hc => ?_)
      · replace h := ite_t hc h
        refine lv_iconst (v := (-1)) hx hb dX3_leftAsKnown_44 (by decide) ?_
        have hq := Option.some.inj h
        exact W.iret (v := (-1)) hx hb hr (fun t ht hW => qc_mk (congrArg (fun z => Outcome.returned (some (Value.int z))) hq) (by rw [ht]; exact hI.nil)) hI.2.2 dX3_leftAsKnown_45 hlocks
      · replace h := ite_f hc h
        refine lv_aload_n hx hb dX3_leftAsKnown_11 rfl (lv_at hl 0 rfl) ?_
        refine gf_X3_39 hx hb hts hown hKK hI hN dX3_leftAsKnown_12 ?_
        refine lv_iload_n hx hb dX3_leftAsKnown_15 rfl (lv_at hl 3 rfl) ?_
        obtain ⟨hin_, h⟩ := ck_e h
        refine la_23 hx hb hKK hI e8 (lc41 hN) (kc41 hk0) hin_ dX3_leftAsKnown_16 ?_
        refine lv_iload_n hx hb dX3_leftAsKnown_17 rfl (lv_at hl 1 rfl) ?_
        refine lv_icmp_ne (tgt := 38) hx hb dX3_leftAsKnown_18 (by decide) (fun hc => ?_) (fun hc => ?_)
        · replace h := ite_f hc h
          obtain ⟨v3_38, qq, h⟩ := bn_e h
          refine lv_iinc (v := v3_38) (lv' := [(3, .int v3_38), (0, .ref (HB.size + 32)), (1, .int v1), (2, .int v2)]) hx hb dX3_leftAsKnown_38 hl (k := 3) rfl (by rw [qq]; rfl) (by decide) rfl (fun ls hl => ?_)
          refine lv_goto (tgt := 7) hx hb dX3_leftAsKnown_41 (by decide) ?_
          exact hk7 H locs ls G8 v1 v2 v3_38  hI e8 (lv_sub hl [1, 2, 3, 0] rfl) h
        · replace h := ite_t hc h
          refine lv_aload_n hx hb dX3_leftAsKnown_21 rfl (lv_at hl 0 rfl) ?_
          refine gf_X3_42 hx hb hts hown hKK hI hN dX3_leftAsKnown_22 ?_
          refine lv_iload_n hx hb dX3_leftAsKnown_25 rfl (lv_at hl 3 rfl) ?_
          obtain ⟨hin_, h⟩ := ck_e h
          refine la_23 hx hb hKK hI e8 (lc42 hN) (kc42 hk0) hin_ dX3_leftAsKnown_26 ?_
          refine lv_iload_n hx hb dX3_leftAsKnown_27 rfl (lv_at hl 2 rfl) ?_
          refine lv_icmp_gt (tgt := 38) hx hb dX3_leftAsKnown_28 (by decide) (fun hc => ?_) (fun hc => ?_)
          · replace h := ite_t hc h
            obtain ⟨v3_38, qq, h⟩ := bn_e h
            refine lv_iinc (v := v3_38) (lv' := [(3, .int v3_38), (0, .ref (HB.size + 32)), (1, .int v1), (2, .int v2)]) hx hb dX3_leftAsKnown_38 hl (k := 3) rfl (by rw [qq]; rfl) (by decide) rfl (fun ls hl => ?_)
            refine lv_goto (tgt := 7) hx hb dX3_leftAsKnown_41 (by decide) ?_
            exact hk7 H locs ls G8 v1 v2 v3_38  hI e8 (lv_sub hl [1, 2, 3, 0] rfl) h
          · replace h := ite_f hc h
            refine lv_aload_n hx hb dX3_leftAsKnown_31 rfl (lv_at hl 0 rfl) ?_
            refine gf_X3_45 hx hb hts hown hKK hI hN dX3_leftAsKnown_32 ?_
            refine lv_iload_n hx hb dX3_leftAsKnown_35 rfl (lv_at hl 3 rfl) ?_
            obtain ⟨hin_, h⟩ := ck_e h
            refine la_23 hx hb hKK hI e8 (lc43 hN) (kc43 hk0) hin_ dX3_leftAsKnown_36 ?_
            have hq := Option.some.inj h
            exact W.iret (v := (G8.1 43 v3.toNatClampNeg)) hx hb hr (fun t ht hW => qc_mk (congrArg (fun z => Outcome.returned (some (Value.int z))) hq) (by rw [ht]; exact hI.nil)) hI.2.2 dX3_leftAsKnown_37 hlocks
  show WX RM_X3_leftAsKnown p l e s m args below meth c HB (some (.int q)) (B_X3_leftAsKnown HB D y n κ σ q) s.heap [] (F0 m 0 ls [])
  generalize s.heap = H at hI ⊢
  unfold f_X3_leftAsKnown at h
  obtain ⟨locs, hlocs⟩ : ∃ x : List Loc, x = [] := ⟨_, rfl⟩
  rw [← hlocs] at hI ⊢
  refine lv_aload_n hx hb dX3_leftAsKnown_0 rfl (lv_at hl 0 rfl) ?_
  refine gt_X3_97 hx hb hts hown hKK hI e8 (lc32 hN) (kc32 hk0) dX3_leftAsKnown_1 ?_
  refine lv_iconst (v := 1) hx hb dX3_leftAsKnown_4 (by decide) ?_
  refine lv_isub hx hb dX3_leftAsKnown_5 ?_
  obtain ⟨v3_6, qq, h⟩ := bn_e h
  refine topi qq ?_
  refine lv_istore_n (lv' := [(3, .int v3_6), (0, .ref (HB.size + 32)), (1, .int v1), (2, .int v2)]) hx hb dX3_leftAsKnown_6 rfl hl (by decide) rfl (fun ls hl => ?_)
  exact b7  F H locs ls G8 v1 v2 v3_6  hI e8 (lv_sub hl [1, 2, 3, 0] rfl) h
noncomputable def f_X3_isFree (F : Nat) (G6 : Grp) (G7 : Grp) (G8 : Grp) (G9 : Grp) (v1 : Int32) (v2 : Int32) : Option (Int32) :=
  ob (f_X3_hasChild F G6 v1) (fun q_2 => if q_2 = 0 then some 0 else ob (f_X3_openPairOf F G7 G9 v1) (fun q_10 => om q_10 (ob (f_X3_leftAsKnown F G8 v1 v2) (fun q_19 => if q_19 = (-1) then some 1 else some 0)) (fun t_10 => some 0)))
def RM_X3_isFree : Room := { frames := 2, cells := 0, slots := 0, locals := 43 }
abbrev B_X3_isFree (HB : Heap) (D : va_G) (y : Nat → ClassId) (n : Nat) (κ : Nat → Nat) (σ : St) (q : Int32) : Heap → Prop := fun H => IV HB D y n n κ σ [] H
set_option maxRecDepth 100000 in
set_option maxHeartbeats 4000000 in
theorem c_X3_isFree (l : Launch) (HB : Heap) (D : va_G) (y : Nat → ClassId) (F n : Nat) (κ : Nat → Nat) (σ : St) (hN : N0 ≤ n) (v1 : Int32)  (v2 : Int32)  (G6 : Grp) (e6 : σ 6 = G6) (G7 : Grp) (e7 : σ 7 = G7) (G8 : Grp) (e8 : σ 8 = G8) (G9 : Grp) (e9 : σ 9 = G9) (q : Int32) (h : f_X3_isFree F G6 G7 G8 G9 v1 v2 = some q) : MT l HB D y yX3_isFree cX3_isFree 3 (some .boolean) RM_X3_isFree [.ref (HB.size + 32), .int v1, .int v2] (IV HB D y n n κ σ []) (some (.int q)) (B_X3_isFree HB D y n κ σ q) := by
  refine Met.ofW (cc := cX3_isFree) (maxL := 3) (ret := (some .boolean)) (by decide) rfl ?_
  intro p e s m args below meth c s₁ BL hml hv
  obtain ⟨rfl, hI, hKK⟩ := hv
  have hx := BL.exec
  have hb := BL.bytes
  have hr := BL.returns
  have hts : ∀ w ∈ gtb, w.before _ s = true := fun w hw => atoms_spec BL.pre w (List.mem_cons_of_mem _ hw)
  have hml : c.maxLocals = 3 := hml
  have hown : s.vm.findClass RX3 = some m.cls := findClass_of_methodNamed BL.named
  have hlocks := BL.notSynchronized
  have hk0 := hI.1.2.2.2.2
  have hl := lv_entry ([.ref (HB.size + 32), .int v1, .int v2]) (n := 3) (Nat.le_of_ble_eq_true rfl)
  rw [lg_entry_eq]
  generalize (lg_sl ([.ref (HB.size + 32), .int v1, .int v2]) ++ List.replicate (3 - (lg_sl ([.ref (HB.size + 32), .int v1, .int v2])).length) Slot.unset).toArray = ls at hl ⊢
  have hl : lv_has ls 3 [(0, .ref (HB.size + 32)), (1, .int v1), (2, .int v2)] := hl
  generalize hargs : ([.ref (HB.size + 32), .int v1, .int v2] : List Value).toArray = args at *
  show WX RM_X3_isFree p l e s m args below meth c HB (some (.int q)) (B_X3_isFree HB D y n κ σ q) s.heap [] (F0 m 0 ls [])
  generalize s.heap = H at hI ⊢
  unfold f_X3_isFree at h
  obtain ⟨locs, hlocs⟩ : ∃ x : List Loc, x = [] := ⟨_, rfl⟩
  rw [← hlocs] at hI ⊢
  refine lv_aload_n hx hb dX3_isFree_0 rfl (lv_at hl 0 rfl) ?_
  refine lv_iload_n hx hb dX3_isFree_1 rfl (lv_at hl 1 rfl) ?_
  obtain ⟨q_2, hq_2, h⟩ := ob_e h
  refine r_callV (As := [.int v1]) (rest := []) hx hb hml hts hown (c_X3_hasChild l HB D y F n κ σ hN v1 G6 e6 q_2 hq_2) cal_X3_hasChild im_X3_hasChild se_X3_hasChild lm_X3_82 ⟨Nat.le_of_ble_eq_true rfl, Nat.le_of_ble_eq_true rfl⟩ hI.nil hKK (r_recv hKK hI (hE3 HB.size y) rfl (lc32 hN) (kc32 hk0)) rfl hl.1 hI.2.2 rfl (Nat.le_of_ble_eq_true rfl) dX3_isFree_2 ⟨Nat.le_of_ble_eq_true rfl, Nat.le_of_ble_eq_true rfl⟩ rfl rfl rfl (fun H locs hB hlo => ?_)
  have hI := hB.re hlo
  refine lv_if_eq (tgt := 30) hx hb dX3_isFree_5 (by decide) (fun hc => ?_) (fun hc => ?_)
  · replace h := ite_t hc h
    refine lv_iconst (v := 0) hx hb dX3_isFree_30 (by decide) ?_
    have hq := Option.some.inj h
    exact W.zret (v := 0) (ty := .boolean) hx hb hr rfl (fun t ht hW => qc_mk (congrArg (fun z => Outcome.returned (some (Value.int z))) hq) (by rw [ht]; exact hI.nil)) hI.2.2 dX3_isFree_31 hlocks
  · replace h := ite_f hc h
    refine lv_aload_n hx hb dX3_isFree_8 rfl (lv_at hl 0 rfl) ?_
    refine lv_iload_n hx hb dX3_isFree_9 rfl (lv_at hl 1 rfl) ?_
    obtain ⟨q_10, hq_10, h⟩ := ob_e h
    refine r_callV (As := [.int v1]) (rest := []) hx hb hml hts hown (c_X3_openPairOf l HB D y F n κ σ hN v1 G7 e7 G9 e9 q_10 hq_10) cal_X3_openPairOf im_X3_openPairOf se_X3_openPairOf lm_X3_86 ⟨Nat.le_of_ble_eq_true rfl, Nat.le_of_ble_eq_true rfl⟩ hI.nil hKK (r_recv hKK hI (hE3 HB.size y) rfl (lc32 hN) (kc32 hk0)) rfl hl.1 hI.2.2 rfl (Nat.le_of_ble_eq_true rfl) dX3_isFree_10 ⟨Nat.le_of_ble_eq_true rfl, Nat.le_of_ble_eq_true rfl⟩ rfl rfl rfl (fun H locs hB hlo => ?_)
    obtain ⟨hB, hf_10⟩ := hB
    have hI := hB.re hlo
    rcases om_e h with ⟨eo, h⟩ | ⟨t_10, eo, h⟩
    · refine topn eo ?_
      refine lv_ifnonnullN hx hb dX3_isFree_13 ?_
      refine lv_aload_n hx hb dX3_isFree_16 rfl (lv_at hl 0 rfl) ?_
      refine lv_iload_n hx hb dX3_isFree_17 rfl (lv_at hl 1 rfl) ?_
      refine lv_iload_n hx hb dX3_isFree_18 rfl (lv_at hl 2 rfl) ?_
      obtain ⟨q_19, hq_19, h⟩ := ob_e h
      refine r_callV (As := [.int v1, .int v2]) (rest := []) hx hb hml hts hown (c_X3_leftAsKnown l HB D y F n κ σ hN v1 v2 G8 e8 q_19 hq_19) cal_X3_leftAsKnown im_X3_leftAsKnown se_X3_leftAsKnown lm_X3_89 ⟨Nat.le_of_ble_eq_true rfl, Nat.le_of_ble_eq_true rfl⟩ hI.nil hKK (r_recv hKK hI (hE3 HB.size y) rfl (lc32 hN) (kc32 hk0)) rfl hl.1 hI.2.2 rfl (Nat.le_of_ble_eq_true rfl) dX3_isFree_19 ⟨Nat.le_of_ble_eq_true rfl, Nat.le_of_ble_eq_true rfl⟩ rfl rfl rfl (fun H locs hB hlo => ?_)
      have hI := hB.re hlo
      refine lv_iconst (v := (-1)) hx hb dX3_isFree_22 (by decide) ?_
      refine lv_icmp_ne (tgt := 30) hx hb dX3_isFree_23 (by decide) (fun hc => ?_) (fun hc => ?_)
      · replace h := ite_f hc h
        refine lv_iconst (v := 0) hx hb dX3_isFree_30 (by decide) ?_
        have hq := Option.some.inj h
        exact W.zret (v := 0) (ty := .boolean) hx hb hr rfl (fun t ht hW => qc_mk (congrArg (fun z => Outcome.returned (some (Value.int z))) hq) (by rw [ht]; exact hI.nil)) hI.2.2 dX3_isFree_31 hlocks
      · replace h := ite_t hc h
        refine lv_iconst (v := 1) hx hb dX3_isFree_26 (by decide) ?_
        refine lv_goto (tgt := 31) hx hb dX3_isFree_27 (by decide) ?_
        have hq := Option.some.inj h
        exact W.zret (v := 1) (ty := .boolean) hx hb hr rfl (fun t ht hW => qc_mk (congrArg (fun z => Outcome.returned (some (Value.int z))) hq) (by rw [ht]; exact hI.nil)) hI.2.2 dX3_isFree_31 hlocks
    · refine topr eo ?_
      obtain ⟨ha_10, hk_10⟩ := hf_10 _ eo
      refine lv_ifnonnull (tgt := 30) hx hb dX3_isFree_13 (by decide) ?_
      refine lv_iconst (v := 0) hx hb dX3_isFree_30 (by decide) ?_
      have hq := Option.some.inj h
      exact W.zret (v := 0) (ty := .boolean) hx hb hr rfl (fun t ht hW => qc_mk (congrArg (fun z => Outcome.returned (some (Value.int z))) hq) (by rw [ht]; exact hI.nil)) hI.2.2 dX3_isFree_31 hlocks
noncomputable def f_X3_isPaired (F : Nat) (G7 : Grp) (G9 : Grp) (v1 : Int32) (v2 : Int32) : Option (Int32) :=
  ob (f_X3_openPairOf F G7 G9 v2) (fun q_2 => om q_2 (some 0) (fun t_2 => if (G9.1 t_2 1) = v1 then some 1 else some 0))
def RM_X3_isPaired : Room := { frames := 2, cells := 0, slots := 0, locals := 42 }
abbrev B_X3_isPaired (HB : Heap) (D : va_G) (y : Nat → ClassId) (n : Nat) (κ : Nat → Nat) (σ : St) (q : Int32) : Heap → Prop := fun H => IV HB D y n n κ σ [] H
set_option maxRecDepth 100000 in
set_option maxHeartbeats 4000000 in
theorem c_X3_isPaired (l : Launch) (HB : Heap) (D : va_G) (y : Nat → ClassId) (F n : Nat) (κ : Nat → Nat) (σ : St) (hN : N0 ≤ n) (v1 : Int32)  (v2 : Int32)  (G7 : Grp) (e7 : σ 7 = G7) (G9 : Grp) (e9 : σ 9 = G9) (q : Int32) (h : f_X3_isPaired F G7 G9 v1 v2 = some q) : MT l HB D y yX3_isPaired cX3_isPaired 4 (some .boolean) RM_X3_isPaired [.ref (HB.size + 32), .int v1, .int v2] (IV HB D y n n κ σ []) (some (.int q)) (B_X3_isPaired HB D y n κ σ q) := by
  refine Met.ofW (cc := cX3_isPaired) (maxL := 4) (ret := (some .boolean)) (by decide) rfl ?_
  intro p e s m args below meth c s₁ BL hml hv
  obtain ⟨rfl, hI, hKK⟩ := hv
  have hx := BL.exec
  have hb := BL.bytes
  have hr := BL.returns
  have hts : ∀ w ∈ gtb, w.before _ s = true := fun w hw => atoms_spec BL.pre w (List.mem_cons_of_mem _ hw)
  have hml : c.maxLocals = 4 := hml
  have hown : s.vm.findClass RX3 = some m.cls := findClass_of_methodNamed BL.named
  have hlocks := BL.notSynchronized
  have hk0 := hI.1.2.2.2.2
  have hl := lv_entry ([.ref (HB.size + 32), .int v1, .int v2]) (n := 4) (Nat.le_of_ble_eq_true rfl)
  rw [lg_entry_eq]
  generalize (lg_sl ([.ref (HB.size + 32), .int v1, .int v2]) ++ List.replicate (4 - (lg_sl ([.ref (HB.size + 32), .int v1, .int v2])).length) Slot.unset).toArray = ls at hl ⊢
  have hl : lv_has ls 4 [(0, .ref (HB.size + 32)), (1, .int v1), (2, .int v2)] := hl
  generalize hargs : ([.ref (HB.size + 32), .int v1, .int v2] : List Value).toArray = args at *
  show WX RM_X3_isPaired p l e s m args below meth c HB (some (.int q)) (B_X3_isPaired HB D y n κ σ q) s.heap [] (F0 m 0 ls [])
  generalize s.heap = H at hI ⊢
  unfold f_X3_isPaired at h
  obtain ⟨locs, hlocs⟩ : ∃ x : List Loc, x = [] := ⟨_, rfl⟩
  rw [← hlocs] at hI ⊢
  refine lv_aload_n hx hb dX3_isPaired_0 rfl (lv_at hl 0 rfl) ?_
  refine lv_iload_n hx hb dX3_isPaired_1 rfl (lv_at hl 2 rfl) ?_
  obtain ⟨q_2, hq_2, h⟩ := ob_e h
  refine r_callV (As := [.int v2]) (rest := []) hx hb hml hts hown (c_X3_openPairOf l HB D y F n κ σ hN v2 G7 e7 G9 e9 q_2 hq_2) cal_X3_openPairOf im_X3_openPairOf se_X3_openPairOf lm_X3_86 ⟨Nat.le_of_ble_eq_true rfl, Nat.le_of_ble_eq_true rfl⟩ hI.nil hKK (r_recv hKK hI (hE3 HB.size y) rfl (lc32 hN) (kc32 hk0)) rfl hl.1 hI.2.2 rfl (Nat.le_of_ble_eq_true rfl) dX3_isPaired_2 ⟨Nat.le_of_ble_eq_true rfl, Nat.le_of_ble_eq_true rfl⟩ rfl rfl rfl (fun H locs hB hlo => ?_)
  obtain ⟨hB, hf_2⟩ := hB
  have hI := hB.re hlo
  rcases om_e h with ⟨eo, h⟩ | ⟨t_2, eo, h⟩
  · refine topn eo ?_
    refine lv_astore_nN (lv' := [(3, .null), (0, .ref (HB.size + 32)), (1, .int v1), (2, .int v2)]) hx hb dX3_isPaired_5 rfl hl (by decide) rfl (fun ls hl => ?_)
    refine lv_aload_nN hx hb dX3_isPaired_6 rfl (lv_at hl 0 rfl) ?_
    refine lv_ifnullN (tgt := 22) hx hb dX3_isPaired_7 (by decide) ?_
    refine lv_iconst (v := 0) hx hb dX3_isPaired_22 (by decide) ?_
    have hq := Option.some.inj h
    exact W.zret (v := 0) (ty := .boolean) hx hb hr rfl (fun t ht hW => qc_mk (congrArg (fun z => Outcome.returned (some (Value.int z))) hq) (by rw [ht]; exact hI.nil)) hI.2.2 dX3_isPaired_23 hlocks
  · refine topr eo ?_
    obtain ⟨ha_2, hk_2⟩ := hf_2 _ eo
    refine lv_astore_n (lv' := [(3, .ref (HB.size + t_2)), (0, .ref (HB.size + 32)), (1, .int v1), (2, .int v2)]) hx hb dX3_isPaired_5 rfl hl (by decide) rfl (fun ls hl => ?_)
    refine lv_aload_n hx hb dX3_isPaired_6 rfl (lv_at hl 0 rfl) ?_
    refine lv_ifnull hx hb dX3_isPaired_7 ?_
    refine lv_aload_n hx hb dX3_isPaired_10 rfl (lv_at hl 0 rfl) ?_
    refine gt_X3_79 hx hb hts hown hKK hI e9 ha_2 hk_2 dX3_isPaired_11 ?_
    refine lv_iload_n hx hb dX3_isPaired_14 rfl (lv_at hl 2 rfl) ?_
    refine lv_icmp_ne (tgt := 22) hx hb dX3_isPaired_15 (by decide) (fun hc => ?_) (fun hc => ?_)
    · replace h := ite_f hc h
      refine lv_iconst (v := 0) hx hb dX3_isPaired_22 (by decide) ?_
      have hq := Option.some.inj h
      exact W.zret (v := 0) (ty := .boolean) hx hb hr rfl (fun t ht hW => qc_mk (congrArg (fun z => Outcome.returned (some (Value.int z))) hq) (by rw [ht]; exact hI.nil)) hI.2.2 dX3_isPaired_23 hlocks
    · replace h := ite_t hc h
      refine lv_iconst (v := 1) hx hb dX3_isPaired_18 (by decide) ?_
      refine lv_goto (tgt := 23) hx hb dX3_isPaired_19 (by decide) ?_
      have hq := Option.some.inj h
      exact W.zret (v := 1) (ty := .boolean) hx hb hr rfl (fun t ht hW => qc_mk (congrArg (fun z => Outcome.returned (some (Value.int z))) hq) (by rw [ht]; exact hI.nil)) hI.2.2 dX3_isPaired_23 hlocks
noncomputable def f_X3_hasSiblingOf_l31b (F : Nat)  (k31 : Grp → Grp → Grp → Int32 → Int32 → Int32 → Option (Int32)) (G6 : Grp) (G7 : Grp) (G9 : Grp) (v1 : Int32) (v2 : Int32) (v3 : Int32) : Option (Int32) :=
  if (G6.1 32 5) ≤ v3 then some 0 else ck v3 16 (if (G6.1 39 v3.toNatClampNeg) = v2 then ob (f_X3_isPaired F G7 G9 v1 v3) (fun q_52 => if q_52 = 0 then bn (v3 + 1) (fun v3_60 => k31 G6 G7 G9 v1 v2 v3_60) else some 1) else bn (v3 + 1) (fun v3_60 => k31 G6 G7 G9 v1 v2 v3_60))
noncomputable def f_X3_hasSiblingOf_l31 (F : Nat)  (fu : Nat) : Grp → Grp → Grp → Int32 → Int32 → Int32 → Option (Int32) := Nat.rec (motive := fun _ => Grp → Grp → Grp → Int32 → Int32 → Int32 → Option (Int32)) (fun _ _ _ _ _ _ => none) (fun _ ih => f_X3_hasSiblingOf_l31b F  ih) fu
noncomputable def f_X3_hasSiblingOf (F : Nat) (G6 : Grp) (G7 : Grp) (G9 : Grp) (v1 : Int32) (v2 : Int32) : Option (Int32) :=
  ck v2 16 (ob (f_X3_hasChild F G6 (G6.1 39 v2.toNatClampNeg)) (fun q_7 => if q_7 = 0 then f_X3_hasSiblingOf_l31 F  F G6 G7 G9 v1 v2 0 else ck v2 16 (ob (f_X3_isPaired F G7 G9 v1 (G6.1 39 v2.toNatClampNeg)) (fun q_21 => if q_21 = 0 then f_X3_hasSiblingOf_l31 F  F G6 G7 G9 v1 v2 0 else some 1))))
def RM_X3_hasSiblingOf : Room := { frames := 3, cells := 0, slots := 0, locals := 65 }
abbrev B_X3_hasSiblingOf (HB : Heap) (D : va_G) (y : Nat → ClassId) (n : Nat) (κ : Nat → Nat) (σ : St) (q : Int32) : Heap → Prop := fun H => IV HB D y n n κ σ [] H
set_option maxRecDepth 100000 in
set_option maxHeartbeats 4000000 in
theorem c_X3_hasSiblingOf (l : Launch) (HB : Heap) (D : va_G) (y : Nat → ClassId) (F n : Nat) (κ : Nat → Nat) (σ : St) (hN : N0 ≤ n) (v1 : Int32)  (v2 : Int32)  (G6 : Grp) (e6 : σ 6 = G6) (G7 : Grp) (e7 : σ 7 = G7) (G9 : Grp) (e9 : σ 9 = G9) (q : Int32) (h : f_X3_hasSiblingOf F G6 G7 G9 v1 v2 = some q) : MT l HB D y yX3_hasSiblingOf cX3_hasSiblingOf 4 (some .boolean) RM_X3_hasSiblingOf [.ref (HB.size + 32), .int v1, .int v2] (IV HB D y n n κ σ []) (some (.int q)) (B_X3_hasSiblingOf HB D y n κ σ q) := by
  refine Met.ofW (cc := cX3_hasSiblingOf) (maxL := 4) (ret := (some .boolean)) (by decide) rfl ?_
  intro p e s m args below meth c s₁ BL hml hv
  obtain ⟨rfl, hI, hKK⟩ := hv
  have hx := BL.exec
  have hb := BL.bytes
  have hr := BL.returns
  have hts : ∀ w ∈ gtb, w.before _ s = true := fun w hw => atoms_spec BL.pre w (List.mem_cons_of_mem _ hw)
  have hml : c.maxLocals = 4 := hml
  have hown : s.vm.findClass RX3 = some m.cls := findClass_of_methodNamed BL.named
  have hlocks := BL.notSynchronized
  have hk0 := hI.1.2.2.2.2
  have hl := lv_entry ([.ref (HB.size + 32), .int v1, .int v2]) (n := 4) (Nat.le_of_ble_eq_true rfl)
  rw [lg_entry_eq]
  generalize (lg_sl ([.ref (HB.size + 32), .int v1, .int v2]) ++ List.replicate (4 - (lg_sl ([.ref (HB.size + 32), .int v1, .int v2])).length) Slot.unset).toArray = ls at hl ⊢
  have hl : lv_has ls 4 [(0, .ref (HB.size + 32)), (1, .int v1), (2, .int v2)] := hl
  generalize hargs : ([.ref (HB.size + 32), .int v1, .int v2] : List Value).toArray = args at *
  have b31 : ∀ (fu : Nat) (H : Heap) (locs : List Loc) (ls : Array Slot) (G6 : Grp) (G7 : Grp) (G9 : Grp) (v1 : Int32) (v2 : Int32) (v3 : Int32) , IV HB D y n n κ σ locs H → σ 6 = G6 → σ 7 = G7 → σ 9 = G9 → lv_has ls 4 [(0, .ref (HB.size + 32)), (1, .int v1), (2, .int v2), (3, .int v3)] → f_X3_hasSiblingOf_l31 F  fu G6 G7 G9 v1 v2 v3 = some q → WX RM_X3_hasSiblingOf p l e s m args below meth c HB (some (.int q)) (B_X3_hasSiblingOf HB D y n κ σ q) H locs (F0 m 31 ls []) := by
    intro  fu
    induction fu with
    | zero =>
      intro H locs ls G6 G7 G9 v1 v2 v3 hI e6 e7 e9 hl h
      exact absurd h (by intro h; cases h)
    | succ fu hk31 =>
      intro H locs ls G6 G7 G9 v1 v2 v3 hI e6 e7 e9 hl h
      have h : f_X3_hasSiblingOf_l31b F  (f_X3_hasSiblingOf_l31 F  fu) G6 G7 G9 v1 v2 v3 = some q := h
      generalize f_X3_hasSiblingOf_l31 F  fu = k31 at h hk31
      unfold f_X3_hasSiblingOf_l31b at h
      refine lv_iload_n hx hb dX3_hasSiblingOf_31 rfl (lv_at hl 3 rfl) ?_
      refine lv_aload_n hx hb dX3_hasSiblingOf_32 rfl (lv_at hl 0 rfl) ?_
      refine gt_X3_59 hx hb hts hown hKK hI e6 (lc32 hN) (kc32 hk0) dX3_hasSiblingOf_33 ?_
      refine lv_icmp_ge (tgt := 66) hx hb dX3_hasSiblingOf_36 (by decide) (fun hc => ?_) (fun hc => ?_)
      · replace h := ite_t hc h
        refine lv_iconst (v := 0) hx hb dX3_hasSiblingOf_66 (by decide) ?_
        have hq := Option.some.inj h
        exact W.zret (v := 0) (ty := .boolean) hx hb hr rfl (fun t ht hW => qc_mk (congrArg (fun z => Outcome.returned (some (Value.int z))) hq) (by rw [ht]; exact hI.nil)) hI.2.2 dX3_hasSiblingOf_67 hlocks
      · replace h := ite_f hc h
        refine lv_aload_n hx hb dX3_hasSiblingOf_39 rfl (lv_at hl 0 rfl) ?_
        refine gf_X3_30 hx hb hts hown hKK hI hN dX3_hasSiblingOf_40 ?_
        refine lv_iload_n hx hb dX3_hasSiblingOf_43 rfl (lv_at hl 3 rfl) ?_
        obtain ⟨hin_, h⟩ := ck_e h
        refine la_21 hx hb hKK hI e6 (lc39 hN) (kc39 hk0) hin_ dX3_hasSiblingOf_44 ?_
        refine lv_iload_n hx hb dX3_hasSiblingOf_45 rfl (lv_at hl 2 rfl) ?_
        refine lv_icmp_ne (tgt := 60) hx hb dX3_hasSiblingOf_46 (by decide) (fun hc => ?_) (fun hc => ?_)
        · replace h := ite_f hc h
          obtain ⟨v3_60, qq, h⟩ := bn_e h
          refine lv_iinc (v := v3_60) (lv' := [(3, .int v3_60), (0, .ref (HB.size + 32)), (1, .int v1), (2, .int v2)]) hx hb dX3_hasSiblingOf_60 hl (k := 3) rfl (by rw [qq]; rfl) (by decide) rfl (fun ls hl => ?_)
          refine lv_goto (tgt := 31) hx hb dX3_hasSiblingOf_63 (by decide) ?_
          exact hk31 H locs ls G6 G7 G9 v1 v2 v3_60  hI e6 e7 e9 (lv_sub hl [1, 2, 3, 0] rfl) h
        · replace h := ite_t hc h
          refine lv_aload_n hx hb dX3_hasSiblingOf_49 rfl (lv_at hl 0 rfl) ?_
          refine lv_iload_n hx hb dX3_hasSiblingOf_50 rfl (lv_at hl 1 rfl) ?_
          refine lv_iload_n hx hb dX3_hasSiblingOf_51 rfl (lv_at hl 3 rfl) ?_
          obtain ⟨q_52, hq_52, h⟩ := ob_e h
          refine r_callV (As := [.int v1, .int v3]) (rest := []) hx hb hml hts hown (c_X3_isPaired l HB D y F n κ σ hN v1 v3 G7 e7 G9 e9 q_52 hq_52) cal_X3_isPaired im_X3_isPaired se_X3_isPaired lm_X3_93 ⟨Nat.le_of_ble_eq_true rfl, Nat.le_of_ble_eq_true rfl⟩ hI.nil hKK (r_recv hKK hI (hE3 HB.size y) rfl (lc32 hN) (kc32 hk0)) rfl hl.1 hI.2.2 rfl (Nat.le_of_ble_eq_true rfl) dX3_hasSiblingOf_52 ⟨Nat.le_of_ble_eq_true rfl, Nat.le_of_ble_eq_true rfl⟩ rfl rfl rfl (fun H locs hB hlo => ?_)
          have hI := hB.re hlo
          refine lv_if_eq (tgt := 60) hx hb dX3_hasSiblingOf_55 (by decide) (fun hc => ?_) (fun hc => ?_)
          · replace h := ite_t hc h
            obtain ⟨v3_60, qq, h⟩ := bn_e h
            refine lv_iinc (v := v3_60) (lv' := [(3, .int v3_60), (0, .ref (HB.size + 32)), (1, .int v1), (2, .int v2)]) hx hb dX3_hasSiblingOf_60 hl (k := 3) rfl (by rw [qq]; rfl) (by decide) rfl (fun ls hl => ?_)
            refine lv_goto (tgt := 31) hx hb dX3_hasSiblingOf_63 (by decide) ?_
            exact hk31 H locs ls G6 G7 G9 v1 v2 v3_60  hI e6 e7 e9 (lv_sub hl [1, 2, 3, 0] rfl) h
          · replace h := ite_f hc h
            refine lv_iconst (v := 1) hx hb dX3_hasSiblingOf_58 (by decide) ?_
            have hq := Option.some.inj h
            exact W.zret (v := 1) (ty := .boolean) hx hb hr rfl (fun t ht hW => qc_mk (congrArg (fun z => Outcome.returned (some (Value.int z))) hq) (by rw [ht]; exact hI.nil)) hI.2.2 dX3_hasSiblingOf_59 hlocks
  show WX RM_X3_hasSiblingOf p l e s m args below meth c HB (some (.int q)) (B_X3_hasSiblingOf HB D y n κ σ q) s.heap [] (F0 m 0 ls [])
  generalize s.heap = H at hI ⊢
  unfold f_X3_hasSiblingOf at h
  obtain ⟨locs, hlocs⟩ : ∃ x : List Loc, x = [] := ⟨_, rfl⟩
  rw [← hlocs] at hI ⊢
  refine lv_aload_n hx hb dX3_hasSiblingOf_0 rfl (lv_at hl 0 rfl) ?_
  refine lv_aload_n hx hb dX3_hasSiblingOf_1 rfl (lv_at hl 0 rfl) ?_
  refine gf_X3_30 hx hb hts hown hKK hI hN dX3_hasSiblingOf_2 ?_
  refine lv_iload_n hx hb dX3_hasSiblingOf_5 rfl (lv_at hl 2 rfl) ?_
  obtain ⟨hin_, h⟩ := ck_e h
  refine la_21 hx hb hKK hI e6 (lc39 hN) (kc39 hk0) hin_ dX3_hasSiblingOf_6 ?_
  obtain ⟨q_7, hq_7, h⟩ := ob_e h
  refine r_callV (As := [.int (G6.1 39 v2.toNatClampNeg)]) (rest := []) hx hb hml hts hown (c_X3_hasChild l HB D y F n κ σ hN (G6.1 39 v2.toNatClampNeg) G6 e6 q_7 hq_7) cal_X3_hasChild im_X3_hasChild se_X3_hasChild lm_X3_82 ⟨Nat.le_of_ble_eq_true rfl, Nat.le_of_ble_eq_true rfl⟩ hI.nil hKK (r_recv hKK hI (hE3 HB.size y) rfl (lc32 hN) (kc32 hk0)) rfl hl.1 hI.2.2 rfl (Nat.le_of_ble_eq_true rfl) dX3_hasSiblingOf_7 ⟨Nat.le_of_ble_eq_true rfl, Nat.le_of_ble_eq_true rfl⟩ rfl rfl rfl (fun H locs hB hlo => ?_)
  have hI := hB.re hlo
  refine lv_if_eq (tgt := 29) hx hb dX3_hasSiblingOf_10 (by decide) (fun hc => ?_) (fun hc => ?_)
  · replace h := ite_t hc h
    refine lv_iconst (v := 0) hx hb dX3_hasSiblingOf_29 (by decide) ?_
    refine lv_istore_n (lv' := [(3, .int 0), (0, .ref (HB.size + 32)), (1, .int v1), (2, .int v2)]) hx hb dX3_hasSiblingOf_30 rfl hl (by decide) rfl (fun ls hl => ?_)
    exact b31  F H locs ls G6 G7 G9 v1 v2 0  hI e6 e7 e9 (lv_sub hl [1, 2, 3, 0] rfl) h
  · replace h := ite_f hc h
    refine lv_aload_n hx hb dX3_hasSiblingOf_13 rfl (lv_at hl 0 rfl) ?_
    refine lv_iload_n hx hb dX3_hasSiblingOf_14 rfl (lv_at hl 1 rfl) ?_
    refine lv_aload_n hx hb dX3_hasSiblingOf_15 rfl (lv_at hl 0 rfl) ?_
    refine gf_X3_30 hx hb hts hown hKK hI hN dX3_hasSiblingOf_16 ?_
    refine lv_iload_n hx hb dX3_hasSiblingOf_19 rfl (lv_at hl 2 rfl) ?_
    obtain ⟨hin_, h⟩ := ck_e h
    refine la_21 hx hb hKK hI e6 (lc39 hN) (kc39 hk0) hin_ dX3_hasSiblingOf_20 ?_
    obtain ⟨q_21, hq_21, h⟩ := ob_e h
    refine r_callV (As := [.int v1, .int (G6.1 39 v2.toNatClampNeg)]) (rest := []) hx hb hml hts hown (c_X3_isPaired l HB D y F n κ σ hN v1 (G6.1 39 v2.toNatClampNeg) G7 e7 G9 e9 q_21 hq_21) cal_X3_isPaired im_X3_isPaired se_X3_isPaired lm_X3_93 ⟨Nat.le_of_ble_eq_true rfl, Nat.le_of_ble_eq_true rfl⟩ hI.nil hKK (r_recv hKK hI (hE3 HB.size y) rfl (lc32 hN) (kc32 hk0)) rfl hl.1 hI.2.2 rfl (Nat.le_of_ble_eq_true rfl) dX3_hasSiblingOf_21 ⟨Nat.le_of_ble_eq_true rfl, Nat.le_of_ble_eq_true rfl⟩ rfl rfl rfl (fun H locs hB hlo => ?_)
    have hI := hB.re hlo
    refine lv_if_eq (tgt := 29) hx hb dX3_hasSiblingOf_24 (by decide) (fun hc => ?_) (fun hc => ?_)
    · replace h := ite_t hc h
      refine lv_iconst (v := 0) hx hb dX3_hasSiblingOf_29 (by decide) ?_
      refine lv_istore_n (lv' := [(3, .int 0), (0, .ref (HB.size + 32)), (1, .int v1), (2, .int v2)]) hx hb dX3_hasSiblingOf_30 rfl hl (by decide) rfl (fun ls hl => ?_)
      exact b31  F H locs ls G6 G7 G9 v1 v2 0  hI e6 e7 e9 (lv_sub hl [1, 2, 3, 0] rfl) h
    · replace h := ite_f hc h
      refine lv_iconst (v := 1) hx hb dX3_hasSiblingOf_27 (by decide) ?_
      have hq := Option.some.inj h
      exact W.zret (v := 1) (ty := .boolean) hx hb hr rfl (fun t ht hW => qc_mk (congrArg (fun z => Outcome.returned (some (Value.int z))) hq) (by rw [ht]; exact hI.nil)) hI.2.2 dX3_hasSiblingOf_28 hlocks
noncomputable def f_X3_tellLeaving (F : Nat) (G7 : Grp) (G8 : Grp) (G9 : Grp) (v1 : Int32) (v2 : Int32) (v3 : Int32) : Option (Grp × Grp) :=
  if (G8.1 32 12) < 100 then ck (G8.1 32 12) 100 (bn (gI G8 41 (G8.1 32 12).toNatClampNeg v1) (fun G8_19 => ck (G8_19.1 32 12) 100 (bn (gI G8_19 42 (G8_19.1 32 12).toNatClampNeg v3) (fun G8_29 => ck (G8_29.1 32 12) 100 (bn (gI G8_29 43 (G8_29.1 32 12).toNatClampNeg v2) (fun G8_39 => bn (gI G8_39 32 12 ((G8_39.1 32 12) + 1)) (fun G8_47 => ob (f_X3_openPairOf F G7 G9 v1) (fun q_52 => om q_52 (if v2 = (-1) then some (G8_47, G9) else some (G8_47, G9)) (fun t_52 => if v2 = (-1) then some (G8_47, G9) else bn (gI G9 t_52 4 v3) (fun G9_70 => some (G8_47, G9_70))))))))))) else some (G8, G9)
def RM_X3_tellLeaving : Room := { frames := 2, cells := 0, slots := 0, locals := 42 }
abbrev W_X3_tellLeaving : List Nat := [8, 9]
abbrev B_X3_tellLeaving (HB : Heap) (D : va_G) (y : Nat → ClassId) (n : Nat) (κ : Nat → Nat) (σ0 : St) (q : Grp × Grp) : Heap → Prop := fun H => ∃ σ : St, IV HB D y n n κ σ [] H ∧ σ 8 = q.1 ∧ σ 9 = q.2 ∧ ∀ j, j ∉ W_X3_tellLeaving → σ j = σ0 j
set_option maxRecDepth 100000 in
set_option maxHeartbeats 4000000 in
theorem c_X3_tellLeaving (l : Launch) (HB : Heap) (D : va_G) (y : Nat → ClassId) (F n : Nat) (κ : Nat → Nat) (σ0 : St) (hN : N0 ≤ n) (v1 : Int32)  (v2 : Int32)  (v3 : Int32)  (G7 : Grp) (e7 : σ0 7 = G7) (G8 : Grp) (e8 : σ0 8 = G8) (G9 : Grp) (e9 : σ0 9 = G9) (q : Grp × Grp) (h : f_X3_tellLeaving F G7 G8 G9 v1 v2 v3 = some q) : MT l HB D y yX3_tellLeaving cX3_tellLeaving 5 none RM_X3_tellLeaving [.ref (HB.size + 32), .int v1, .int v2, .int v3] (IV HB D y n n κ σ0 []) none (B_X3_tellLeaving HB D y n κ σ0 q) := by
  refine Met.ofW (cc := cX3_tellLeaving) (maxL := 5) (ret := none) (by decide) rfl ?_
  intro p e s m args below meth c s₁ BL hml hv
  obtain ⟨rfl, hI, hKK⟩ := hv
  have hx := BL.exec
  have hb := BL.bytes
  have hr := BL.returns
  have hts : ∀ w ∈ gtb, w.before _ s = true := fun w hw => atoms_spec BL.pre w (List.mem_cons_of_mem _ hw)
  have hml : c.maxLocals = 5 := hml
  have hown : s.vm.findClass RX3 = some m.cls := findClass_of_methodNamed BL.named
  have hlocks := BL.notSynchronized
  have hk0 := hI.1.2.2.2.2
  have hl := lv_entry ([.ref (HB.size + 32), .int v1, .int v2, .int v3]) (n := 5) (Nat.le_of_ble_eq_true rfl)
  rw [lg_entry_eq]
  generalize (lg_sl ([.ref (HB.size + 32), .int v1, .int v2, .int v3]) ++ List.replicate (5 - (lg_sl ([.ref (HB.size + 32), .int v1, .int v2, .int v3])).length) Slot.unset).toArray = ls at hl ⊢
  have hl : lv_has ls 5 [(0, .ref (HB.size + 32)), (1, .int v1), (2, .int v2), (3, .int v3)] := hl
  generalize hargs : ([.ref (HB.size + 32), .int v1, .int v2, .int v3] : List Value).toArray = args at *
  obtain ⟨σ, hI, e7, e8, e9, fr⟩ : ∃ σ : St, IV HB D y n n κ σ [] s.heap ∧ σ 7 = G7 ∧ σ 8 = G8 ∧ σ 9 = G9 ∧ ∀ j, j ∉ W_X3_tellLeaving → σ j = σ0 j := ⟨σ0, hI, e7, e8, e9, fun _ _ => rfl⟩
  show WX RM_X3_tellLeaving p l e s m args below meth c HB none (B_X3_tellLeaving HB D y n κ σ0 q) s.heap [] (F0 m 0 ls [])
  generalize s.heap = H at hI ⊢
  unfold f_X3_tellLeaving at h
  obtain ⟨locs, hlocs⟩ : ∃ x : List Loc, x = [] := ⟨_, rfl⟩
  rw [← hlocs] at hI ⊢
  refine lv_aload_n hx hb dX3_tellLeaving_0 rfl (lv_at hl 0 rfl) ?_
  refine gt_X3_97 hx hb hts hown hKK hI e8 (lc32 hN) (kc32 hk0) dX3_tellLeaving_1 ?_
  refine lv_bipush (v := 100) hx hb dX3_tellLeaving_4 (by decide) ?_
  refine lv_icmp_lt (tgt := 10) hx hb dX3_tellLeaving_6 (by decide) (fun hc => ?_) (fun hc => ?_)
  · replace h := ite_t hc h
    refine lv_aload_n hx hb dX3_tellLeaving_10 rfl (lv_at hl 0 rfl) ?_
    refine gf_X3_39 hx hb hts hown hKK hI hN dX3_tellLeaving_11 ?_
    refine lv_aload_n hx hb dX3_tellLeaving_14 rfl (lv_at hl 0 rfl) ?_
    refine gt_X3_97 hx hb hts hown hKK hI e8 (lc32 hN) (kc32 hk0) dX3_tellLeaving_15 ?_
    refine lv_iload_n hx hb dX3_tellLeaving_18 rfl (lv_at hl 1 rfl) ?_
    obtain ⟨hin_, h⟩ := ck_e h
    obtain ⟨G8_19, qq, h⟩ := bn_e h
    refine sa_23 hx hb hKK hI e8 (lc41 hN) (kc41 hk0) hin_ dX3_tellLeaving_19 (fun σ H locs hI ew ho => ?_)
    have e8 := ew.trans qq.symm
    have e7 := (ho 7 (nn rfl)).trans e7
    have e9 := (ho 9 (nn rfl)).trans e9
    have fr := frs fr ho (by decide)
    refine lv_aload_n hx hb dX3_tellLeaving_20 rfl (lv_at hl 0 rfl) ?_
    refine gf_X3_42 hx hb hts hown hKK hI hN dX3_tellLeaving_21 ?_
    refine lv_aload_n hx hb dX3_tellLeaving_24 rfl (lv_at hl 0 rfl) ?_
    refine gt_X3_97 hx hb hts hown hKK hI e8 (lc32 hN) (kc32 hk0) dX3_tellLeaving_25 ?_
    refine lv_iload_n hx hb dX3_tellLeaving_28 rfl (lv_at hl 3 rfl) ?_
    obtain ⟨hin_, h⟩ := ck_e h
    obtain ⟨G8_29, qq, h⟩ := bn_e h
    refine sa_23 hx hb hKK hI e8 (lc42 hN) (kc42 hk0) hin_ dX3_tellLeaving_29 (fun σ H locs hI ew ho => ?_)
    have e8 := ew.trans qq.symm
    have e7 := (ho 7 (nn rfl)).trans e7
    have e9 := (ho 9 (nn rfl)).trans e9
    have fr := frs fr ho (by decide)
    refine lv_aload_n hx hb dX3_tellLeaving_30 rfl (lv_at hl 0 rfl) ?_
    refine gf_X3_45 hx hb hts hown hKK hI hN dX3_tellLeaving_31 ?_
    refine lv_aload_n hx hb dX3_tellLeaving_34 rfl (lv_at hl 0 rfl) ?_
    refine gt_X3_97 hx hb hts hown hKK hI e8 (lc32 hN) (kc32 hk0) dX3_tellLeaving_35 ?_
    refine lv_iload_n hx hb dX3_tellLeaving_38 rfl (lv_at hl 2 rfl) ?_
    obtain ⟨hin_, h⟩ := ck_e h
    obtain ⟨G8_39, qq, h⟩ := bn_e h
    refine sa_23 hx hb hKK hI e8 (lc43 hN) (kc43 hk0) hin_ dX3_tellLeaving_39 (fun σ H locs hI ew ho => ?_)
    have e8 := ew.trans qq.symm
    have e7 := (ho 7 (nn rfl)).trans e7
    have e9 := (ho 9 (nn rfl)).trans e9
    have fr := frs fr ho (by decide)
    refine lv_aload_n hx hb dX3_tellLeaving_40 rfl (lv_at hl 0 rfl) ?_
    refine lv_dup hx hb dX3_tellLeaving_41 rfl ?_
    refine gt_X3_97 hx hb hts hown hKK hI e8 (lc32 hN) (kc32 hk0) dX3_tellLeaving_42 ?_
    refine lv_iconst (v := 1) hx hb dX3_tellLeaving_45 (by decide) ?_
    refine lv_iadd hx hb dX3_tellLeaving_46 ?_
    obtain ⟨G8_47, qq, h⟩ := bn_e h
    refine pt_X3_97 hx hb hts hown hKK hI e8 (lc32 hN) (kc32 hk0) dX3_tellLeaving_47 (fun σ H locs hI ew ho => ?_)
    have e8 := ew.trans qq.symm
    have e7 := (ho 7 (nn rfl)).trans e7
    have e9 := (ho 9 (nn rfl)).trans e9
    have fr := frs fr ho (by decide)
    refine lv_aload_n hx hb dX3_tellLeaving_50 rfl (lv_at hl 0 rfl) ?_
    refine lv_iload_n hx hb dX3_tellLeaving_51 rfl (lv_at hl 1 rfl) ?_
    obtain ⟨q_52, hq_52, h⟩ := ob_e h
    refine r_callV (As := [.int v1]) (rest := []) hx hb hml hts hown (c_X3_openPairOf l HB D y F n κ σ hN v1 G7 e7 G9 e9 q_52 hq_52) cal_X3_openPairOf im_X3_openPairOf se_X3_openPairOf lm_X3_86 ⟨Nat.le_of_ble_eq_true rfl, Nat.le_of_ble_eq_true rfl⟩ hI.nil hKK (r_recv hKK hI (hE3 HB.size y) rfl (lc32 hN) (kc32 hk0)) rfl hl.1 hI.2.2 rfl (Nat.le_of_ble_eq_true rfl) dX3_tellLeaving_52 ⟨Nat.le_of_ble_eq_true rfl, Nat.le_of_ble_eq_true rfl⟩ rfl rfl rfl (fun H locs hB hlo => ?_)
    obtain ⟨hB, hf_52⟩ := hB
    have hI := hB.re hlo
    rcases om_e h with ⟨eo, h⟩ | ⟨t_52, eo, h⟩
    · refine topn eo ?_
      refine lv_astoreN (lv' := [(4, .null), (0, .ref (HB.size + 32)), (1, .int v1), (2, .int v2), (3, .int v3)]) hx hb dX3_tellLeaving_55 hl (by decide) rfl (fun ls hl => ?_)
      refine lv_iload_n hx hb dX3_tellLeaving_57 rfl (lv_at hl 3 rfl) ?_
      refine lv_iconst (v := (-1)) hx hb dX3_tellLeaving_58 (by decide) ?_
      refine lv_icmp_eq (tgt := 73) hx hb dX3_tellLeaving_59 (by decide) (fun hc => ?_) (fun hc => ?_)
      · replace h := ite_t hc h
        have hq := Option.some.inj h
        exact W.vret hx hb hr (fun t ht hW => qc_mk (rfl) (by rw [ht]; exact ⟨σ, hI.nil, e8.trans (congrArg (fun z => z.1) hq), e9.trans (congrArg (fun z => z.2) hq), fr⟩)) hI.2.2 dX3_tellLeaving_73 hlocks
      · replace h := ite_f hc h
        refine lv_aloadN hx hb dX3_tellLeaving_62 (lv_at hl 0 rfl) ?_
        refine lv_ifnullN (tgt := 73) hx hb dX3_tellLeaving_64 (by decide) ?_
        have hq := Option.some.inj h
        exact W.vret hx hb hr (fun t ht hW => qc_mk (rfl) (by rw [ht]; exact ⟨σ, hI.nil, e8.trans (congrArg (fun z => z.1) hq), e9.trans (congrArg (fun z => z.2) hq), fr⟩)) hI.2.2 dX3_tellLeaving_73 hlocks
    · refine topr eo ?_
      obtain ⟨ha_52, hk_52⟩ := hf_52 _ eo
      refine lv_astore (lv' := [(4, .ref (HB.size + t_52)), (0, .ref (HB.size + 32)), (1, .int v1), (2, .int v2), (3, .int v3)]) hx hb dX3_tellLeaving_55 hl (by decide) rfl (fun ls hl => ?_)
      refine lv_iload_n hx hb dX3_tellLeaving_57 rfl (lv_at hl 3 rfl) ?_
      refine lv_iconst (v := (-1)) hx hb dX3_tellLeaving_58 (by decide) ?_
      refine lv_icmp_eq (tgt := 73) hx hb dX3_tellLeaving_59 (by decide) (fun hc => ?_) (fun hc => ?_)
      · replace h := ite_t hc h
        have hq := Option.some.inj h
        exact W.vret hx hb hr (fun t ht hW => qc_mk (rfl) (by rw [ht]; exact ⟨σ, hI.nil, e8.trans (congrArg (fun z => z.1) hq), e9.trans (congrArg (fun z => z.2) hq), fr⟩)) hI.2.2 dX3_tellLeaving_73 hlocks
      · replace h := ite_f hc h
        refine lv_aload hx hb dX3_tellLeaving_62 (lv_at hl 0 rfl) ?_
        refine lv_ifnull hx hb dX3_tellLeaving_64 ?_
        refine lv_aload hx hb dX3_tellLeaving_67 (lv_at hl 0 rfl) ?_
        refine lv_iload_n hx hb dX3_tellLeaving_69 rfl (lv_at hl 4 rfl) ?_
        obtain ⟨G9_70, qq, h⟩ := bn_e h
        refine pt_X3_100 hx hb hts hown hKK hI e9 ha_52 hk_52 dX3_tellLeaving_70 (fun σ H locs hI ew ho => ?_)
        have e9 := ew.trans qq.symm
        have e7 := (ho 7 (nn rfl)).trans e7
        have e8 := (ho 8 (nn rfl)).trans e8
        have fr := frs fr ho (by decide)
        have hq := Option.some.inj h
        exact W.vret hx hb hr (fun t ht hW => qc_mk (rfl) (by rw [ht]; exact ⟨σ, hI.nil, e8.trans (congrArg (fun z => z.1) hq), e9.trans (congrArg (fun z => z.2) hq), fr⟩)) hI.2.2 dX3_tellLeaving_73 hlocks
  · replace h := ite_f hc h
    have hq := Option.some.inj h
    exact W.vret hx hb hr (fun t ht hW => qc_mk (rfl) (by rw [ht]; exact ⟨σ, hI.nil, e8.trans (congrArg (fun z => z.1) hq), e9.trans (congrArg (fun z => z.2) hq), fr⟩)) hI.2.2 dX3_tellLeaving_9 hlocks
noncomputable def f_X3_isOneTongue (F : Nat) (G6 : Grp) (G9 : Grp) (v1 : Nat) : Option (Int32) :=
  ck (G9.1 v1 1) 16 (ck (G9.1 v1 2) 16 (if (G6.1 35 (G9.1 v1 1).toNatClampNeg) = (G6.1 37 (G9.1 v1 2).toNatClampNeg) then some 1 else some 0))
def RM_X3_isOneTongue : Room := { frames := 0, cells := 0, slots := 0, locals := 0 }
abbrev B_X3_isOneTongue (HB : Heap) (D : va_G) (y : Nat → ClassId) (n : Nat) (κ : Nat → Nat) (σ : St) (q : Int32) : Heap → Prop := fun H => IV HB D y n n κ σ [] H
set_option maxRecDepth 100000 in
set_option maxHeartbeats 4000000 in
theorem c_X3_isOneTongue (l : Launch) (HB : Heap) (D : va_G) (y : Nat → ClassId) (F n : Nat) (κ : Nat → Nat) (σ : St) (hN : N0 ≤ n) (v1 : Nat) (ha_v1 : v1 < n) (hk_v1 : κ v1 = 5) (G6 : Grp) (e6 : σ 6 = G6) (G9 : Grp) (e9 : σ 9 = G9) (q : Int32) (h : f_X3_isOneTongue F G6 G9 v1 = some q) : MT l HB D y yX3_isOneTongue cX3_isOneTongue 2 (some .boolean) RM_X3_isOneTongue [.ref (HB.size + 32), .ref (HB.size + v1)] (IV HB D y n n κ σ []) (some (.int q)) (B_X3_isOneTongue HB D y n κ σ q) := by
  refine Met.ofW (cc := cX3_isOneTongue) (maxL := 2) (ret := (some .boolean)) (by decide) rfl ?_
  intro p e s m args below meth c s₁ BL hml hv
  obtain ⟨rfl, hI, hKK⟩ := hv
  have hx := BL.exec
  have hb := BL.bytes
  have hr := BL.returns
  have hts : ∀ w ∈ gtb, w.before _ s = true := fun w hw => atoms_spec BL.pre w (List.mem_cons_of_mem _ hw)
  have hml : c.maxLocals = 2 := hml
  have hown : s.vm.findClass RX3 = some m.cls := findClass_of_methodNamed BL.named
  have hlocks := BL.notSynchronized
  have hk0 := hI.1.2.2.2.2
  have hl := lv_entry ([.ref (HB.size + 32), .ref (HB.size + v1)]) (n := 2) (Nat.le_of_ble_eq_true rfl)
  rw [lg_entry_eq]
  generalize (lg_sl ([.ref (HB.size + 32), .ref (HB.size + v1)]) ++ List.replicate (2 - (lg_sl ([.ref (HB.size + 32), .ref (HB.size + v1)])).length) Slot.unset).toArray = ls at hl ⊢
  have hl : lv_has ls 2 [(0, .ref (HB.size + 32)), (1, .ref (HB.size + v1))] := hl
  generalize hargs : ([.ref (HB.size + 32), .ref (HB.size + v1)] : List Value).toArray = args at *
  show WX RM_X3_isOneTongue p l e s m args below meth c HB (some (.int q)) (B_X3_isOneTongue HB D y n κ σ q) s.heap [] (F0 m 0 ls [])
  generalize s.heap = H at hI ⊢
  unfold f_X3_isOneTongue at h
  obtain ⟨locs, hlocs⟩ : ∃ x : List Loc, x = [] := ⟨_, rfl⟩
  rw [← hlocs] at hI ⊢
  refine lv_aload_n hx hb dX3_isOneTongue_0 rfl (lv_at hl 0 rfl) ?_
  refine gf_X3_18 hx hb hts hown hKK hI hN dX3_isOneTongue_1 ?_
  refine lv_aload_n hx hb dX3_isOneTongue_4 rfl (lv_at hl 1 rfl) ?_
  refine gt_X3_79 hx hb hts hown hKK hI e9 ha_v1 hk_v1 dX3_isOneTongue_5 ?_
  obtain ⟨hin_, h⟩ := ck_e h
  refine la_21 hx hb hKK hI e6 (lc35 hN) (kc35 hk0) hin_ dX3_isOneTongue_8 ?_
  refine lv_aload_n hx hb dX3_isOneTongue_9 rfl (lv_at hl 0 rfl) ?_
  refine gf_X3_24 hx hb hts hown hKK hI hN dX3_isOneTongue_10 ?_
  refine lv_aload_n hx hb dX3_isOneTongue_13 rfl (lv_at hl 1 rfl) ?_
  refine gt_X3_76 hx hb hts hown hKK hI e9 ha_v1 hk_v1 dX3_isOneTongue_14 ?_
  obtain ⟨hin_, h⟩ := ck_e h
  refine la_21 hx hb hKK hI e6 (lc37 hN) (kc37 hk0) hin_ dX3_isOneTongue_17 ?_
  refine lv_icmp_ne (tgt := 25) hx hb dX3_isOneTongue_18 (by decide) (fun hc => ?_) (fun hc => ?_)
  · replace h := ite_f hc h
    refine lv_iconst (v := 0) hx hb dX3_isOneTongue_25 (by decide) ?_
    have hq := Option.some.inj h
    exact W.zret (v := 0) (ty := .boolean) hx hb hr rfl (fun t ht hW => qc_mk (congrArg (fun z => Outcome.returned (some (Value.int z))) hq) (by rw [ht]; exact hI.nil)) hI.2.2 dX3_isOneTongue_26 hlocks
  · replace h := ite_t hc h
    refine lv_iconst (v := 1) hx hb dX3_isOneTongue_21 (by decide) ?_
    refine lv_goto (tgt := 26) hx hb dX3_isOneTongue_22 (by decide) ?_
    have hq := Option.some.inj h
    exact W.zret (v := 1) (ty := .boolean) hx hb hr rfl (fun t ht hW => qc_mk (congrArg (fun z => Outcome.returned (some (Value.int z))) hq) (by rw [ht]; exact hI.nil)) hI.2.2 dX3_isOneTongue_26 hlocks
noncomputable def f_X3_tonguesBit (F : Nat) (G6 : Grp) (G9 : Grp) (G13 : Grp) (v1 : Nat) : Option (Int32) :=
  om (G13.2.2 v1 0) (none) (fun t_5 => ck (G9.1 t_5 1) 16 (bn ((G6.1 35 (G9.1 t_5 1).toNatClampNeg)) (fun v2_12 => om (G13.2.2 v1 0) (none) (fun t_18 => ck (G9.1 t_18 2) 16 (bn ((G6.1 37 (G9.1 t_18 2).toNatClampNeg)) (fun v3_25 => if (G13.1 v1 1) = 0 then some ((6 * v2_12) + v3_25) else some ((6 * v3_25) + v2_12)))))))
def RM_X3_tonguesBit : Room := { frames := 0, cells := 0, slots := 0, locals := 0 }
abbrev B_X3_tonguesBit (HB : Heap) (D : va_G) (y : Nat → ClassId) (n : Nat) (κ : Nat → Nat) (σ : St) (q : Int32) : Heap → Prop := fun H => IV HB D y n n κ σ [] H
set_option maxRecDepth 100000 in
set_option maxHeartbeats 4000000 in
theorem c_X3_tonguesBit (l : Launch) (HB : Heap) (D : va_G) (y : Nat → ClassId) (F n : Nat) (κ : Nat → Nat) (σ : St) (hN : N0 ≤ n) (v1 : Nat) (ha_v1 : v1 < n) (hk_v1 : κ v1 = 4) (G6 : Grp) (e6 : σ 6 = G6) (G9 : Grp) (e9 : σ 9 = G9) (G13 : Grp) (e13 : σ 13 = G13) (q : Int32) (h : f_X3_tonguesBit F G6 G9 G13 v1 = some q) : MT l HB D y yX3_tonguesBit cX3_tonguesBit 4 (some .int) RM_X3_tonguesBit [.ref (HB.size + 32), .ref (HB.size + v1)] (IV HB D y n n κ σ []) (some (.int q)) (B_X3_tonguesBit HB D y n κ σ q) := by
  refine Met.ofW (cc := cX3_tonguesBit) (maxL := 4) (ret := (some .int)) (by decide) rfl ?_
  intro p e s m args below meth c s₁ BL hml hv
  obtain ⟨rfl, hI, hKK⟩ := hv
  have hx := BL.exec
  have hb := BL.bytes
  have hr := BL.returns
  have hts : ∀ w ∈ gtb, w.before _ s = true := fun w hw => atoms_spec BL.pre w (List.mem_cons_of_mem _ hw)
  have hml : c.maxLocals = 4 := hml
  have hown : s.vm.findClass RX3 = some m.cls := findClass_of_methodNamed BL.named
  have hlocks := BL.notSynchronized
  have hk0 := hI.1.2.2.2.2
  have hl := lv_entry ([.ref (HB.size + 32), .ref (HB.size + v1)]) (n := 4) (Nat.le_of_ble_eq_true rfl)
  rw [lg_entry_eq]
  generalize (lg_sl ([.ref (HB.size + 32), .ref (HB.size + v1)]) ++ List.replicate (4 - (lg_sl ([.ref (HB.size + 32), .ref (HB.size + v1)])).length) Slot.unset).toArray = ls at hl ⊢
  have hl : lv_has ls 4 [(0, .ref (HB.size + 32)), (1, .ref (HB.size + v1))] := hl
  generalize hargs : ([.ref (HB.size + 32), .ref (HB.size + v1)] : List Value).toArray = args at *
  show WX RM_X3_tonguesBit p l e s m args below meth c HB (some (.int q)) (B_X3_tonguesBit HB D y n κ σ q) s.heap [] (F0 m 0 ls [])
  generalize s.heap = H at hI ⊢
  unfold f_X3_tonguesBit at h
  obtain ⟨locs, hlocs⟩ : ∃ x : List Loc, x = [] := ⟨_, rfl⟩
  rw [← hlocs] at hI ⊢
  refine lv_aload_n hx hb dX3_tonguesBit_0 rfl (lv_at hl 0 rfl) ?_
  refine gf_X3_18 hx hb hts hown hKK hI hN dX3_tonguesBit_1 ?_
  refine lv_aload_n hx hb dX3_tonguesBit_4 rfl (lv_at hl 1 rfl) ?_
  refine gt_X3_103 hx hb hts hown hKK hI e13 ha_v1 hk_v1 dX3_tonguesBit_5 ?_
  rcases om_e h with ⟨eo, h⟩ | ⟨t_5, eo, h⟩
  · cases h
  · refine topr eo ?_
    obtain ⟨ha_5, hk_5⟩ := typF hI ha_v1 hk_v1 0 rfl e13 eo
    refine gt_X3_79 hx hb hts hown hKK hI e9 ha_5 hk_5 dX3_tonguesBit_8 ?_
    obtain ⟨hin_, h⟩ := ck_e h
    refine la_21 hx hb hKK hI e6 (lc35 hN) (kc35 hk0) hin_ dX3_tonguesBit_11 ?_
    obtain ⟨v2_12, qq, h⟩ := bn_e h
    refine topi qq ?_
    refine lv_istore_n (lv' := [(2, .int v2_12), (0, .ref (HB.size + 32)), (1, .ref (HB.size + v1))]) hx hb dX3_tonguesBit_12 rfl hl (by decide) rfl (fun ls hl => ?_)
    refine lv_aload_n hx hb dX3_tonguesBit_13 rfl (lv_at hl 1 rfl) ?_
    refine gf_X3_24 hx hb hts hown hKK hI hN dX3_tonguesBit_14 ?_
    refine lv_aload_n hx hb dX3_tonguesBit_17 rfl (lv_at hl 2 rfl) ?_
    refine gt_X3_103 hx hb hts hown hKK hI e13 ha_v1 hk_v1 dX3_tonguesBit_18 ?_
    rcases om_e h with ⟨eo, h⟩ | ⟨t_18, eo, h⟩
    · cases h
    · refine topr eo ?_
      obtain ⟨ha_18, hk_18⟩ := typF hI ha_v1 hk_v1 0 rfl e13 eo
      refine gt_X3_76 hx hb hts hown hKK hI e9 ha_18 hk_18 dX3_tonguesBit_21 ?_
      obtain ⟨hin_, h⟩ := ck_e h
      refine la_21 hx hb hKK hI e6 (lc37 hN) (kc37 hk0) hin_ dX3_tonguesBit_24 ?_
      obtain ⟨v3_25, qq, h⟩ := bn_e h
      refine topi qq ?_
      refine lv_istore_n (lv' := [(3, .int v3_25), (2, .int v2_12), (0, .ref (HB.size + 32)), (1, .ref (HB.size + v1))]) hx hb dX3_tonguesBit_25 rfl hl (by decide) rfl (fun ls hl => ?_)
      refine lv_aload_n hx hb dX3_tonguesBit_26 rfl (lv_at hl 3 rfl) ?_
      refine gt_X3_109 hx hb hts hown hKK hI e13 ha_v1 hk_v1 dX3_tonguesBit_27 ?_
      refine lv_if_ne (tgt := 42) hx hb dX3_tonguesBit_30 (by decide) (fun hc => ?_) (fun hc => ?_)
      · replace h := ite_f hc h
        refine lv_bipush (v := 6) hx hb dX3_tonguesBit_42 (by decide) ?_
        refine lv_iload_n hx hb dX3_tonguesBit_44 rfl (lv_at hl 0 rfl) ?_
        refine lv_imul hx hb dX3_tonguesBit_45 ?_
        refine lv_iload_n hx hb dX3_tonguesBit_46 rfl (lv_at hl 1 rfl) ?_
        refine lv_iadd hx hb dX3_tonguesBit_47 ?_
        have hq := Option.some.inj h
        exact W.iret (v := ((6 * v3_25) + v2_12)) hx hb hr (fun t ht hW => qc_mk (congrArg (fun z => Outcome.returned (some (Value.int z))) hq) (by rw [ht]; exact hI.nil)) hI.2.2 dX3_tonguesBit_48 hlocks
      · replace h := ite_t hc h
        refine lv_bipush (v := 6) hx hb dX3_tonguesBit_33 (by decide) ?_
        refine lv_iload_n hx hb dX3_tonguesBit_35 rfl (lv_at hl 1 rfl) ?_
        refine lv_imul hx hb dX3_tonguesBit_36 ?_
        refine lv_iload_n hx hb dX3_tonguesBit_37 rfl (lv_at hl 0 rfl) ?_
        refine lv_iadd hx hb dX3_tonguesBit_38 ?_
        refine lv_goto (tgt := 48) hx hb dX3_tonguesBit_39 (by decide) ?_
        have hq := Option.some.inj h
        exact W.iret (v := ((6 * v2_12) + v3_25)) hx hb hr (fun t ht hW => qc_mk (congrArg (fun z => Outcome.returned (some (Value.int z))) hq) (by rw [ht]; exact hI.nil)) hI.2.2 dX3_tonguesBit_48 hlocks
noncomputable def f_X3_isFlooded (F : Nat) (G6 : Grp) (v1 : Int32) (v2 : Int32) : Option (Int32) :=
  ck v1 6 (if (((G6.1 34 v1.toNatClampNeg) >>> (((v2 / 30) - (v2 / 30) / 12 * 12) &&& 31)) &&& 1) = 0 then some 0 else some 1)
def RM_X3_isFlooded : Room := { frames := 0, cells := 0, slots := 0, locals := 0 }
abbrev B_X3_isFlooded (HB : Heap) (D : va_G) (y : Nat → ClassId) (n : Nat) (κ : Nat → Nat) (σ : St) (q : Int32) : Heap → Prop := fun H => IV HB D y n n κ σ [] H
set_option maxRecDepth 100000 in
set_option maxHeartbeats 4000000 in
theorem c_X3_isFlooded (l : Launch) (HB : Heap) (D : va_G) (y : Nat → ClassId) (F n : Nat) (κ : Nat → Nat) (σ : St) (hN : N0 ≤ n) (v1 : Int32)  (v2 : Int32)  (G6 : Grp) (e6 : σ 6 = G6) (q : Int32) (h : f_X3_isFlooded F G6 v1 v2 = some q) : MT l HB D y yX3_isFlooded cX3_isFlooded 3 (some .boolean) RM_X3_isFlooded [.ref (HB.size + 32), .int v1, .int v2] (IV HB D y n n κ σ []) (some (.int q)) (B_X3_isFlooded HB D y n κ σ q) := by
  refine Met.ofW (cc := cX3_isFlooded) (maxL := 3) (ret := (some .boolean)) (by decide) rfl ?_
  intro p e s m args below meth c s₁ BL hml hv
  obtain ⟨rfl, hI, hKK⟩ := hv
  have hx := BL.exec
  have hb := BL.bytes
  have hr := BL.returns
  have hts : ∀ w ∈ gtb, w.before _ s = true := fun w hw => atoms_spec BL.pre w (List.mem_cons_of_mem _ hw)
  have hml : c.maxLocals = 3 := hml
  have hown : s.vm.findClass RX3 = some m.cls := findClass_of_methodNamed BL.named
  have hlocks := BL.notSynchronized
  have hk0 := hI.1.2.2.2.2
  have hl := lv_entry ([.ref (HB.size + 32), .int v1, .int v2]) (n := 3) (Nat.le_of_ble_eq_true rfl)
  rw [lg_entry_eq]
  generalize (lg_sl ([.ref (HB.size + 32), .int v1, .int v2]) ++ List.replicate (3 - (lg_sl ([.ref (HB.size + 32), .int v1, .int v2])).length) Slot.unset).toArray = ls at hl ⊢
  have hl : lv_has ls 3 [(0, .ref (HB.size + 32)), (1, .int v1), (2, .int v2)] := hl
  generalize hargs : ([.ref (HB.size + 32), .int v1, .int v2] : List Value).toArray = args at *
  show WX RM_X3_isFlooded p l e s m args below meth c HB (some (.int q)) (B_X3_isFlooded HB D y n κ σ q) s.heap [] (F0 m 0 ls [])
  generalize s.heap = H at hI ⊢
  unfold f_X3_isFlooded at h
  obtain ⟨locs, hlocs⟩ : ∃ x : List Loc, x = [] := ⟨_, rfl⟩
  rw [← hlocs] at hI ⊢
  refine lv_aload_n hx hb dX3_isFlooded_0 rfl (lv_at hl 0 rfl) ?_
  refine gf_X3_15 hx hb hts hown hKK hI hN dX3_isFlooded_1 ?_
  refine lv_iload_n hx hb dX3_isFlooded_4 rfl (lv_at hl 1 rfl) ?_
  obtain ⟨hin_, h⟩ := ck_e h
  refine la_20 hx hb hKK hI e6 (lc34 hN) (kc34 hk0) hin_ dX3_isFlooded_5 ?_
  refine lv_iload_n hx hb dX3_isFlooded_6 rfl (lv_at hl 2 rfl) ?_
  refine lv_bipush (v := 30) hx hb dX3_isFlooded_7 (by decide) ?_
  refine lv_idiv hx hb dX3_isFlooded_9 (by decide) ?_
  refine lv_bipush (v := 12) hx hb dX3_isFlooded_10 (by decide) ?_
  refine lv_irem hx hb dX3_isFlooded_12 (by decide) ?_
  refine lv_ishr hx hb dX3_isFlooded_13 ?_
  refine lv_iconst (v := 1) hx hb dX3_isFlooded_14 (by decide) ?_
  refine lv_iand hx hb dX3_isFlooded_15 ?_
  refine lv_if_eq (tgt := 23) hx hb dX3_isFlooded_16 (by decide) (fun hc => ?_) (fun hc => ?_)
  · replace h := ite_t hc h
    refine lv_iconst (v := 0) hx hb dX3_isFlooded_23 (by decide) ?_
    have hq := Option.some.inj h
    exact W.zret (v := 0) (ty := .boolean) hx hb hr rfl (fun t ht hW => qc_mk (congrArg (fun z => Outcome.returned (some (Value.int z))) hq) (by rw [ht]; exact hI.nil)) hI.2.2 dX3_isFlooded_24 hlocks
  · replace h := ite_f hc h
    refine lv_iconst (v := 1) hx hb dX3_isFlooded_19 (by decide) ?_
    refine lv_goto (tgt := 24) hx hb dX3_isFlooded_20 (by decide) ?_
    have hq := Option.some.inj h
    exact W.zret (v := 1) (ty := .boolean) hx hb hr rfl (fun t ht hW => qc_mk (congrArg (fun z => Outcome.returned (some (Value.int z))) hq) (by rw [ht]; exact hI.nil)) hI.2.2 dX3_isFlooded_24 hlocks
noncomputable def f_X4_move (F : Nat) (G13 : Grp) (v0 : Nat) (v1 : Int32) (v2 : Int32) : Option (Grp) :=
  bn (gI G13 v0 8 v1) (fun G13_2 => bn (gI G13_2 v0 9 v2) (fun G13_7 => some G13_7))
def RM_X4_move : Room := { frames := 0, cells := 0, slots := 0, locals := 0 }
abbrev W_X4_move : List Nat := [13]
abbrev B_X4_move (HB : Heap) (D : va_G) (y : Nat → ClassId) (n : Nat) (κ : Nat → Nat) (σ0 : St) (q : Grp) : Heap → Prop := fun H => ∃ σ : St, IV HB D y n n κ σ [] H ∧ σ 13 = q ∧ ∀ j, j ∉ W_X4_move → σ j = σ0 j
set_option maxRecDepth 100000 in
set_option maxHeartbeats 4000000 in
theorem c_X4_move (l : Launch) (HB : Heap) (D : va_G) (y : Nat → ClassId) (F n : Nat) (κ : Nat → Nat) (σ0 : St) (hN : N0 ≤ n) (v0 : Nat) (ha_v0 : v0 < n) (hk_v0 : κ v0 = 4) (v1 : Int32)  (v2 : Int32)  (G13 : Grp) (e13 : σ0 13 = G13) (q : Grp) (h : f_X4_move F G13 v0 v1 v2 = some q) : MT l HB D y yX4_move cX4_move 3 none RM_X4_move [.ref (HB.size + v0), .int v1, .int v2] (IV HB D y n n κ σ0 []) none (B_X4_move HB D y n κ σ0 q) := by
  refine Met.ofW (cc := cX4_move) (maxL := 3) (ret := none) (by decide) rfl ?_
  intro p e s m args below meth c s₁ BL hml hv
  obtain ⟨rfl, hI, hKK⟩ := hv
  have hx := BL.exec
  have hb := BL.bytes
  have hr := BL.returns
  have hts : ∀ w ∈ gtb, w.before _ s = true := fun w hw => atoms_spec BL.pre w (List.mem_cons_of_mem _ hw)
  have hml : c.maxLocals = 3 := hml
  have hown : s.vm.findClass RX4 = some m.cls := findClass_of_methodNamed BL.named
  have hlocks := BL.notSynchronized
  have hk0 := hI.1.2.2.2.2
  have hl := lv_entry ([.ref (HB.size + v0), .int v1, .int v2]) (n := 3) (Nat.le_of_ble_eq_true rfl)
  rw [lg_entry_eq]
  generalize (lg_sl ([.ref (HB.size + v0), .int v1, .int v2]) ++ List.replicate (3 - (lg_sl ([.ref (HB.size + v0), .int v1, .int v2])).length) Slot.unset).toArray = ls at hl ⊢
  have hl : lv_has ls 3 [(0, .ref (HB.size + v0)), (1, .int v1), (2, .int v2)] := hl
  generalize hargs : ([.ref (HB.size + v0), .int v1, .int v2] : List Value).toArray = args at *
  obtain ⟨σ, hI, e13, fr⟩ : ∃ σ : St, IV HB D y n n κ σ [] s.heap ∧ σ 13 = G13 ∧ ∀ j, j ∉ W_X4_move → σ j = σ0 j := ⟨σ0, hI, e13, fun _ _ => rfl⟩
  show WX RM_X4_move p l e s m args below meth c HB none (B_X4_move HB D y n κ σ0 q) s.heap [] (F0 m 0 ls [])
  generalize s.heap = H at hI ⊢
  unfold f_X4_move at h
  obtain ⟨locs, hlocs⟩ : ∃ x : List Loc, x = [] := ⟨_, rfl⟩
  rw [← hlocs] at hI ⊢
  refine lv_aload_n hx hb dX4_move_0 rfl (lv_at hl 0 rfl) ?_
  refine lv_iload_n hx hb dX4_move_1 rfl (lv_at hl 1 rfl) ?_
  obtain ⟨G13_2, qq, h⟩ := bn_e h
  refine pt_X4_51 hx hb hts hown hKK hI e13 ha_v0 hk_v0 dX4_move_2 (fun σ H locs hI ew ho => ?_)
  have e13 := ew.trans qq.symm
  have fr := frs fr ho (by decide)
  refine lv_aload_n hx hb dX4_move_5 rfl (lv_at hl 0 rfl) ?_
  refine lv_iload_n hx hb dX4_move_6 rfl (lv_at hl 2 rfl) ?_
  obtain ⟨G13_7, qq, h⟩ := bn_e h
  refine pt_X4_54 hx hb hts hown hKK hI e13 ha_v0 hk_v0 dX4_move_7 (fun σ H locs hI ew ho => ?_)
  have e13 := ew.trans qq.symm
  have fr := frs fr ho (by decide)
  have hq := Option.some.inj h
  exact W.vret hx hb hr (fun t ht hW => qc_mk (rfl) (by rw [ht]; exact ⟨σ, hI.nil, e13.trans (congrArg (fun z => z) hq), fr⟩)) hI.2.2 dX4_move_10 hlocks
noncomputable def f_X4_keep_l6b (F : Nat)  (k6 : Grp → Nat → Int32 → Int32 → Int32 → Option (Int32 × Grp)) (G3 : Grp) (v0 : Nat) (v3 : Int32) (v4 : Int32) (v5 : Int32) : Option (Int32 × Grp) :=
  if v3 ≤ v5 then some (v4, G3) else ck v5 ((G3.2.2 (v0 + 3) 0).getD 0) (ck v4 ((G3.2.2 (v0 + 3) 0).getD 0) (bn (gI G3 (v0 + 3) v4.toNatClampNeg (vp_nar .char (G3.1 (v0 + 3) v5.toNatClampNeg))) (fun G3_25 => bn (v4 + 1) (fun v4_26 => bn (v5 + 1) (fun v5_29 => k6 G3_25 v0 v3 v4_26 v5_29)))))
noncomputable def f_X4_keep_l6 (F : Nat)  (fu : Nat) : Grp → Nat → Int32 → Int32 → Int32 → Option (Int32 × Grp) := Nat.rec (motive := fun _ => Grp → Nat → Int32 → Int32 → Int32 → Option (Int32 × Grp)) (fun _ _ _ _ _ => none) (fun _ ih => f_X4_keep_l6b F  ih) fu
noncomputable def f_X4_keep (F : Nat) (G3 : Grp) (v0 : Nat) (v1 : Int32) (v2 : Int32) (v3 : Int32) : Option (Int32 × Grp) :=
  f_X4_keep_l6 F  F G3 v0 v3 v1 v2
def RM_X4_keep : Room := { frames := 0, cells := 0, slots := 0, locals := 0 }
abbrev W_X4_keep : List Nat := [3]
abbrev B_X4_keep (HB : Heap) (D : va_G) (y : Nat → ClassId) (n : Nat) (κ : Nat → Nat) (σ0 : St) (q : Int32 × Grp) : Heap → Prop := fun H => ∃ σ : St, IV HB D y n n κ σ [] H ∧ σ 3 = q.2 ∧ ∀ j, j ∉ W_X4_keep → σ j = σ0 j
set_option maxRecDepth 100000 in
set_option maxHeartbeats 4000000 in
theorem c_X4_keep (l : Launch) (HB : Heap) (D : va_G) (y : Nat → ClassId) (F n : Nat) (κ : Nat → Nat) (σ0 : St) (hN : N0 ≤ n) (v0 : Nat) (ha_v0 : v0 < n) (hk_v0 : κ v0 = 4) (v1 : Int32)  (v2 : Int32)  (v3 : Int32)  (G3 : Grp) (e3 : σ0 3 = G3) (q : Int32 × Grp) (h : f_X4_keep F G3 v0 v1 v2 v3 = some q) : MT l HB D y yX4_keep cX4_keep 6 (some .int) RM_X4_keep [.ref (HB.size + v0), .int v1, .int v2, .int v3] (IV HB D y n n κ σ0 []) (some (.int q.1)) (B_X4_keep HB D y n κ σ0 q) := by
  refine Met.ofW (cc := cX4_keep) (maxL := 6) (ret := (some .int)) (by decide) rfl ?_
  intro p e s m args below meth c s₁ BL hml hv
  obtain ⟨rfl, hI, hKK⟩ := hv
  have hx := BL.exec
  have hb := BL.bytes
  have hr := BL.returns
  have hts : ∀ w ∈ gtb, w.before _ s = true := fun w hw => atoms_spec BL.pre w (List.mem_cons_of_mem _ hw)
  have hml : c.maxLocals = 6 := hml
  have hown : s.vm.findClass RX4 = some m.cls := findClass_of_methodNamed BL.named
  have hlocks := BL.notSynchronized
  have hk0 := hI.1.2.2.2.2
  have hl := lv_entry ([.ref (HB.size + v0), .int v1, .int v2, .int v3]) (n := 6) (Nat.le_of_ble_eq_true rfl)
  rw [lg_entry_eq]
  generalize (lg_sl ([.ref (HB.size + v0), .int v1, .int v2, .int v3]) ++ List.replicate (6 - (lg_sl ([.ref (HB.size + v0), .int v1, .int v2, .int v3])).length) Slot.unset).toArray = ls at hl ⊢
  have hl : lv_has ls 6 [(0, .ref (HB.size + v0)), (1, .int v1), (2, .int v2), (3, .int v3)] := hl
  generalize hargs : ([.ref (HB.size + v0), .int v1, .int v2, .int v3] : List Value).toArray = args at *
  have b6 : ∀ (fu : Nat) (σ : St) (H : Heap) (locs : List Loc) (ls : Array Slot) (G3 : Grp) (v0 : Nat) (v3 : Int32) (v4 : Int32) (v5 : Int32) (ha_v0 : v0 < n) (hk_v0 : κ v0 = 4), IV HB D y n n κ σ locs H → σ 3 = G3 → (∀ j, j ∉ W_X4_keep → σ j = σ0 j) → lv_has ls 6 [(0, .ref (HB.size + v0)), (3, .int v3), (4, .int v4), (5, .int v5)] → f_X4_keep_l6 F  fu G3 v0 v3 v4 v5 = some q → WX RM_X4_keep p l e s m args below meth c HB (some (.int q.1)) (B_X4_keep HB D y n κ σ0 q) H locs (F0 m 6 ls []) := by
    intro  fu
    induction fu with
    | zero =>
      intro σ H locs ls G3 v0 v3 v4 v5 ha_v0 hk_v0 hI e3 fr hl h
      exact absurd h (by intro h; cases h)
    | succ fu hk6 =>
      intro σ H locs ls G3 v0 v3 v4 v5 ha_v0 hk_v0 hI e3 fr hl h
      have h : f_X4_keep_l6b F  (f_X4_keep_l6 F  fu) G3 v0 v3 v4 v5 = some q := h
      generalize f_X4_keep_l6 F  fu = k6 at h hk6
      unfold f_X4_keep_l6b at h
      refine lv_iload hx hb dX4_keep_6 (lv_at hl 3 rfl) ?_
      refine lv_iload_n hx hb dX4_keep_8 rfl (lv_at hl 1 rfl) ?_
      refine lv_icmp_ge (tgt := 35) hx hb dX4_keep_9 (by decide) (fun hc => ?_) (fun hc => ?_)
      · replace h := ite_t hc h
        refine lv_iload hx hb dX4_keep_35 (lv_at hl 2 rfl) ?_
        have hq := Option.some.inj h
        exact W.iret (v := v4) hx hb hr (fun t ht hW => qc_mk (congrArg (fun z => Outcome.returned (some (Value.int z.1))) hq) (by rw [ht]; exact ⟨σ, hI.nil, e3.trans (congrArg (fun z => z.2) hq), fr⟩)) hI.2.2 dX4_keep_37 hlocks
      · replace h := ite_f hc h
        refine lv_aload_n hx hb dX4_keep_12 rfl (lv_at hl 0 rfl) ?_
        refine gf_X4_38 hx hb hts hown hKK hI ha_v0 hk_v0 dX4_keep_13 ?_
        refine lv_iload hx hb dX4_keep_16 (lv_at hl 2 rfl) ?_
        refine lv_aload_n hx hb dX4_keep_18 rfl (lv_at hl 0 rfl) ?_
        refine gf_X4_38 hx hb hts hown hKK hI ha_v0 hk_v0 dX4_keep_19 ?_
        refine lv_iload hx hb dX4_keep_22 (lv_at hl 3 rfl) ?_
        obtain ⟨hin_, h⟩ := ck_e h
        refine la_13 hx hb hKK hI e3 (ownF hI ha_v0 hk_v0 0 rfl).2.1 (ownF hI ha_v0 hk_v0 0 rfl).2.2 hin_ dX4_keep_24 ?_
        obtain ⟨hin_, h⟩ := ck_e h
        obtain ⟨G3_25, qq, h⟩ := bn_e h
        refine sa_13 hx hb hKK hI e3 (ownF hI ha_v0 hk_v0 0 rfl).2.1 (ownF hI ha_v0 hk_v0 0 rfl).2.2 hin_ dX4_keep_25 (fun σ H locs hI ew ho => ?_)
        have e3 := ew.trans qq.symm
        have fr := frs fr ho (by decide)
        obtain ⟨v4_26, qq, h⟩ := bn_e h
        refine lv_iinc (v := v4_26) (lv' := [(4, .int v4_26), (0, .ref (HB.size + v0)), (3, .int v3), (5, .int v5)]) hx hb dX4_keep_26 hl (k := 2) rfl (by rw [qq]; rfl) (by decide) rfl (fun ls hl => ?_)
        obtain ⟨v5_29, qq, h⟩ := bn_e h
        refine lv_iinc (v := v5_29) (lv' := [(5, .int v5_29), (4, .int v4_26), (0, .ref (HB.size + v0)), (3, .int v3)]) hx hb dX4_keep_29 hl (k := 3) rfl (by rw [qq]; rfl) (by decide) rfl (fun ls hl => ?_)
        refine lv_goto (tgt := 6) hx hb dX4_keep_32 (by decide) ?_
        exact hk6 σ H locs ls G3_25 v0 v3 v4_26 v5_29 ha_v0 hk_v0 hI e3 fr (lv_sub hl [2, 3, 1, 0] rfl) h
  obtain ⟨σ, hI, e3, fr⟩ : ∃ σ : St, IV HB D y n n κ σ [] s.heap ∧ σ 3 = G3 ∧ ∀ j, j ∉ W_X4_keep → σ j = σ0 j := ⟨σ0, hI, e3, fun _ _ => rfl⟩
  show WX RM_X4_keep p l e s m args below meth c HB (some (.int q.1)) (B_X4_keep HB D y n κ σ0 q) s.heap [] (F0 m 0 ls [])
  generalize s.heap = H at hI ⊢
  unfold f_X4_keep at h
  obtain ⟨locs, hlocs⟩ : ∃ x : List Loc, x = [] := ⟨_, rfl⟩
  rw [← hlocs] at hI ⊢
  refine lv_iload_n hx hb dX4_keep_0 rfl (lv_at hl 1 rfl) ?_
  refine lv_istore (lv' := [(4, .int v1), (0, .ref (HB.size + v0)), (1, .int v1), (2, .int v2), (3, .int v3)]) hx hb dX4_keep_1 hl (by decide) rfl (fun ls hl => ?_)
  refine lv_iload_n hx hb dX4_keep_3 rfl (lv_at hl 3 rfl) ?_
  refine lv_istore (lv' := [(5, .int v2), (4, .int v1), (0, .ref (HB.size + v0)), (1, .int v1), (2, .int v2), (3, .int v3)]) hx hb dX4_keep_4 hl (by decide) rfl (fun ls hl => ?_)
  exact b6  F σ H locs ls G3 v0 v3 v1 v2 ha_v0 hk_v0 hI e3 fr (lv_sub hl [2, 5, 1, 0] rfl) h
noncomputable def f_X4_cut_l8b (F : Nat)  (k8 : Grp → Grp → Grp → Grp → Nat → Nat → Nat → Int32 → Int32 → Int32 → Option (Grp × Grp)) (G3 : Grp) (G4 : Grp) (G5 : Grp) (G13 : Grp) (v0 : Nat) (v1 : Nat) (v2 : Nat) (v3 : Int32) (v4 : Int32) (v5 : Int32) : Option (Grp × Grp) :=
  if (G5.1 v2 0) ≤ v5 then ob (f_X4_keep F G3 v0 v3 v4 (G13.1 v0 6)) (fun q_105 => bn (gI G13 v0 6 (q_105.1)) (fun G13_108 => some (q_105.2, G13_108))) else ck v5 160 (ck (G5.1 (v2 + 1) v5.toNatClampNeg) 12 (if (G4.1 (v1 + 5) (G5.1 (v2 + 1) v5.toNatClampNeg).toNatClampNeg) = 99 then ck v5 160 (ob (f_X4_keep F G3 v0 v3 v4 (G5.1 (v2 + 2) v5.toNatClampNeg)) (fun q_48 => bn (q_48.1) (fun v3_51 => ck v3_51 ((q_48.2.2.2 (v0 + 3) 0).getD 0) (bn (gI (q_48.2) (v0 + 3) v3_51.toNatClampNeg (vp_nar .char 120)) (fun G3_59 => bn (v3_51 + 1) (fun v3_60 => ck v5 160 (ck v5 160 (bn (((G5.1 (v2 + 2) v5.toNatClampNeg) + (G5.1 (v2 + 3) v5.toNatClampNeg))) (fun v4_78 => bn (gI G13 v0 7 ((G13.1 v0 7) + 1)) (fun G13_87 => bn (v5 + 1) (fun v5_90 => k8 G3_59 G4 G5 G13_87 v0 v1 v2 v3_60 v4_78 v5_90))))))))))) else bn (v5 + 1) (fun v5_90 => k8 G3 G4 G5 G13 v0 v1 v2 v3 v4 v5_90)))
noncomputable def f_X4_cut_l8 (F : Nat)  (fu : Nat) : Grp → Grp → Grp → Grp → Nat → Nat → Nat → Int32 → Int32 → Int32 → Option (Grp × Grp) := Nat.rec (motive := fun _ => Grp → Grp → Grp → Grp → Nat → Nat → Nat → Int32 → Int32 → Int32 → Option (Grp × Grp)) (fun _ _ _ _ _ _ _ _ _ _ => none) (fun _ ih => f_X4_cut_l8b F  ih) fu
noncomputable def f_X4_cut (F : Nat) (G3 : Grp) (G4 : Grp) (G5 : Grp) (G13 : Grp) (v0 : Nat) (v1 : Nat) (v2 : Nat) : Option (Grp × Grp) :=
  f_X4_cut_l8 F  F G3 G4 G5 G13 v0 v1 v2 0 0 0
def RM_X4_cut : Room := { frames := 1, cells := 0, slots := 0, locals := 25 }
abbrev W_X4_cut : List Nat := [3, 13]
abbrev B_X4_cut (HB : Heap) (D : va_G) (y : Nat → ClassId) (n : Nat) (κ : Nat → Nat) (σ0 : St) (q : Grp × Grp) : Heap → Prop := fun H => ∃ σ : St, IV HB D y n n κ σ [] H ∧ σ 3 = q.1 ∧ σ 13 = q.2 ∧ ∀ j, j ∉ W_X4_cut → σ j = σ0 j
set_option maxRecDepth 100000 in
set_option maxHeartbeats 4000000 in
theorem c_X4_cut (l : Launch) (HB : Heap) (D : va_G) (y : Nat → ClassId) (F n : Nat) (κ : Nat → Nat) (σ0 : St) (hN : N0 ≤ n) (v0 : Nat) (ha_v0 : v0 < n) (hk_v0 : κ v0 = 4) (v1 : Nat) (ha_v1 : v1 < n) (hk_v1 : κ v1 = 7) (v2 : Nat) (ha_v2 : v2 < n) (hk_v2 : κ v2 = 2) (G3 : Grp) (e3 : σ0 3 = G3) (G4 : Grp) (e4 : σ0 4 = G4) (G5 : Grp) (e5 : σ0 5 = G5) (G13 : Grp) (e13 : σ0 13 = G13) (q : Grp × Grp) (h : f_X4_cut F G3 G4 G5 G13 v0 v1 v2 = some q) : MT l HB D y yX4_cut cX4_cut 6 none RM_X4_cut [.ref (HB.size + v0), .ref (HB.size + v1), .ref (HB.size + v2)] (IV HB D y n n κ σ0 []) none (B_X4_cut HB D y n κ σ0 q) := by
  refine Met.ofW (cc := cX4_cut) (maxL := 6) (ret := none) (by decide) rfl ?_
  intro p e s m args below meth c s₁ BL hml hv
  obtain ⟨rfl, hI, hKK⟩ := hv
  have hx := BL.exec
  have hb := BL.bytes
  have hr := BL.returns
  have hts : ∀ w ∈ gtb, w.before _ s = true := fun w hw => atoms_spec BL.pre w (List.mem_cons_of_mem _ hw)
  have hml : c.maxLocals = 6 := hml
  have hown : s.vm.findClass RX4 = some m.cls := findClass_of_methodNamed BL.named
  have hlocks := BL.notSynchronized
  have hk0 := hI.1.2.2.2.2
  have hl := lv_entry ([.ref (HB.size + v0), .ref (HB.size + v1), .ref (HB.size + v2)]) (n := 6) (Nat.le_of_ble_eq_true rfl)
  rw [lg_entry_eq]
  generalize (lg_sl ([.ref (HB.size + v0), .ref (HB.size + v1), .ref (HB.size + v2)]) ++ List.replicate (6 - (lg_sl ([.ref (HB.size + v0), .ref (HB.size + v1), .ref (HB.size + v2)])).length) Slot.unset).toArray = ls at hl ⊢
  have hl : lv_has ls 6 [(0, .ref (HB.size + v0)), (1, .ref (HB.size + v1)), (2, .ref (HB.size + v2))] := hl
  generalize hargs : ([.ref (HB.size + v0), .ref (HB.size + v1), .ref (HB.size + v2)] : List Value).toArray = args at *
  have b8 : ∀ (fu : Nat) (σ : St) (H : Heap) (locs : List Loc) (ls : Array Slot) (G3 : Grp) (G4 : Grp) (G5 : Grp) (G13 : Grp) (v0 : Nat) (v1 : Nat) (v2 : Nat) (v3 : Int32) (v4 : Int32) (v5 : Int32) (ha_v0 : v0 < n) (hk_v0 : κ v0 = 4) (ha_v1 : v1 < n) (hk_v1 : κ v1 = 7) (ha_v2 : v2 < n) (hk_v2 : κ v2 = 2), IV HB D y n n κ σ locs H → σ 3 = G3 → σ 4 = G4 → σ 5 = G5 → σ 13 = G13 → (∀ j, j ∉ W_X4_cut → σ j = σ0 j) → lv_has ls 6 [(0, .ref (HB.size + v0)), (1, .ref (HB.size + v1)), (2, .ref (HB.size + v2)), (3, .int v3), (4, .int v4), (5, .int v5)] → f_X4_cut_l8 F  fu G3 G4 G5 G13 v0 v1 v2 v3 v4 v5 = some q → WX RM_X4_cut p l e s m args below meth c HB none (B_X4_cut HB D y n κ σ0 q) H locs (F0 m 8 ls []) := by
    intro  fu
    induction fu with
    | zero =>
      intro σ H locs ls G3 G4 G5 G13 v0 v1 v2 v3 v4 v5 ha_v0 hk_v0 ha_v1 hk_v1 ha_v2 hk_v2 hI e3 e4 e5 e13 fr hl h
      exact absurd h (by intro h; cases h)
    | succ fu hk8 =>
      intro σ H locs ls G3 G4 G5 G13 v0 v1 v2 v3 v4 v5 ha_v0 hk_v0 ha_v1 hk_v1 ha_v2 hk_v2 hI e3 e4 e5 e13 fr hl h
      have h : f_X4_cut_l8b F  (f_X4_cut_l8 F  fu) G3 G4 G5 G13 v0 v1 v2 v3 v4 v5 = some q := h
      generalize f_X4_cut_l8 F  fu = k8 at h hk8
      unfold f_X4_cut_l8b at h
      refine lv_iload hx hb dX4_cut_8 (lv_at hl 5 rfl) ?_
      refine lv_aload_n hx hb dX4_cut_10 rfl (lv_at hl 2 rfl) ?_
      refine gt_X4_63 hx hb hts hown hKK hI e5 ha_v2 hk_v2 dX4_cut_11 ?_
      refine lv_icmp_ge (tgt := 96) hx hb dX4_cut_14 (by decide) (fun hc => ?_) (fun hc => ?_)
      · replace h := ite_t hc h
        refine lv_aload_n hx hb dX4_cut_96 rfl (lv_at hl 0 rfl) ?_
        refine lv_aload_n hx hb dX4_cut_97 rfl (lv_at hl 0 rfl) ?_
        refine lv_iload_n hx hb dX4_cut_98 rfl (lv_at hl 3 rfl) ?_
        refine lv_iload hx hb dX4_cut_99 (lv_at hl 4 rfl) ?_
        refine lv_aload_n hx hb dX4_cut_101 rfl (lv_at hl 0 rfl) ?_
        refine gt_X4_35 hx hb hts hown hKK hI e13 ha_v0 hk_v0 dX4_cut_102 ?_
        obtain ⟨q_105, hq_105, h⟩ := ob_e h
        refine r_callV (As := [.int v3, .int v4, .int (G13.1 v0 6)]) (rest := [.ref (HB.size + v0)]) hx hb hml hts hown (c_X4_keep l HB D y F n κ σ hN v0 ha_v0 hk_v0 v3 v4 (G13.1 v0 6) G3 e3 q_105 hq_105) cal_X4_keep im_X4_keep se_X4_keep lm_X4_79 ⟨Nat.le_of_ble_eq_true rfl, Nat.le_of_ble_eq_true rfl⟩ hI.nil hKK (r_recv hKK hI (hE4 HB.size y) rfl ha_v0 hk_v0) rfl hl.1 hI.2.2 rfl (Nat.le_of_ble_eq_true rfl) dX4_cut_105 ⟨Nat.le_of_ble_eq_true rfl, Nat.le_of_ble_eq_true rfl⟩ rfl rfl rfl (fun H locs hB hlo => ?_)
        obtain ⟨σ, hB, en3, ho⟩ := hB
        have hI := hB.re hlo
        have e3 := en3
        have e4 := (ho 4 (ni rfl)).trans e4
        have e5 := (ho 5 (ni rfl)).trans e5
        have e13 := (ho 13 (ni rfl)).trans e13
        have fr := frc fr ho (by decide)
        obtain ⟨G13_108, qq, h⟩ := bn_e h
        refine pt_X4_35 hx hb hts hown hKK hI e13 ha_v0 hk_v0 dX4_cut_108 (fun σ H locs hI ew ho => ?_)
        have e13 := ew.trans qq.symm
        have e3 := (ho 3 (nn rfl)).trans e3
        have e4 := (ho 4 (nn rfl)).trans e4
        have e5 := (ho 5 (nn rfl)).trans e5
        have fr := frs fr ho (by decide)
        have hq := Option.some.inj h
        exact W.vret hx hb hr (fun t ht hW => qc_mk (rfl) (by rw [ht]; exact ⟨σ, hI.nil, e3.trans (congrArg (fun z => z.1) hq), e13.trans (congrArg (fun z => z.2) hq), fr⟩)) hI.2.2 dX4_cut_111 hlocks
      · replace h := ite_f hc h
        refine lv_aload_n hx hb dX4_cut_17 rfl (lv_at hl 1 rfl) ?_
        refine gf_X4_68 hx hb hts hown hKK hI ha_v1 hk_v1 dX4_cut_18 ?_
        refine lv_aload_n hx hb dX4_cut_21 rfl (lv_at hl 2 rfl) ?_
        refine gf_X4_73 hx hb hts hown hKK hI ha_v2 hk_v2 dX4_cut_22 ?_
        refine lv_iload hx hb dX4_cut_25 (lv_at hl 5 rfl) ?_
        obtain ⟨hin_, h⟩ := ck_e h
        refine la_18 hx hb hKK hI e5 (ownF hI ha_v2 hk_v2 0 rfl).2.1 (ownF hI ha_v2 hk_v2 0 rfl).2.2 hin_ dX4_cut_27 ?_
        obtain ⟨hin_, h⟩ := ck_e h
        refine la_16 hx hb hKK hI e4 (ownF hI ha_v1 hk_v1 4 rfl).2.1 (ownF hI ha_v1 hk_v1 4 rfl).2.2 hin_ dX4_cut_28 ?_
        refine lv_bipush (v := 99) hx hb dX4_cut_29 (by decide) ?_
        refine lv_icmp_eq (tgt := 37) hx hb dX4_cut_31 (by decide) (fun hc => ?_) (fun hc => ?_)
        · replace h := ite_t hc h
          refine lv_aload_n hx hb dX4_cut_37 rfl (lv_at hl 0 rfl) ?_
          refine lv_iload_n hx hb dX4_cut_38 rfl (lv_at hl 3 rfl) ?_
          refine lv_iload hx hb dX4_cut_39 (lv_at hl 4 rfl) ?_
          refine lv_aload_n hx hb dX4_cut_41 rfl (lv_at hl 2 rfl) ?_
          refine gf_X4_76 hx hb hts hown hKK hI ha_v2 hk_v2 dX4_cut_42 ?_
          refine lv_iload hx hb dX4_cut_45 (lv_at hl 5 rfl) ?_
          obtain ⟨hin_, h⟩ := ck_e h
          refine la_18 hx hb hKK hI e5 (ownF hI ha_v2 hk_v2 1 rfl).2.1 (ownF hI ha_v2 hk_v2 1 rfl).2.2 hin_ dX4_cut_47 ?_
          obtain ⟨q_48, hq_48, h⟩ := ob_e h
          refine r_callV (As := [.int v3, .int v4, .int (G5.1 (v2 + 2) v5.toNatClampNeg)]) (rest := []) hx hb hml hts hown (c_X4_keep l HB D y F n κ σ hN v0 ha_v0 hk_v0 v3 v4 (G5.1 (v2 + 2) v5.toNatClampNeg) G3 e3 q_48 hq_48) cal_X4_keep im_X4_keep se_X4_keep lm_X4_79 ⟨Nat.le_of_ble_eq_true rfl, Nat.le_of_ble_eq_true rfl⟩ hI.nil hKK (r_recv hKK hI (hE4 HB.size y) rfl ha_v0 hk_v0) rfl hl.1 hI.2.2 rfl (Nat.le_of_ble_eq_true rfl) dX4_cut_48 ⟨Nat.le_of_ble_eq_true rfl, Nat.le_of_ble_eq_true rfl⟩ rfl rfl rfl (fun H locs hB hlo => ?_)
          obtain ⟨σ, hB, en3, ho⟩ := hB
          have hI := hB.re hlo
          have e3 := en3
          have e4 := (ho 4 (ni rfl)).trans e4
          have e5 := (ho 5 (ni rfl)).trans e5
          have e13 := (ho 13 (ni rfl)).trans e13
          have fr := frc fr ho (by decide)
          obtain ⟨v3_51, qq, h⟩ := bn_e h
          refine topi qq ?_
          refine lv_istore_n (lv' := [(3, .int v3_51), (0, .ref (HB.size + v0)), (1, .ref (HB.size + v1)), (2, .ref (HB.size + v2)), (4, .int v4), (5, .int v5)]) hx hb dX4_cut_51 rfl hl (by decide) rfl (fun ls hl => ?_)
          refine lv_aload_n hx hb dX4_cut_52 rfl (lv_at hl 1 rfl) ?_
          refine gf_X4_38 hx hb hts hown hKK hI ha_v0 hk_v0 dX4_cut_53 ?_
          refine lv_iload_n hx hb dX4_cut_56 rfl (lv_at hl 0 rfl) ?_
          refine lv_bipush (v := 120) hx hb dX4_cut_57 (by decide) ?_
          obtain ⟨hin_, h⟩ := ck_e h
          obtain ⟨G3_59, qq, h⟩ := bn_e h
          refine sa_13 hx hb hKK hI e3 (ownF hI ha_v0 hk_v0 0 rfl).2.1 (ownF hI ha_v0 hk_v0 0 rfl).2.2 hin_ dX4_cut_59 (fun σ H locs hI ew ho => ?_)
          have e3 := ew.trans qq.symm
          have e4 := (ho 4 (nn rfl)).trans e4
          have e5 := (ho 5 (nn rfl)).trans e5
          have e13 := (ho 13 (nn rfl)).trans e13
          have fr := frs fr ho (by decide)
          obtain ⟨v3_60, qq, h⟩ := bn_e h
          refine lv_iinc (v := v3_60) (lv' := [(3, .int v3_60), (0, .ref (HB.size + v0)), (1, .ref (HB.size + v1)), (2, .ref (HB.size + v2)), (4, .int v4), (5, .int v5)]) hx hb dX4_cut_60 hl (k := 0) rfl (by rw [qq]; rfl) (by decide) rfl (fun ls hl => ?_)
          refine lv_aload_n hx hb dX4_cut_63 rfl (lv_at hl 3 rfl) ?_
          refine gf_X4_76 hx hb hts hown hKK hI ha_v2 hk_v2 dX4_cut_64 ?_
          refine lv_iload hx hb dX4_cut_67 (lv_at hl 5 rfl) ?_
          obtain ⟨hin_, h⟩ := ck_e h
          refine la_18 hx hb hKK hI e5 (ownF hI ha_v2 hk_v2 1 rfl).2.1 (ownF hI ha_v2 hk_v2 1 rfl).2.2 hin_ dX4_cut_69 ?_
          refine lv_aload_n hx hb dX4_cut_70 rfl (lv_at hl 3 rfl) ?_
          refine gf_X4_83 hx hb hts hown hKK hI ha_v2 hk_v2 dX4_cut_71 ?_
          refine lv_iload hx hb dX4_cut_74 (lv_at hl 5 rfl) ?_
          obtain ⟨hin_, h⟩ := ck_e h
          refine la_18 hx hb hKK hI e5 (ownF hI ha_v2 hk_v2 2 rfl).2.1 (ownF hI ha_v2 hk_v2 2 rfl).2.2 hin_ dX4_cut_76 ?_
          refine lv_iadd hx hb dX4_cut_77 ?_
          obtain ⟨v4_78, qq, h⟩ := bn_e h
          refine topi qq ?_
          refine lv_istore (lv' := [(4, .int v4_78), (3, .int v3_60), (0, .ref (HB.size + v0)), (1, .ref (HB.size + v1)), (2, .ref (HB.size + v2)), (5, .int v5)]) hx hb dX4_cut_78 hl (by decide) rfl (fun ls hl => ?_)
          refine lv_aload_n hx hb dX4_cut_80 rfl (lv_at hl 2 rfl) ?_
          refine lv_dup hx hb dX4_cut_81 rfl ?_
          refine gt_X4_85 hx hb hts hown hKK hI e13 ha_v0 hk_v0 dX4_cut_82 ?_
          refine lv_iconst (v := 1) hx hb dX4_cut_85 (by decide) ?_
          refine lv_iadd hx hb dX4_cut_86 ?_
          obtain ⟨G13_87, qq, h⟩ := bn_e h
          refine pt_X4_85 hx hb hts hown hKK hI e13 ha_v0 hk_v0 dX4_cut_87 (fun σ H locs hI ew ho => ?_)
          have e13 := ew.trans qq.symm
          have e3 := (ho 3 (nn rfl)).trans e3
          have e4 := (ho 4 (nn rfl)).trans e4
          have e5 := (ho 5 (nn rfl)).trans e5
          have fr := frs fr ho (by decide)
          obtain ⟨v5_90, qq, h⟩ := bn_e h
          refine lv_iinc (v := v5_90) (lv' := [(5, .int v5_90), (4, .int v4_78), (3, .int v3_60), (0, .ref (HB.size + v0)), (1, .ref (HB.size + v1)), (2, .ref (HB.size + v2))]) hx hb dX4_cut_90 hl (k := 5) rfl (by rw [qq]; rfl) (by decide) rfl (fun ls hl => ?_)
          refine lv_goto (tgt := 8) hx hb dX4_cut_93 (by decide) ?_
          exact hk8 σ H locs ls G3_59 G4 G5 G13_87 v0 v1 v2 v3_60 v4_78 v5_90 ha_v0 hk_v0 ha_v1 hk_v1 ha_v2 hk_v2 hI e3 e4 e5 e13 fr (lv_sub hl [3, 4, 5, 2, 1, 0] rfl) h
        · replace h := ite_f hc h
          refine lv_goto (tgt := 90) hx hb dX4_cut_34 (by decide) ?_
          obtain ⟨v5_90, qq, h⟩ := bn_e h
          refine lv_iinc (v := v5_90) (lv' := [(5, .int v5_90), (0, .ref (HB.size + v0)), (1, .ref (HB.size + v1)), (2, .ref (HB.size + v2)), (3, .int v3), (4, .int v4)]) hx hb dX4_cut_90 hl (k := 5) rfl (by rw [qq]; rfl) (by decide) rfl (fun ls hl => ?_)
          refine lv_goto (tgt := 8) hx hb dX4_cut_93 (by decide) ?_
          exact hk8 σ H locs ls G3 G4 G5 G13 v0 v1 v2 v3 v4 v5_90 ha_v0 hk_v0 ha_v1 hk_v1 ha_v2 hk_v2 hI e3 e4 e5 e13 fr (lv_sub hl [1, 2, 3, 4, 5, 0] rfl) h
  obtain ⟨σ, hI, e3, e4, e5, e13, fr⟩ : ∃ σ : St, IV HB D y n n κ σ [] s.heap ∧ σ 3 = G3 ∧ σ 4 = G4 ∧ σ 5 = G5 ∧ σ 13 = G13 ∧ ∀ j, j ∉ W_X4_cut → σ j = σ0 j := ⟨σ0, hI, e3, e4, e5, e13, fun _ _ => rfl⟩
  show WX RM_X4_cut p l e s m args below meth c HB none (B_X4_cut HB D y n κ σ0 q) s.heap [] (F0 m 0 ls [])
  generalize s.heap = H at hI ⊢
  unfold f_X4_cut at h
  obtain ⟨locs, hlocs⟩ : ∃ x : List Loc, x = [] := ⟨_, rfl⟩
  rw [← hlocs] at hI ⊢
  refine lv_iconst (v := 0) hx hb dX4_cut_0 (by decide) ?_
  refine lv_istore_n (lv' := [(3, .int 0), (0, .ref (HB.size + v0)), (1, .ref (HB.size + v1)), (2, .ref (HB.size + v2))]) hx hb dX4_cut_1 rfl hl (by decide) rfl (fun ls hl => ?_)
  refine lv_iconst (v := 0) hx hb dX4_cut_2 (by decide) ?_
  refine lv_istore (lv' := [(4, .int 0), (3, .int 0), (0, .ref (HB.size + v0)), (1, .ref (HB.size + v1)), (2, .ref (HB.size + v2))]) hx hb dX4_cut_3 hl (by decide) rfl (fun ls hl => ?_)
  refine lv_iconst (v := 0) hx hb dX4_cut_5 (by decide) ?_
  refine lv_istore (lv' := [(5, .int 0), (4, .int 0), (3, .int 0), (0, .ref (HB.size + v0)), (1, .ref (HB.size + v1)), (2, .ref (HB.size + v2))]) hx hb dX4_cut_6 hl (by decide) rfl (fun ls hl => ?_)
  exact b8  F σ H locs ls G3 G4 G5 G13 v0 v1 v2 0 0 0 ha_v0 hk_v0 ha_v1 hk_v1 ha_v2 hk_v2 hI e3 e4 e5 e13 fr (lv_sub hl [3, 4, 5, 2, 1, 0] rfl) h
