noncomputable def f_X6_countMarks_l17b (F : Nat)  (k17 : Grp → Grp → Grp → Grp → Nat → Int32 → Int32 → Option (Grp)) (G9 : Grp) (G12 : Grp) (G13 : Grp) (G14 : Grp) (v1 : Nat) (v2 : Int32) (v3 : Int32) : Option (Grp) :=
  if 4 ≤ v3 then some G12 else ck ((v2 * 4) + v3) 128 (ck v3 4 (ck ((v2 * 4) + v3) 128 (bn (gI G12 50 ((v2 * 4) + v3).toNatClampNeg ((G12.1 50 ((v2 * 4) + v3).toNatClampNeg) + (G14.1 (v1 + 1) v3.toNatClampNeg))) (fun G12_40 => bn (v3 + 1) (fun v3_41 => k17 G9 G12_40 G13 G14 v1 v2 v3_41)))))
noncomputable def f_X6_countMarks_l17 (F : Nat)  (fu : Nat) : Grp → Grp → Grp → Grp → Nat → Int32 → Int32 → Option (Grp) := Nat.rec (motive := fun _ => Grp → Grp → Grp → Grp → Nat → Int32 → Int32 → Option (Grp)) (fun _ _ _ _ _ _ _ => none) (fun _ ih => f_X6_countMarks_l17b F  ih) fu
noncomputable def f_X6_countMarks (F : Nat) (G9 : Grp) (G12 : Grp) (G13 : Grp) (G14 : Grp) (v1 : Nat) : Option (Grp) :=
  ob (f_X6_handOf F G9 G13 v1) (fun q_1 => ck q_1 32 (ck q_1 32 (bn (gI G12 49 q_1.toNatClampNeg ((G12.1 49 q_1.toNatClampNeg) + 1)) (fun G12_14 => f_X6_countMarks_l17 F  F G9 G12_14 G13 G14 v1 q_1 0))))
def RM_X6_countMarks : Room := { frames := 1, cells := 0, slots := 0, locals := 20 }
abbrev W_X6_countMarks : List Nat := [12]
abbrev B_X6_countMarks (HB : Heap) (D : va_G) (y : Nat → ClassId) (n : Nat) (κ : Nat → Nat) (σ0 : St) (q : Grp) : Heap → Prop := fun H => ∃ σ : St, IV HB D y n n κ σ [] H ∧ σ 12 = q ∧ ∀ j, j ∉ W_X6_countMarks → σ j = σ0 j
set_option maxRecDepth 100000 in
set_option maxHeartbeats 4000000 in
theorem c_X6_countMarks (l : Launch) (HB : Heap) (D : va_G) (y : Nat → ClassId) (F n : Nat) (κ : Nat → Nat) (σ0 : St) (hN : N0 ≤ n) (v1 : Nat) (ha_v1 : v1 < n) (hk_v1 : κ v1 = 4) (G9 : Grp) (e9 : σ0 9 = G9) (G12 : Grp) (e12 : σ0 12 = G12) (G13 : Grp) (e13 : σ0 13 = G13) (G14 : Grp) (e14 : σ0 14 = G14) (q : Grp) (h : f_X6_countMarks F G9 G12 G13 G14 v1 = some q) : MT l HB D y yX6_countMarks cX6_countMarks 4 none RM_X6_countMarks [.ref (HB.size + 44), .ref (HB.size + v1)] (IV HB D y n n κ σ0 []) none (B_X6_countMarks HB D y n κ σ0 q) := by
  refine Met.ofW (cc := cX6_countMarks) (maxL := 4) (ret := none) (by decide) rfl ?_
  intro p e s m args below meth c s₁ BL hml hv
  obtain ⟨rfl, hI, hKK⟩ := hv
  have hx := BL.exec
  have hb := BL.bytes
  have hr := BL.returns
  have hts : ∀ w ∈ gtb, w.before _ s = true := fun w hw => atoms_spec BL.pre w (List.mem_cons_of_mem _ hw)
  have hml : c.maxLocals = 4 := hml
  have hown : s.vm.findClass RX6 = some m.cls := findClass_of_methodNamed BL.named
  have hlocks := BL.notSynchronized
  have hk0 := hI.1.2.2.2.2
  have hl := lv_entry ([.ref (HB.size + 44), .ref (HB.size + v1)]) (n := 4) (Nat.le_of_ble_eq_true rfl)
  rw [lg_entry_eq]
  generalize (lg_sl ([.ref (HB.size + 44), .ref (HB.size + v1)]) ++ List.replicate (4 - (lg_sl ([.ref (HB.size + 44), .ref (HB.size + v1)])).length) Slot.unset).toArray = ls at hl ⊢
  have hl : lv_has ls 4 [(0, .ref (HB.size + 44)), (1, .ref (HB.size + v1))] := hl
  generalize hargs : ([.ref (HB.size + 44), .ref (HB.size + v1)] : List Value).toArray = args at *
  have b17 : ∀ (fu : Nat) (σ : St) (H : Heap) (locs : List Loc) (ls : Array Slot) (G9 : Grp) (G12 : Grp) (G13 : Grp) (G14 : Grp) (v1 : Nat) (v2 : Int32) (v3 : Int32) (ha_v1 : v1 < n) (hk_v1 : κ v1 = 4), IV HB D y n n κ σ locs H → σ 9 = G9 → σ 12 = G12 → σ 13 = G13 → σ 14 = G14 → (∀ j, j ∉ W_X6_countMarks → σ j = σ0 j) → lv_has ls 4 [(0, .ref (HB.size + 44)), (1, .ref (HB.size + v1)), (2, .int v2), (3, .int v3)] → f_X6_countMarks_l17 F  fu G9 G12 G13 G14 v1 v2 v3 = some q → WX RM_X6_countMarks p l e s m args below meth c HB none (B_X6_countMarks HB D y n κ σ0 q) H locs (F0 m 17 ls []) := by
    intro  fu
    induction fu with
    | zero =>
      intro σ H locs ls G9 G12 G13 G14 v1 v2 v3 ha_v1 hk_v1 hI e9 e12 e13 e14 fr hl h
      exact absurd h (by intro h; cases h)
    | succ fu hk17 =>
      intro σ H locs ls G9 G12 G13 G14 v1 v2 v3 ha_v1 hk_v1 hI e9 e12 e13 e14 fr hl h
      have h : f_X6_countMarks_l17b F  (f_X6_countMarks_l17 F  fu) G9 G12 G13 G14 v1 v2 v3 = some q := h
      generalize f_X6_countMarks_l17 F  fu = k17 at h hk17
      unfold f_X6_countMarks_l17b at h
      refine lv_iload_n hx hb dX6_countMarks_17 rfl (lv_at hl 3 rfl) ?_
      refine lv_iconst (v := 4) hx hb dX6_countMarks_18 (by decide) ?_
      refine lv_icmp_ge (tgt := 47) hx hb dX6_countMarks_19 (by decide) (fun hc => ?_) (fun hc => ?_)
      · replace h := ite_t hc h
        have hq := Option.some.inj h
        exact W.vret hx hb hr (fun t ht hW => qc_mk (rfl) (by rw [ht]; exact ⟨σ, hI.nil, e12.trans (congrArg (fun z => z) hq), fr⟩)) hI.2.2 dX6_countMarks_47 hlocks
      · replace h := ite_f hc h
        refine lv_aload_n hx hb dX6_countMarks_22 rfl (lv_at hl 0 rfl) ?_
        refine gf_X6_31 hx hb hts hown hKK hI hN dX6_countMarks_23 ?_
        refine lv_iload_n hx hb dX6_countMarks_26 rfl (lv_at hl 2 rfl) ?_
        refine lv_iconst (v := 4) hx hb dX6_countMarks_27 (by decide) ?_
        refine lv_imul hx hb dX6_countMarks_28 ?_
        refine lv_iload_n hx hb dX6_countMarks_29 rfl (lv_at hl 3 rfl) ?_
        refine lv_iadd hx hb dX6_countMarks_30 ?_
        refine lv_dup2_11 hx hb dX6_countMarks_31 rfl rfl ?_
        obtain ⟨hin_, h⟩ := ck_e h
        refine la_28 hx hb hKK hI e12 (lc50 hN) (kc50 hk0) hin_ dX6_countMarks_32 ?_
        refine lv_aload_n hx hb dX6_countMarks_33 rfl (lv_at hl 1 rfl) ?_
        refine gf_X6_169 hx hb hts hown hKK hI ha_v1 hk_v1 dX6_countMarks_34 ?_
        refine lv_iload_n hx hb dX6_countMarks_37 rfl (lv_at hl 3 rfl) ?_
        obtain ⟨hin_, h⟩ := ck_e h
        refine la_77 hx hb hKK hI e14 (ownF hI ha_v1 hk_v1 1 rfl).2.1 (ownF hI ha_v1 hk_v1 1 rfl).2.2 hin_ dX6_countMarks_38 ?_
        refine lv_iadd hx hb dX6_countMarks_39 ?_
        obtain ⟨hin_, h⟩ := ck_e h
        obtain ⟨G12_40, qq, h⟩ := bn_e h
        refine sa_28 hx hb hKK hI e12 (lc50 hN) (kc50 hk0) hin_ dX6_countMarks_40 (fun σ H locs hI ew ho => ?_)
        have e12 := ew.trans qq.symm
        have e9 := (ho 9 (nn rfl)).trans e9
        have e13 := (ho 13 (nn rfl)).trans e13
        have e14 := (ho 14 (nn rfl)).trans e14
        have fr := frs fr ho (by decide)
        obtain ⟨v3_41, qq, h⟩ := bn_e h
        refine lv_iinc (v := v3_41) (lv' := [(3, .int v3_41), (0, .ref (HB.size + 44)), (1, .ref (HB.size + v1)), (2, .int v2)]) hx hb dX6_countMarks_41 hl (k := 3) rfl (by rw [qq]; rfl) (by decide) rfl (fun ls hl => ?_)
        refine lv_goto (tgt := 17) hx hb dX6_countMarks_44 (by decide) ?_
        exact hk17 σ H locs ls G9 G12_40 G13 G14 v1 v2 v3_41 ha_v1 hk_v1 hI e9 e12 e13 e14 fr (lv_sub hl [1, 2, 3, 0] rfl) h
  obtain ⟨σ, hI, e9, e12, e13, e14, fr⟩ : ∃ σ : St, IV HB D y n n κ σ [] s.heap ∧ σ 9 = G9 ∧ σ 12 = G12 ∧ σ 13 = G13 ∧ σ 14 = G14 ∧ ∀ j, j ∉ W_X6_countMarks → σ j = σ0 j := ⟨σ0, hI, e9, e12, e13, e14, fun _ _ => rfl⟩
  show WX RM_X6_countMarks p l e s m args below meth c HB none (B_X6_countMarks HB D y n κ σ0 q) s.heap [] (F0 m 0 ls [])
  generalize s.heap = H at hI ⊢
  unfold f_X6_countMarks at h
  obtain ⟨locs, hlocs⟩ : ∃ x : List Loc, x = [] := ⟨_, rfl⟩
  rw [← hlocs] at hI ⊢
  refine lv_aload_n hx hb dX6_countMarks_0 rfl (lv_at hl 1 rfl) ?_
  obtain ⟨q_1, hq_1, h⟩ := ob_e h
  refine r_callS (As := [.ref (HB.size + v1)]) (rest := []) hx hb hml hts hown (c_X6_handOf l HB D y F n κ σ hN v1 ha_v1 hk_v1 G9 e9 G13 e13 q_1 hq_1) cal_X6_handOf st_X6_handOf lm_X6_165 ⟨Nat.le_of_ble_eq_true rfl, Nat.le_of_ble_eq_true rfl⟩ hI.nil hKK rfl hl.1 hI.2.2 rfl (Nat.le_of_ble_eq_true rfl) dX6_countMarks_1 ⟨Nat.le_of_ble_eq_true rfl, Nat.le_of_ble_eq_true rfl⟩ rfl rfl rfl (fun H locs hB hlo => ?_)
  have hI := hB.re hlo
  refine lv_istore_n (lv' := [(2, .int q_1), (0, .ref (HB.size + 44)), (1, .ref (HB.size + v1))]) hx hb dX6_countMarks_4 rfl hl (by decide) rfl (fun ls hl => ?_)
  refine lv_aload_n hx hb dX6_countMarks_5 rfl (lv_at hl 1 rfl) ?_
  refine gf_X6_28 hx hb hts hown hKK hI hN dX6_countMarks_6 ?_
  refine lv_iload_n hx hb dX6_countMarks_9 rfl (lv_at hl 0 rfl) ?_
  refine lv_dup2_11 hx hb dX6_countMarks_10 rfl rfl ?_
  obtain ⟨hin_, h⟩ := ck_e h
  refine la_27 hx hb hKK hI e12 (lc49 hN) (kc49 hk0) hin_ dX6_countMarks_11 ?_
  refine lv_iconst (v := 1) hx hb dX6_countMarks_12 (by decide) ?_
  refine lv_iadd hx hb dX6_countMarks_13 ?_
  obtain ⟨hin_, h⟩ := ck_e h
  obtain ⟨G12_14, qq, h⟩ := bn_e h
  refine sa_27 hx hb hKK hI e12 (lc49 hN) (kc49 hk0) hin_ dX6_countMarks_14 (fun σ H locs hI ew ho => ?_)
  have e12 := ew.trans qq.symm
  have e9 := (ho 9 (nn rfl)).trans e9
  have e13 := (ho 13 (nn rfl)).trans e13
  have e14 := (ho 14 (nn rfl)).trans e14
  have fr := frs fr ho (by decide)
  refine lv_iconst (v := 0) hx hb dX6_countMarks_15 (by decide) ?_
  refine lv_istore_n (lv' := [(3, .int 0), (2, .int q_1), (0, .ref (HB.size + 44)), (1, .ref (HB.size + v1))]) hx hb dX6_countMarks_16 rfl hl (by decide) rfl (fun ls hl => ?_)
  exact b17  F σ H locs ls G9 G12_14 G13 G14 v1 q_1 0 ha_v1 hk_v1 hI e9 e12 e13 e14 fr (lv_sub hl [2, 3, 1, 0] rfl) h
noncomputable def f_X6_pass_b54 (F : Nat)  (G3 : Grp) (G4 : Grp) (G5 : Grp) (G6 : Grp) (G9 : Grp) (G12 : Grp) (G13 : Grp) (G14 : Grp) (v3 : Int32) (s0 : Nat) (s1 : Int32) : Option (Grp × Grp × Grp × Grp) :=
  ob (f_X4_move F G13 s0 s1 v3) (fun q_55 => some (G3, G9, G12, q_55))
noncomputable def f_X6_pass (F : Nat) (G3 : Grp) (G4 : Grp) (G5 : Grp) (G6 : Grp) (G9 : Grp) (G12 : Grp) (G13 : Grp) (G14 : Grp) (v1 : Nat) (v2 : Nat) (v3 : Int32) : Option (Grp × Grp × Grp × Grp) :=
  om (G13.2.2 v1 0) (none) (fun t_1 => ob (f_X2_hintBits F G4 G5 51 v2) (fun q_13 => bn (gI G9 t_1 7 ((G9.1 t_1 7) ||| q_13)) (fun G9_17 => ob (f_X6_countMarks F G9_17 G12 G13 G14 v1) (fun q_22 => ob (f_X4_cut F G3 G4 G5 G13 v1 v2 51) (fun q_31 => om (q_31.2.2.2 v1 0) (none) (fun t_40 => ob (f_X3_isOneTongue F G6 G9_17 t_40) (fun q_43 => if q_43 = 0 then f_X6_pass_b54 F  (q_31.1) G4 G5 G6 G9_17 q_22 (q_31.2) G14 v3 v1 4 else f_X6_pass_b54 F  (q_31.1) G4 G5 G6 G9_17 q_22 (q_31.2) G14 v3 v1 5)))))))
def RM_X6_pass : Room := { frames := 2, cells := 0, slots := 0, locals := 50 }
abbrev W_X6_pass : List Nat := [3, 9, 12, 13]
abbrev B_X6_pass (HB : Heap) (D : va_G) (y : Nat → ClassId) (n : Nat) (κ : Nat → Nat) (σ0 : St) (q : Grp × Grp × Grp × Grp) : Heap → Prop := fun H => ∃ σ : St, IV HB D y n n κ σ [] H ∧ σ 3 = q.1 ∧ σ 9 = q.2.1 ∧ σ 12 = q.2.2.1 ∧ σ 13 = q.2.2.2 ∧ ∀ j, j ∉ W_X6_pass → σ j = σ0 j
set_option maxRecDepth 100000 in
set_option maxHeartbeats 4000000 in
theorem c_X6_pass (l : Launch) (HB : Heap) (D : va_G) (y : Nat → ClassId) (F n : Nat) (κ : Nat → Nat) (σ0 : St) (hN : N0 ≤ n) (v1 : Nat) (ha_v1 : v1 < n) (hk_v1 : κ v1 = 4) (v2 : Nat) (ha_v2 : v2 < n) (hk_v2 : κ v2 = 7) (v3 : Int32)  (G3 : Grp) (e3 : σ0 3 = G3) (G4 : Grp) (e4 : σ0 4 = G4) (G5 : Grp) (e5 : σ0 5 = G5) (G6 : Grp) (e6 : σ0 6 = G6) (G9 : Grp) (e9 : σ0 9 = G9) (G12 : Grp) (e12 : σ0 12 = G12) (G13 : Grp) (e13 : σ0 13 = G13) (G14 : Grp) (e14 : σ0 14 = G14) (q : Grp × Grp × Grp × Grp) (h : f_X6_pass F G3 G4 G5 G6 G9 G12 G13 G14 v1 v2 v3 = some q) : MT l HB D y yX6_pass cX6_pass 4 none RM_X6_pass [.ref (HB.size + 44), .ref (HB.size + v1), .ref (HB.size + v2), .int v3] (IV HB D y n n κ σ0 []) none (B_X6_pass HB D y n κ σ0 q) := by
  refine Met.ofW (cc := cX6_pass) (maxL := 4) (ret := none) (by decide) rfl ?_
  intro p e s m args below meth c s₁ BL hml hv
  obtain ⟨rfl, hI, hKK⟩ := hv
  have hx := BL.exec
  have hb := BL.bytes
  have hr := BL.returns
  have hts : ∀ w ∈ gtb, w.before _ s = true := fun w hw => atoms_spec BL.pre w (List.mem_cons_of_mem _ hw)
  have hml : c.maxLocals = 4 := hml
  have hown : s.vm.findClass RX6 = some m.cls := findClass_of_methodNamed BL.named
  have hlocks := BL.notSynchronized
  have hk0 := hI.1.2.2.2.2
  have hl := lv_entry ([.ref (HB.size + 44), .ref (HB.size + v1), .ref (HB.size + v2), .int v3]) (n := 4) (Nat.le_of_ble_eq_true rfl)
  rw [lg_entry_eq]
  generalize (lg_sl ([.ref (HB.size + 44), .ref (HB.size + v1), .ref (HB.size + v2), .int v3]) ++ List.replicate (4 - (lg_sl ([.ref (HB.size + 44), .ref (HB.size + v1), .ref (HB.size + v2), .int v3])).length) Slot.unset).toArray = ls at hl ⊢
  have hl : lv_has ls 4 [(0, .ref (HB.size + 44)), (1, .ref (HB.size + v1)), (2, .ref (HB.size + v2)), (3, .int v3)] := hl
  generalize hargs : ([.ref (HB.size + 44), .ref (HB.size + v1), .ref (HB.size + v2), .int v3] : List Value).toArray = args at *
  have b54 : ∀ (σ : St) (H : Heap) (locs : List Loc) (ls : Array Slot) (G3 : Grp) (G4 : Grp) (G5 : Grp) (G6 : Grp) (G9 : Grp) (G12 : Grp) (G13 : Grp) (G14 : Grp) (v3 : Int32) (s0 : Nat) (s1 : Int32) (ha_s0 : s0 < n) (hk_s0 : κ s0 = 4), IV HB D y n n κ σ locs H → σ 3 = G3 → σ 4 = G4 → σ 5 = G5 → σ 6 = G6 → σ 9 = G9 → σ 12 = G12 → σ 13 = G13 → σ 14 = G14 → (∀ j, j ∉ W_X6_pass → σ j = σ0 j) → lv_has ls 4 [(3, .int v3)] → f_X6_pass_b54 F  G3 G4 G5 G6 G9 G12 G13 G14 v3 s0 s1 = some q → WX RM_X6_pass p l e s m args below meth c HB none (B_X6_pass HB D y n κ σ0 q) H locs (F0 m 54 ls [.int s1, .ref (HB.size + s0)]) := by
    intro  σ H locs ls G3 G4 G5 G6 G9 G12 G13 G14 v3 s0 s1 ha_s0 hk_s0 hI e3 e4 e5 e6 e9 e12 e13 e14 fr hl h
    unfold f_X6_pass_b54 at h
    refine lv_iload_n hx hb dX6_pass_54 rfl (lv_at hl 0 rfl) ?_
    obtain ⟨q_55, hq_55, h⟩ := ob_e h
    refine r_callV (As := [.int s1, .int v3]) (rest := []) hx hb hml hts hown (c_X4_move l HB D y F n κ σ hN s0 ha_s0 hk_s0 s1 v3 G13 e13 q_55 hq_55) cal_X4_move im_X4_move se_X4_move lm_X6_83 ⟨Nat.le_of_ble_eq_true rfl, Nat.le_of_ble_eq_true rfl⟩ hI.nil hKK (r_recv hKK hI (hE4 HB.size y) rfl ha_s0 hk_s0) rfl hl.1 hI.2.2 rfl (Nat.le_of_ble_eq_true rfl) dX6_pass_55 ⟨Nat.le_of_ble_eq_true rfl, Nat.le_of_ble_eq_true rfl⟩ rfl rfl rfl (fun H locs hB hlo => ?_)
    obtain ⟨σ, hB, en13, ho⟩ := hB
    have hI := hB.re hlo
    have e13 := en13
    have e3 := (ho 3 (ni rfl)).trans e3
    have e4 := (ho 4 (ni rfl)).trans e4
    have e5 := (ho 5 (ni rfl)).trans e5
    have e6 := (ho 6 (ni rfl)).trans e6
    have e9 := (ho 9 (ni rfl)).trans e9
    have e12 := (ho 12 (ni rfl)).trans e12
    have e14 := (ho 14 (ni rfl)).trans e14
    have fr := frc fr ho (by decide)
    have hq := Option.some.inj h
    exact W.vret hx hb hr (fun t ht hW => qc_mk (rfl) (by rw [ht]; exact ⟨σ, hI.nil, e3.trans (congrArg (fun z => z.1) hq), e9.trans (congrArg (fun z => z.2.1) hq), e12.trans (congrArg (fun z => z.2.2.1) hq), e13.trans (congrArg (fun z => z.2.2.2) hq), fr⟩)) hI.2.2 dX6_pass_58 hlocks
  obtain ⟨σ, hI, e3, e4, e5, e6, e9, e12, e13, e14, fr⟩ : ∃ σ : St, IV HB D y n n κ σ [] s.heap ∧ σ 3 = G3 ∧ σ 4 = G4 ∧ σ 5 = G5 ∧ σ 6 = G6 ∧ σ 9 = G9 ∧ σ 12 = G12 ∧ σ 13 = G13 ∧ σ 14 = G14 ∧ ∀ j, j ∉ W_X6_pass → σ j = σ0 j := ⟨σ0, hI, e3, e4, e5, e6, e9, e12, e13, e14, fun _ _ => rfl⟩
  show WX RM_X6_pass p l e s m args below meth c HB none (B_X6_pass HB D y n κ σ0 q) s.heap [] (F0 m 0 ls [])
  generalize s.heap = H at hI ⊢
  unfold f_X6_pass at h
  obtain ⟨locs, hlocs⟩ : ∃ x : List Loc, x = [] := ⟨_, rfl⟩
  rw [← hlocs] at hI ⊢
  refine lv_aload_n hx hb dX6_pass_0 rfl (lv_at hl 1 rfl) ?_
  refine gt_X6_52 hx hb hts hown hKK hI e13 ha_v1 hk_v1 dX6_pass_1 ?_
  rcases om_e h with ⟨eo, h⟩ | ⟨t_1, eo, h⟩
  · refine topn eo ?_
    refine lv_dup hx hb dX6_pass_4 rfl ?_
    cases h
  · refine topr eo ?_
    obtain ⟨ha_1, hk_1⟩ := typF hI ha_v1 hk_v1 0 rfl e13 eo
    refine lv_dup hx hb dX6_pass_4 rfl ?_
    refine gt_X6_125 hx hb hts hown hKK hI e9 ha_1 hk_1 dX6_pass_5 ?_
    refine lv_aload_n hx hb dX6_pass_8 rfl (lv_at hl 0 rfl) ?_
    refine gf_X6_37 hx hb hts hown hKK hI hN dX6_pass_9 ?_
    refine lv_aload_n hx hb dX6_pass_12 rfl (lv_at hl 2 rfl) ?_
    obtain ⟨q_13, hq_13, h⟩ := ob_e h
    refine r_callV (As := [.ref (HB.size + v2)]) (rest := [.int (G9.1 t_1 7), .ref (HB.size + t_1)]) hx hb hml hts hown (c_X2_hintBits l HB D y F n κ σ hN 51 (lc51 hN) (kc51 hk0) v2 ha_v2 hk_v2 G4 e4 G5 e5 q_13 hq_13) cal_X2_hintBits im_X2_hintBits se_X2_hintBits lm_X6_128 ⟨Nat.le_of_ble_eq_true rfl, Nat.le_of_ble_eq_true rfl⟩ hI.nil hKK (r_recv hKK hI (hE2 HB.size y) rfl (lc51 hN) (kc51 hk0)) rfl hl.1 hI.2.2 rfl (Nat.le_of_ble_eq_true rfl) dX6_pass_13 ⟨Nat.le_of_ble_eq_true rfl, Nat.le_of_ble_eq_true rfl⟩ rfl rfl rfl (fun H locs hB hlo => ?_)
    have hI := hB.re hlo
    refine lv_ior hx hb dX6_pass_16 ?_
    obtain ⟨G9_17, qq, h⟩ := bn_e h
    refine pt_X6_125 hx hb hts hown hKK hI e9 ha_1 hk_1 dX6_pass_17 (fun σ H locs hI ew ho => ?_)
    have e9 := ew.trans qq.symm
    have e3 := (ho 3 (nn rfl)).trans e3
    have e4 := (ho 4 (nn rfl)).trans e4
    have e5 := (ho 5 (nn rfl)).trans e5
    have e6 := (ho 6 (nn rfl)).trans e6
    have e12 := (ho 12 (nn rfl)).trans e12
    have e13 := (ho 13 (nn rfl)).trans e13
    have e14 := (ho 14 (nn rfl)).trans e14
    have fr := frs fr ho (by decide)
    refine lv_aload_n hx hb dX6_pass_20 rfl (lv_at hl 0 rfl) ?_
    refine lv_aload_n hx hb dX6_pass_21 rfl (lv_at hl 1 rfl) ?_
    obtain ⟨q_22, hq_22, h⟩ := ob_e h
    refine r_callV (As := [.ref (HB.size + v1)]) (rest := []) hx hb hml hts hown (c_X6_countMarks l HB D y F n κ σ hN v1 ha_v1 hk_v1 G9_17 e9 G12 e12 G13 e13 G14 e14 q_22 hq_22) cal_X6_countMarks im_X6_countMarks se_X6_countMarks lm_X6_142 ⟨Nat.le_of_ble_eq_true rfl, Nat.le_of_ble_eq_true rfl⟩ hI.nil hKK (r_recv hKK hI (hE6 HB.size y) rfl (lc44 hN) (kc44 hk0)) rfl hl.1 hI.2.2 rfl (Nat.le_of_ble_eq_true rfl) dX6_pass_22 ⟨Nat.le_of_ble_eq_true rfl, Nat.le_of_ble_eq_true rfl⟩ rfl rfl rfl (fun H locs hB hlo => ?_)
    obtain ⟨σ, hB, en12, ho⟩ := hB
    have hI := hB.re hlo
    have e12 := en12
    have e3 := (ho 3 (ni rfl)).trans e3
    have e4 := (ho 4 (ni rfl)).trans e4
    have e5 := (ho 5 (ni rfl)).trans e5
    have e6 := (ho 6 (ni rfl)).trans e6
    have e9 := (ho 9 (ni rfl)).trans e9
    have e13 := (ho 13 (ni rfl)).trans e13
    have e14 := (ho 14 (ni rfl)).trans e14
    have fr := frc fr ho (by decide)
    refine lv_aload_n hx hb dX6_pass_25 rfl (lv_at hl 1 rfl) ?_
    refine lv_aload_n hx hb dX6_pass_26 rfl (lv_at hl 2 rfl) ?_
    refine lv_aload_n hx hb dX6_pass_27 rfl (lv_at hl 0 rfl) ?_
    refine gf_X6_37 hx hb hts hown hKK hI hN dX6_pass_28 ?_
    obtain ⟨q_31, hq_31, h⟩ := ob_e h
    refine r_callV (As := [.ref (HB.size + v2), .ref (HB.size + 51)]) (rest := []) hx hb hml hts hown (c_X4_cut l HB D y F n κ σ hN v1 ha_v1 hk_v1 v2 ha_v2 hk_v2 51 (lc51 hN) (kc51 hk0) G3 e3 G4 e4 G5 e5 G13 e13 q_31 hq_31) cal_X4_cut im_X4_cut se_X4_cut lm_X6_146 ⟨Nat.le_of_ble_eq_true rfl, Nat.le_of_ble_eq_true rfl⟩ hI.nil hKK (r_recv hKK hI (hE4 HB.size y) rfl ha_v1 hk_v1) rfl hl.1 hI.2.2 rfl (Nat.le_of_ble_eq_true rfl) dX6_pass_31 ⟨Nat.le_of_ble_eq_true rfl, Nat.le_of_ble_eq_true rfl⟩ rfl rfl rfl (fun H locs hB hlo => ?_)
    obtain ⟨σ, hB, en3, en13, ho⟩ := hB
    have hI := hB.re hlo
    have e3 := en3
    have e13 := en13
    have e4 := (ho 4 (ni rfl)).trans e4
    have e5 := (ho 5 (ni rfl)).trans e5
    have e6 := (ho 6 (ni rfl)).trans e6
    have e9 := (ho 9 (ni rfl)).trans e9
    have e12 := (ho 12 (ni rfl)).trans e12
    have e14 := (ho 14 (ni rfl)).trans e14
    have fr := frc fr ho (by decide)
    refine lv_aload_n hx hb dX6_pass_34 rfl (lv_at hl 1 rfl) ?_
    refine lv_aload_n hx hb dX6_pass_35 rfl (lv_at hl 0 rfl) ?_
    refine gf_X6_41 hx hb hts hown hKK hI hN dX6_pass_36 ?_
    refine lv_aload_n hx hb dX6_pass_39 rfl (lv_at hl 1 rfl) ?_
    refine gt_X6_52 hx hb hts hown hKK hI e13 ha_v1 hk_v1 dX6_pass_40 ?_
    rcases om_e h with ⟨eo, h⟩ | ⟨t_40, eo, h⟩
    · cases h
    · refine topr eo ?_
      obtain ⟨ha_40, hk_40⟩ := typF hI ha_v1 hk_v1 0 rfl e13 eo
      obtain ⟨q_43, hq_43, h⟩ := ob_e h
      refine r_callV (As := [.ref (HB.size + t_40)]) (rest := [.ref (HB.size + v1)]) hx hb hml hts hown (c_X3_isOneTongue l HB D y F n κ σ hN t_40 ha_40 hk_40 G6 e6 G9_17 e9 q_43 hq_43) cal_X3_isOneTongue im_X3_isOneTongue se_X3_isOneTongue lm_X6_150 ⟨Nat.le_of_ble_eq_true rfl, Nat.le_of_ble_eq_true rfl⟩ hI.nil hKK (r_recv hKK hI (hE3 HB.size y) rfl (lc32 hN) (kc32 hk0)) rfl hl.1 hI.2.2 rfl (Nat.le_of_ble_eq_true rfl) dX6_pass_43 ⟨Nat.le_of_ble_eq_true rfl, Nat.le_of_ble_eq_true rfl⟩ rfl rfl rfl (fun H locs hB hlo => ?_)
      have hI := hB.re hlo
      refine lv_if_eq (tgt := 53) hx hb dX6_pass_46 (by decide) (fun hc => ?_) (fun hc => ?_)
      · replace h := ite_t hc h
        refine lv_iconst (v := 4) hx hb dX6_pass_53 (by decide) ?_
        exact b54  σ H locs ls (q_31.1) G4 G5 G6 G9_17 q_22 (q_31.2) G14 v3 v1 4 ha_v1 hk_v1 hI e3 e4 e5 e6 e9 e12 e13 e14 fr (lv_sub hl [3] rfl) h
      · replace h := ite_f hc h
        refine lv_iconst (v := 5) hx hb dX6_pass_49 (by decide) ?_
        refine lv_goto (tgt := 54) hx hb dX6_pass_50 (by decide) ?_
        exact b54  σ H locs ls (q_31.1) G4 G5 G6 G9_17 q_22 (q_31.2) G14 v3 v1 5 ha_v1 hk_v1 hI e3 e4 e5 e6 e9 e12 e13 e14 fr (lv_sub hl [3] rfl) h
noncomputable def f_X6_readOne (F : Nat) (G2 : Grp) (G3 : Grp) (G4 : Grp) (G5 : Grp) (G6 : Grp) (G9 : Grp) (G12 : Grp) (G13 : Grp) (G14 : Grp) (v1 : Nat) (v2 : Nat) (v3 : Int32) : Option (Grp × Grp × Grp × Grp × Grp) :=
  om (G13.2.2 v1 0) (none) (fun t_1 => ob (f_X5_isOpen F G9 t_1) (fun q_4 => if q_4 = 0 then ob (f_X4_move F G13 v1 7 v3) (fun q_14 => some (G3, G5, G9, G12, q_14)) else ob (f_X2_search F G3 G4 G5 51 v2 (v1 + 3) (G13.1 v1 6)) (fun q_31 => ob (f_X2_hasAny F G4 q_31 51 v2 114) (fun q_41 => if q_41 = 0 then ob (f_X6_isToHold F G2 G4 q_31 G9 G12 G13 G14 v1 v2) (fun q_60 => if q_60 = 0 then ob (f_X6_pass F G3 G4 q_31 G6 G9 G12 G13 G14 v1 v2 v3) (fun q_79 => some (q_79.1, q_31, q_79.2.1, q_79.2.2.1, q_79.2.2.2)) else ob (f_X4_move F G13 v1 3 v3) (fun q_69 => some (G3, q_31, G9, G12, q_69))) else ob (f_X4_move F G13 v1 7 v3) (fun q_51 => some (G3, q_31, G9, G12, q_51))))))
def RM_X6_readOne : Room := { frames := 4, cells := 0, slots := 0, locals := 94 }
abbrev W_X6_readOne : List Nat := [3, 5, 9, 12, 13]
abbrev B_X6_readOne (HB : Heap) (D : va_G) (y : Nat → ClassId) (n : Nat) (κ : Nat → Nat) (σ0 : St) (q : Grp × Grp × Grp × Grp × Grp) : Heap → Prop := fun H => ∃ σ : St, IV HB D y n n κ σ [] H ∧ σ 3 = q.1 ∧ σ 5 = q.2.1 ∧ σ 9 = q.2.2.1 ∧ σ 12 = q.2.2.2.1 ∧ σ 13 = q.2.2.2.2 ∧ ∀ j, j ∉ W_X6_readOne → σ j = σ0 j
set_option maxRecDepth 100000 in
set_option maxHeartbeats 4000000 in
theorem c_X6_readOne (l : Launch) (HB : Heap) (D : va_G) (y : Nat → ClassId) (F n : Nat) (κ : Nat → Nat) (σ0 : St) (hN : N0 ≤ n) (v1 : Nat) (ha_v1 : v1 < n) (hk_v1 : κ v1 = 4) (v2 : Nat) (ha_v2 : v2 < n) (hk_v2 : κ v2 = 7) (v3 : Int32)  (G2 : Grp) (e2 : σ0 2 = G2) (G3 : Grp) (e3 : σ0 3 = G3) (G4 : Grp) (e4 : σ0 4 = G4) (G5 : Grp) (e5 : σ0 5 = G5) (G6 : Grp) (e6 : σ0 6 = G6) (G9 : Grp) (e9 : σ0 9 = G9) (G12 : Grp) (e12 : σ0 12 = G12) (G13 : Grp) (e13 : σ0 13 = G13) (G14 : Grp) (e14 : σ0 14 = G14) (q : Grp × Grp × Grp × Grp × Grp) (h : f_X6_readOne F G2 G3 G4 G5 G6 G9 G12 G13 G14 v1 v2 v3 = some q) : MT l HB D y yX6_readOne cX6_readOne 4 none RM_X6_readOne [.ref (HB.size + 44), .ref (HB.size + v1), .ref (HB.size + v2), .int v3] (IV HB D y n n κ σ0 []) none (B_X6_readOne HB D y n κ σ0 q) := by
  refine Met.ofW (cc := cX6_readOne) (maxL := 4) (ret := none) (by decide) rfl ?_
  intro p e s m args below meth c s₁ BL hml hv
  obtain ⟨rfl, hI, hKK⟩ := hv
  have hx := BL.exec
  have hb := BL.bytes
  have hr := BL.returns
  have hts : ∀ w ∈ gtb, w.before _ s = true := fun w hw => atoms_spec BL.pre w (List.mem_cons_of_mem _ hw)
  have hml : c.maxLocals = 4 := hml
  have hown : s.vm.findClass RX6 = some m.cls := findClass_of_methodNamed BL.named
  have hlocks := BL.notSynchronized
  have hk0 := hI.1.2.2.2.2
  have hl := lv_entry ([.ref (HB.size + 44), .ref (HB.size + v1), .ref (HB.size + v2), .int v3]) (n := 4) (Nat.le_of_ble_eq_true rfl)
  rw [lg_entry_eq]
  generalize (lg_sl ([.ref (HB.size + 44), .ref (HB.size + v1), .ref (HB.size + v2), .int v3]) ++ List.replicate (4 - (lg_sl ([.ref (HB.size + 44), .ref (HB.size + v1), .ref (HB.size + v2), .int v3])).length) Slot.unset).toArray = ls at hl ⊢
  have hl : lv_has ls 4 [(0, .ref (HB.size + 44)), (1, .ref (HB.size + v1)), (2, .ref (HB.size + v2)), (3, .int v3)] := hl
  generalize hargs : ([.ref (HB.size + 44), .ref (HB.size + v1), .ref (HB.size + v2), .int v3] : List Value).toArray = args at *
  obtain ⟨σ, hI, e2, e3, e4, e5, e6, e9, e12, e13, e14, fr⟩ : ∃ σ : St, IV HB D y n n κ σ [] s.heap ∧ σ 2 = G2 ∧ σ 3 = G3 ∧ σ 4 = G4 ∧ σ 5 = G5 ∧ σ 6 = G6 ∧ σ 9 = G9 ∧ σ 12 = G12 ∧ σ 13 = G13 ∧ σ 14 = G14 ∧ ∀ j, j ∉ W_X6_readOne → σ j = σ0 j := ⟨σ0, hI, e2, e3, e4, e5, e6, e9, e12, e13, e14, fun _ _ => rfl⟩
  show WX RM_X6_readOne p l e s m args below meth c HB none (B_X6_readOne HB D y n κ σ0 q) s.heap [] (F0 m 0 ls [])
  generalize s.heap = H at hI ⊢
  unfold f_X6_readOne at h
  obtain ⟨locs, hlocs⟩ : ∃ x : List Loc, x = [] := ⟨_, rfl⟩
  rw [← hlocs] at hI ⊢
  refine lv_aload_n hx hb dX6_readOne_0 rfl (lv_at hl 1 rfl) ?_
  refine gt_X6_52 hx hb hts hown hKK hI e13 ha_v1 hk_v1 dX6_readOne_1 ?_
  rcases om_e h with ⟨eo, h⟩ | ⟨t_1, eo, h⟩
  · cases h
  · refine topr eo ?_
    obtain ⟨ha_1, hk_1⟩ := typF hI ha_v1 hk_v1 0 rfl e13 eo
    obtain ⟨q_4, hq_4, h⟩ := ob_e h
    refine r_callV (As := []) (rest := []) hx hb hml hts hown (c_X5_isOpen l HB D y F n κ σ hN t_1 ha_1 hk_1 G9 e9 q_4 hq_4) cal_X5_isOpen im_X5_isOpen se_X5_isOpen lm_X6_99 ⟨Nat.le_of_ble_eq_true rfl, Nat.le_of_ble_eq_true rfl⟩ hI.nil hKK (r_recv hKK hI (hE5 HB.size y) rfl ha_1 hk_1) rfl hl.1 hI.2.2 rfl (Nat.le_of_ble_eq_true rfl) dX6_readOne_4 ⟨Nat.le_of_ble_eq_true rfl, Nat.le_of_ble_eq_true rfl⟩ rfl rfl rfl (fun H locs hB hlo => ?_)
    have hI := hB.re hlo
    refine lv_if_ne (tgt := 18) hx hb dX6_readOne_7 (by decide) (fun hc => ?_) (fun hc => ?_)
    · replace h := ite_f hc h
      refine lv_aload_n hx hb dX6_readOne_18 rfl (lv_at hl 0 rfl) ?_
      refine gf_X6_37 hx hb hts hown hKK hI hN dX6_readOne_19 ?_
      refine lv_aload_n hx hb dX6_readOne_22 rfl (lv_at hl 2 rfl) ?_
      refine lv_aload_n hx hb dX6_readOne_23 rfl (lv_at hl 1 rfl) ?_
      refine gf_X6_103 hx hb hts hown hKK hI ha_v1 hk_v1 dX6_readOne_24 ?_
      refine lv_aload_n hx hb dX6_readOne_27 rfl (lv_at hl 1 rfl) ?_
      refine gt_X6_107 hx hb hts hown hKK hI e13 ha_v1 hk_v1 dX6_readOne_28 ?_
      obtain ⟨q_31, hq_31, h⟩ := ob_e h
      refine r_callV (As := [.ref (HB.size + v2), .ref (HB.size + (v1 + 3)), .int (G13.1 v1 6)]) (rest := []) hx hb hml hts hown (c_X2_search l HB D y F n κ σ hN 51 (lc51 hN) (kc51 hk0) v2 ha_v2 hk_v2 (v1 + 3) (ownF hI ha_v1 hk_v1 0 rfl).2.1 (ownF hI ha_v1 hk_v1 0 rfl).2.2 (G13.1 v1 6) G3 e3 G4 e4 G5 e5 q_31 hq_31) cal_X2_search im_X2_search se_X2_search lm_X6_110 ⟨Nat.le_of_ble_eq_true rfl, Nat.le_of_ble_eq_true rfl⟩ hI.nil hKK (r_recv hKK hI (hE2 HB.size y) rfl (lc51 hN) (kc51 hk0)) rfl hl.1 hI.2.2 rfl (Nat.le_of_ble_eq_true rfl) dX6_readOne_31 ⟨Nat.le_of_ble_eq_true rfl, Nat.le_of_ble_eq_true rfl⟩ rfl rfl rfl (fun H locs hB hlo => ?_)
      obtain ⟨σ, hB, en5, ho⟩ := hB
      have hI := hB.re hlo
      have e5 := en5
      have e2 := (ho 2 (ni rfl)).trans e2
      have e3 := (ho 3 (ni rfl)).trans e3
      have e4 := (ho 4 (ni rfl)).trans e4
      have e6 := (ho 6 (ni rfl)).trans e6
      have e9 := (ho 9 (ni rfl)).trans e9
      have e12 := (ho 12 (ni rfl)).trans e12
      have e13 := (ho 13 (ni rfl)).trans e13
      have e14 := (ho 14 (ni rfl)).trans e14
      have fr := frc fr ho (by decide)
      refine lv_aload_n hx hb dX6_readOne_34 rfl (lv_at hl 0 rfl) ?_
      refine gf_X6_37 hx hb hts hown hKK hI hN dX6_readOne_35 ?_
      refine lv_aload_n hx hb dX6_readOne_38 rfl (lv_at hl 2 rfl) ?_
      refine lv_bipush (v := 114) hx hb dX6_readOne_39 (by decide) ?_
      obtain ⟨q_41, hq_41, h⟩ := ob_e h
      refine r_callV (As := [.ref (HB.size + v2), .int 114]) (rest := []) hx hb hml hts hown (c_X2_hasAny l HB D y F n κ σ hN 51 (lc51 hN) (kc51 hk0) v2 ha_v2 hk_v2 114 G4 e4 q_31 e5 q_41 hq_41) cal_X2_hasAny im_X2_hasAny se_X2_hasAny lm_X6_114 ⟨Nat.le_of_ble_eq_true rfl, Nat.le_of_ble_eq_true rfl⟩ hI.nil hKK (r_recv hKK hI (hE2 HB.size y) rfl (lc51 hN) (kc51 hk0)) rfl hl.1 hI.2.2 rfl (Nat.le_of_ble_eq_true rfl) dX6_readOne_41 ⟨Nat.le_of_ble_eq_true rfl, Nat.le_of_ble_eq_true rfl⟩ rfl rfl rfl (fun H locs hB hlo => ?_)
      have hI := hB.re hlo
      refine lv_if_eq (tgt := 57) hx hb dX6_readOne_44 (by decide) (fun hc => ?_) (fun hc => ?_)
      · replace h := ite_t hc h
        refine lv_aload_n hx hb dX6_readOne_57 rfl (lv_at hl 0 rfl) ?_
        refine lv_aload_n hx hb dX6_readOne_58 rfl (lv_at hl 1 rfl) ?_
        refine lv_aload_n hx hb dX6_readOne_59 rfl (lv_at hl 2 rfl) ?_
        obtain ⟨q_60, hq_60, h⟩ := ob_e h
        refine r_callV (As := [.ref (HB.size + v1), .ref (HB.size + v2)]) (rest := []) hx hb hml hts hown (c_X6_isToHold l HB D y F n κ σ hN v1 ha_v1 hk_v1 v2 ha_v2 hk_v2 G2 e2 G4 e4 q_31 e5 G9 e9 G12 e12 G13 e13 G14 e14 q_60 hq_60) cal_X6_isToHold im_X6_isToHold se_X6_isToHold lm_X6_118 ⟨Nat.le_of_ble_eq_true rfl, Nat.le_of_ble_eq_true rfl⟩ hI.nil hKK (r_recv hKK hI (hE6 HB.size y) rfl (lc44 hN) (kc44 hk0)) rfl hl.1 hI.2.2 rfl (Nat.le_of_ble_eq_true rfl) dX6_readOne_60 ⟨Nat.le_of_ble_eq_true rfl, Nat.le_of_ble_eq_true rfl⟩ rfl rfl rfl (fun H locs hB hlo => ?_)
        have hI := hB.re hlo
        refine lv_if_eq (tgt := 75) hx hb dX6_readOne_63 (by decide) (fun hc => ?_) (fun hc => ?_)
        · replace h := ite_t hc h
          refine lv_aload_n hx hb dX6_readOne_75 rfl (lv_at hl 0 rfl) ?_
          refine lv_aload_n hx hb dX6_readOne_76 rfl (lv_at hl 1 rfl) ?_
          refine lv_aload_n hx hb dX6_readOne_77 rfl (lv_at hl 2 rfl) ?_
          refine lv_iload_n hx hb dX6_readOne_78 rfl (lv_at hl 3 rfl) ?_
          obtain ⟨q_79, hq_79, h⟩ := ob_e h
          refine r_callV (As := [.ref (HB.size + v1), .ref (HB.size + v2), .int v3]) (rest := []) hx hb hml hts hown (c_X6_pass l HB D y F n κ σ hN v1 ha_v1 hk_v1 v2 ha_v2 hk_v2 v3 G3 e3 G4 e4 q_31 e5 G6 e6 G9 e9 G12 e12 G13 e13 G14 e14 q_79 hq_79) cal_X6_pass im_X6_pass se_X6_pass lm_X6_122 ⟨Nat.le_of_ble_eq_true rfl, Nat.le_of_ble_eq_true rfl⟩ hI.nil hKK (r_recv hKK hI (hE6 HB.size y) rfl (lc44 hN) (kc44 hk0)) rfl hl.1 hI.2.2 rfl (Nat.le_of_ble_eq_true rfl) dX6_readOne_79 ⟨Nat.le_of_ble_eq_true rfl, Nat.le_of_ble_eq_true rfl⟩ rfl rfl rfl (fun H locs hB hlo => ?_)
          obtain ⟨σ, hB, en3, en9, en12, en13, ho⟩ := hB
          have hI := hB.re hlo
          have e3 := en3
          have e9 := en9
          have e12 := en12
          have e13 := en13
          have e2 := (ho 2 (ni rfl)).trans e2
          have e4 := (ho 4 (ni rfl)).trans e4
          have e5 := (ho 5 (ni rfl)).trans e5
          have e6 := (ho 6 (ni rfl)).trans e6
          have e14 := (ho 14 (ni rfl)).trans e14
          have fr := frc fr ho (by decide)
          have hq := Option.some.inj h
          exact W.vret hx hb hr (fun t ht hW => qc_mk (rfl) (by rw [ht]; exact ⟨σ, hI.nil, e3.trans (congrArg (fun z => z.1) hq), e5.trans (congrArg (fun z => z.2.1) hq), e9.trans (congrArg (fun z => z.2.2.1) hq), e12.trans (congrArg (fun z => z.2.2.2.1) hq), e13.trans (congrArg (fun z => z.2.2.2.2) hq), fr⟩)) hI.2.2 dX6_readOne_82 hlocks
        · replace h := ite_f hc h
          refine lv_aload_n hx hb dX6_readOne_66 rfl (lv_at hl 1 rfl) ?_
          refine lv_iconst (v := 3) hx hb dX6_readOne_67 (by decide) ?_
          refine lv_iload_n hx hb dX6_readOne_68 rfl (lv_at hl 3 rfl) ?_
          obtain ⟨q_69, hq_69, h⟩ := ob_e h
          refine r_callV (As := [.int 3, .int v3]) (rest := []) hx hb hml hts hown (c_X4_move l HB D y F n κ σ hN v1 ha_v1 hk_v1 3 v3 G13 e13 q_69 hq_69) cal_X4_move im_X4_move se_X4_move lm_X6_83 ⟨Nat.le_of_ble_eq_true rfl, Nat.le_of_ble_eq_true rfl⟩ hI.nil hKK (r_recv hKK hI (hE4 HB.size y) rfl ha_v1 hk_v1) rfl hl.1 hI.2.2 rfl (Nat.le_of_ble_eq_true rfl) dX6_readOne_69 ⟨Nat.le_of_ble_eq_true rfl, Nat.le_of_ble_eq_true rfl⟩ rfl rfl rfl (fun H locs hB hlo => ?_)
          obtain ⟨σ, hB, en13, ho⟩ := hB
          have hI := hB.re hlo
          have e13 := en13
          have e2 := (ho 2 (ni rfl)).trans e2
          have e3 := (ho 3 (ni rfl)).trans e3
          have e4 := (ho 4 (ni rfl)).trans e4
          have e5 := (ho 5 (ni rfl)).trans e5
          have e6 := (ho 6 (ni rfl)).trans e6
          have e9 := (ho 9 (ni rfl)).trans e9
          have e12 := (ho 12 (ni rfl)).trans e12
          have e14 := (ho 14 (ni rfl)).trans e14
          have fr := frc fr ho (by decide)
          refine lv_goto (tgt := 82) hx hb dX6_readOne_72 (by decide) ?_
          have hq := Option.some.inj h
          exact W.vret hx hb hr (fun t ht hW => qc_mk (rfl) (by rw [ht]; exact ⟨σ, hI.nil, e3.trans (congrArg (fun z => z.1) hq), e5.trans (congrArg (fun z => z.2.1) hq), e9.trans (congrArg (fun z => z.2.2.1) hq), e12.trans (congrArg (fun z => z.2.2.2.1) hq), e13.trans (congrArg (fun z => z.2.2.2.2) hq), fr⟩)) hI.2.2 dX6_readOne_82 hlocks
      · replace h := ite_f hc h
        refine lv_aload_n hx hb dX6_readOne_47 rfl (lv_at hl 1 rfl) ?_
        refine lv_bipush (v := 7) hx hb dX6_readOne_48 (by decide) ?_
        refine lv_iload_n hx hb dX6_readOne_50 rfl (lv_at hl 3 rfl) ?_
        obtain ⟨q_51, hq_51, h⟩ := ob_e h
        refine r_callV (As := [.int 7, .int v3]) (rest := []) hx hb hml hts hown (c_X4_move l HB D y F n κ σ hN v1 ha_v1 hk_v1 7 v3 G13 e13 q_51 hq_51) cal_X4_move im_X4_move se_X4_move lm_X6_83 ⟨Nat.le_of_ble_eq_true rfl, Nat.le_of_ble_eq_true rfl⟩ hI.nil hKK (r_recv hKK hI (hE4 HB.size y) rfl ha_v1 hk_v1) rfl hl.1 hI.2.2 rfl (Nat.le_of_ble_eq_true rfl) dX6_readOne_51 ⟨Nat.le_of_ble_eq_true rfl, Nat.le_of_ble_eq_true rfl⟩ rfl rfl rfl (fun H locs hB hlo => ?_)
        obtain ⟨σ, hB, en13, ho⟩ := hB
        have hI := hB.re hlo
        have e13 := en13
        have e2 := (ho 2 (ni rfl)).trans e2
        have e3 := (ho 3 (ni rfl)).trans e3
        have e4 := (ho 4 (ni rfl)).trans e4
        have e5 := (ho 5 (ni rfl)).trans e5
        have e6 := (ho 6 (ni rfl)).trans e6
        have e9 := (ho 9 (ni rfl)).trans e9
        have e12 := (ho 12 (ni rfl)).trans e12
        have e14 := (ho 14 (ni rfl)).trans e14
        have fr := frc fr ho (by decide)
        refine lv_goto (tgt := 82) hx hb dX6_readOne_54 (by decide) ?_
        have hq := Option.some.inj h
        exact W.vret hx hb hr (fun t ht hW => qc_mk (rfl) (by rw [ht]; exact ⟨σ, hI.nil, e3.trans (congrArg (fun z => z.1) hq), e5.trans (congrArg (fun z => z.2.1) hq), e9.trans (congrArg (fun z => z.2.2.1) hq), e12.trans (congrArg (fun z => z.2.2.2.1) hq), e13.trans (congrArg (fun z => z.2.2.2.2) hq), fr⟩)) hI.2.2 dX6_readOne_82 hlocks
    · replace h := ite_t hc h
      refine lv_aload_n hx hb dX6_readOne_10 rfl (lv_at hl 1 rfl) ?_
      refine lv_bipush (v := 7) hx hb dX6_readOne_11 (by decide) ?_
      refine lv_iload_n hx hb dX6_readOne_13 rfl (lv_at hl 3 rfl) ?_
      obtain ⟨q_14, hq_14, h⟩ := ob_e h
      refine r_callV (As := [.int 7, .int v3]) (rest := []) hx hb hml hts hown (c_X4_move l HB D y F n κ σ hN v1 ha_v1 hk_v1 7 v3 G13 e13 q_14 hq_14) cal_X4_move im_X4_move se_X4_move lm_X6_83 ⟨Nat.le_of_ble_eq_true rfl, Nat.le_of_ble_eq_true rfl⟩ hI.nil hKK (r_recv hKK hI (hE4 HB.size y) rfl ha_v1 hk_v1) rfl hl.1 hI.2.2 rfl (Nat.le_of_ble_eq_true rfl) dX6_readOne_14 ⟨Nat.le_of_ble_eq_true rfl, Nat.le_of_ble_eq_true rfl⟩ rfl rfl rfl (fun H locs hB hlo => ?_)
      obtain ⟨σ, hB, en13, ho⟩ := hB
      have hI := hB.re hlo
      have e13 := en13
      have e2 := (ho 2 (ni rfl)).trans e2
      have e3 := (ho 3 (ni rfl)).trans e3
      have e4 := (ho 4 (ni rfl)).trans e4
      have e5 := (ho 5 (ni rfl)).trans e5
      have e6 := (ho 6 (ni rfl)).trans e6
      have e9 := (ho 9 (ni rfl)).trans e9
      have e12 := (ho 12 (ni rfl)).trans e12
      have e14 := (ho 14 (ni rfl)).trans e14
      have fr := frc fr ho (by decide)
      have hq := Option.some.inj h
      exact W.vret hx hb hr (fun t ht hW => qc_mk (rfl) (by rw [ht]; exact ⟨σ, hI.nil, e3.trans (congrArg (fun z => z.1) hq), e5.trans (congrArg (fun z => z.2.1) hq), e9.trans (congrArg (fun z => z.2.2.1) hq), e12.trans (congrArg (fun z => z.2.2.2.1) hq), e13.trans (congrArg (fun z => z.2.2.2.2) hq), fr⟩)) hI.2.2 dX6_readOne_17 hlocks
noncomputable def f_X6_readSome_l2b (F : Nat)  (k2 : Grp → Grp → Grp → Grp → Grp → Grp → Grp → Grp → Grp → Grp → Nat → Int32 → Int32 → Option (Grp × Grp × Grp × Grp × Grp)) (G2 : Grp) (G3 : Grp) (G4 : Grp) (G5 : Grp) (G6 : Grp) (G9 : Grp) (G10 : Grp) (G12 : Grp) (G13 : Grp) (G14 : Grp) (v1 : Nat) (v2 : Int32) (v3 : Int32) : Option (Grp × Grp × Grp × Grp × Grp) :=
  ck 2 8 (if (G2.1 2 (2 : Int32).toNatClampNeg) ≤ v3 then some (G3, G5, G9, G12, G13) else ob (f_X6_firstIn F G10 G13 2 none) (fun q_15 => om q_15 (some (G3, G5, G9, G12, G13)) (fun t_15 => ob (f_X6_readOne F G2 G3 G4 G5 G6 G9 G12 G13 G14 t_15 v1 v2) (fun q_31 => bn (v3 + 1) (fun v3_34 => k2 G2 (q_31.1) G4 (q_31.2.1) G6 (q_31.2.2.1) G10 (q_31.2.2.2.1) (q_31.2.2.2.2) G14 v1 v2 v3_34)))))
noncomputable def f_X6_readSome_l2 (F : Nat)  (fu : Nat) : Grp → Grp → Grp → Grp → Grp → Grp → Grp → Grp → Grp → Grp → Nat → Int32 → Int32 → Option (Grp × Grp × Grp × Grp × Grp) := Nat.rec (motive := fun _ => Grp → Grp → Grp → Grp → Grp → Grp → Grp → Grp → Grp → Grp → Nat → Int32 → Int32 → Option (Grp × Grp × Grp × Grp × Grp)) (fun _ _ _ _ _ _ _ _ _ _ _ _ _ => none) (fun _ ih => f_X6_readSome_l2b F  ih) fu
noncomputable def f_X6_readSome (F : Nat) (G2 : Grp) (G3 : Grp) (G4 : Grp) (G5 : Grp) (G6 : Grp) (G9 : Grp) (G10 : Grp) (G12 : Grp) (G13 : Grp) (G14 : Grp) (v1 : Nat) (v2 : Int32) : Option (Grp × Grp × Grp × Grp × Grp) :=
  f_X6_readSome_l2 F  F G2 G3 G4 G5 G6 G9 G10 G12 G13 G14 v1 v2 0
def RM_X6_readSome : Room := { frames := 5, cells := 0, slots := 0, locals := 117 }
abbrev W_X6_readSome : List Nat := [3, 5, 9, 12, 13]
abbrev B_X6_readSome (HB : Heap) (D : va_G) (y : Nat → ClassId) (n : Nat) (κ : Nat → Nat) (σ0 : St) (q : Grp × Grp × Grp × Grp × Grp) : Heap → Prop := fun H => ∃ σ : St, IV HB D y n n κ σ [] H ∧ σ 3 = q.1 ∧ σ 5 = q.2.1 ∧ σ 9 = q.2.2.1 ∧ σ 12 = q.2.2.2.1 ∧ σ 13 = q.2.2.2.2 ∧ ∀ j, j ∉ W_X6_readSome → σ j = σ0 j
set_option maxRecDepth 100000 in
set_option maxHeartbeats 4000000 in
theorem c_X6_readSome (l : Launch) (HB : Heap) (D : va_G) (y : Nat → ClassId) (F n : Nat) (κ : Nat → Nat) (σ0 : St) (hN : N0 ≤ n) (v1 : Nat) (ha_v1 : v1 < n) (hk_v1 : κ v1 = 7) (v2 : Int32)  (G2 : Grp) (e2 : σ0 2 = G2) (G3 : Grp) (e3 : σ0 3 = G3) (G4 : Grp) (e4 : σ0 4 = G4) (G5 : Grp) (e5 : σ0 5 = G5) (G6 : Grp) (e6 : σ0 6 = G6) (G9 : Grp) (e9 : σ0 9 = G9) (G10 : Grp) (e10 : σ0 10 = G10) (G12 : Grp) (e12 : σ0 12 = G12) (G13 : Grp) (e13 : σ0 13 = G13) (G14 : Grp) (e14 : σ0 14 = G14) (q : Grp × Grp × Grp × Grp × Grp) (h : f_X6_readSome F G2 G3 G4 G5 G6 G9 G10 G12 G13 G14 v1 v2 = some q) : MT l HB D y yX6_readSome cX6_readSome 5 none RM_X6_readSome [.ref (HB.size + 44), .ref (HB.size + v1), .int v2] (IV HB D y n n κ σ0 []) none (B_X6_readSome HB D y n κ σ0 q) := by
  refine Met.ofW (cc := cX6_readSome) (maxL := 5) (ret := none) (by decide) rfl ?_
  intro p e s m args below meth c s₁ BL hml hv
  obtain ⟨rfl, hI, hKK⟩ := hv
  have hx := BL.exec
  have hb := BL.bytes
  have hr := BL.returns
  have hts : ∀ w ∈ gtb, w.before _ s = true := fun w hw => atoms_spec BL.pre w (List.mem_cons_of_mem _ hw)
  have hml : c.maxLocals = 5 := hml
  have hown : s.vm.findClass RX6 = some m.cls := findClass_of_methodNamed BL.named
  have hlocks := BL.notSynchronized
  have hk0 := hI.1.2.2.2.2
  have hl := lv_entry ([.ref (HB.size + 44), .ref (HB.size + v1), .int v2]) (n := 5) (Nat.le_of_ble_eq_true rfl)
  rw [lg_entry_eq]
  generalize (lg_sl ([.ref (HB.size + 44), .ref (HB.size + v1), .int v2]) ++ List.replicate (5 - (lg_sl ([.ref (HB.size + 44), .ref (HB.size + v1), .int v2])).length) Slot.unset).toArray = ls at hl ⊢
  have hl : lv_has ls 5 [(0, .ref (HB.size + 44)), (1, .ref (HB.size + v1)), (2, .int v2)] := hl
  generalize hargs : ([.ref (HB.size + 44), .ref (HB.size + v1), .int v2] : List Value).toArray = args at *
  have b2 : ∀ (fu : Nat) (σ : St) (H : Heap) (locs : List Loc) (ls : Array Slot) (G2 : Grp) (G3 : Grp) (G4 : Grp) (G5 : Grp) (G6 : Grp) (G9 : Grp) (G10 : Grp) (G12 : Grp) (G13 : Grp) (G14 : Grp) (v1 : Nat) (v2 : Int32) (v3 : Int32) (ha_v1 : v1 < n) (hk_v1 : κ v1 = 7), IV HB D y n n κ σ locs H → σ 2 = G2 → σ 3 = G3 → σ 4 = G4 → σ 5 = G5 → σ 6 = G6 → σ 9 = G9 → σ 10 = G10 → σ 12 = G12 → σ 13 = G13 → σ 14 = G14 → (∀ j, j ∉ W_X6_readSome → σ j = σ0 j) → lv_has ls 5 [(0, .ref (HB.size + 44)), (1, .ref (HB.size + v1)), (2, .int v2), (3, .int v3)] → f_X6_readSome_l2 F  fu G2 G3 G4 G5 G6 G9 G10 G12 G13 G14 v1 v2 v3 = some q → WX RM_X6_readSome p l e s m args below meth c HB none (B_X6_readSome HB D y n κ σ0 q) H locs (F0 m 2 ls []) := by
    intro  fu
    induction fu with
    | zero =>
      intro σ H locs ls G2 G3 G4 G5 G6 G9 G10 G12 G13 G14 v1 v2 v3 ha_v1 hk_v1 hI e2 e3 e4 e5 e6 e9 e10 e12 e13 e14 fr hl h
      exact absurd h (by intro h; cases h)
    | succ fu hk2 =>
      intro σ H locs ls G2 G3 G4 G5 G6 G9 G10 G12 G13 G14 v1 v2 v3 ha_v1 hk_v1 hI e2 e3 e4 e5 e6 e9 e10 e12 e13 e14 fr hl h
      have h : f_X6_readSome_l2b F  (f_X6_readSome_l2 F  fu) G2 G3 G4 G5 G6 G9 G10 G12 G13 G14 v1 v2 v3 = some q := h
      generalize f_X6_readSome_l2 F  fu = k2 at h hk2
      unfold f_X6_readSome_l2b at h
      refine lv_iload_n hx hb dX6_readSome_2 rfl (lv_at hl 3 rfl) ?_
      refine lv_aload_n hx hb dX6_readSome_3 rfl (lv_at hl 0 rfl) ?_
      refine gf_X6_45 hx hb hts hown hKK hI hN dX6_readSome_4 ?_
      refine lv_iconst (v := 2) hx hb dX6_readSome_7 (by decide) ?_
      obtain ⟨hin_, h⟩ := ck_e h
      refine la_14 hx hb hKK hI e2 (lc2 hN) (kc2 hk0) hin_ dX6_readSome_8 ?_
      refine lv_icmp_ge (tgt := 40) hx hb dX6_readSome_9 (by decide) (fun hc => ?_) (fun hc => ?_)
      · replace h := ite_t hc h
        have hq := Option.some.inj h
        exact W.vret hx hb hr (fun t ht hW => qc_mk (rfl) (by rw [ht]; exact ⟨σ, hI.nil, e3.trans (congrArg (fun z => z.1) hq), e5.trans (congrArg (fun z => z.2.1) hq), e9.trans (congrArg (fun z => z.2.2.1) hq), e12.trans (congrArg (fun z => z.2.2.2.1) hq), e13.trans (congrArg (fun z => z.2.2.2.2) hq), fr⟩)) hI.2.2 dX6_readSome_40 hlocks
      · replace h := ite_f hc h
        refine lv_aload_n hx hb dX6_readSome_12 rfl (lv_at hl 0 rfl) ?_
        refine lv_iconst (v := 2) hx hb dX6_readSome_13 (by decide) ?_
        refine lv_null hx hb dX6_readSome_14 ?_
        obtain ⟨q_15, hq_15, h⟩ := ob_e h
        refine r_callV (As := [.int 2, .null]) (rest := []) hx hb hml hts hown (c_X6_firstIn l HB D y F n κ σ hN 2 none (fun _ q => by cases q) G10 e10 G13 e13 q_15 hq_15) cal_X6_firstIn im_X6_firstIn se_X6_firstIn lm_X6_91 ⟨Nat.le_of_ble_eq_true rfl, Nat.le_of_ble_eq_true rfl⟩ hI.nil hKK (r_recv hKK hI (hE6 HB.size y) rfl (lc44 hN) (kc44 hk0)) rfl hl.1 hI.2.2 rfl (Nat.le_of_ble_eq_true rfl) dX6_readSome_15 ⟨Nat.le_of_ble_eq_true rfl, Nat.le_of_ble_eq_true rfl⟩ rfl rfl rfl (fun H locs hB hlo => ?_)
        obtain ⟨hB, hf_15⟩ := hB
        have hI := hB.re hlo
        rcases om_e h with ⟨eo, h⟩ | ⟨t_15, eo, h⟩
        · refine topn eo ?_
          refine lv_astoreN (lv' := [(4, .null), (0, .ref (HB.size + 44)), (1, .ref (HB.size + v1)), (2, .int v2), (3, .int v3)]) hx hb dX6_readSome_18 hl (by decide) rfl (fun ls hl => ?_)
          refine lv_aloadN hx hb dX6_readSome_20 (lv_at hl 0 rfl) ?_
          refine lv_ifnonnullN hx hb dX6_readSome_22 ?_
          have hq := Option.some.inj h
          exact W.vret hx hb hr (fun t ht hW => qc_mk (rfl) (by rw [ht]; exact ⟨σ, hI.nil, e3.trans (congrArg (fun z => z.1) hq), e5.trans (congrArg (fun z => z.2.1) hq), e9.trans (congrArg (fun z => z.2.2.1) hq), e12.trans (congrArg (fun z => z.2.2.2.1) hq), e13.trans (congrArg (fun z => z.2.2.2.2) hq), fr⟩)) hI.2.2 dX6_readSome_25 hlocks
        · refine topr eo ?_
          obtain ⟨ha_15, hk_15⟩ := hf_15 _ eo
          refine lv_astore (lv' := [(4, .ref (HB.size + t_15)), (0, .ref (HB.size + 44)), (1, .ref (HB.size + v1)), (2, .int v2), (3, .int v3)]) hx hb dX6_readSome_18 hl (by decide) rfl (fun ls hl => ?_)
          refine lv_aload hx hb dX6_readSome_20 (lv_at hl 0 rfl) ?_
          refine lv_ifnonnull (tgt := 26) hx hb dX6_readSome_22 (by decide) ?_
          refine lv_aload_n hx hb dX6_readSome_26 rfl (lv_at hl 1 rfl) ?_
          refine lv_aload hx hb dX6_readSome_27 (lv_at hl 0 rfl) ?_
          refine lv_aload_n hx hb dX6_readSome_29 rfl (lv_at hl 2 rfl) ?_
          refine lv_iload_n hx hb dX6_readSome_30 rfl (lv_at hl 3 rfl) ?_
          obtain ⟨q_31, hq_31, h⟩ := ob_e h
          refine r_callV (As := [.ref (HB.size + t_15), .ref (HB.size + v1), .int v2]) (rest := []) hx hb hml hts hown (c_X6_readOne l HB D y F n κ σ hN t_15 ha_15 hk_15 v1 ha_v1 hk_v1 v2 G2 e2 G3 e3 G4 e4 G5 e5 G6 e6 G9 e9 G12 e12 G13 e13 G14 e14 q_31 hq_31) cal_X6_readOne im_X6_readOne se_X6_readOne lm_X6_95 ⟨Nat.le_of_ble_eq_true rfl, Nat.le_of_ble_eq_true rfl⟩ hI.nil hKK (r_recv hKK hI (hE6 HB.size y) rfl (lc44 hN) (kc44 hk0)) rfl hl.1 hI.2.2 rfl (Nat.le_of_ble_eq_true rfl) dX6_readSome_31 ⟨Nat.le_of_ble_eq_true rfl, Nat.le_of_ble_eq_true rfl⟩ rfl rfl rfl (fun H locs hB hlo => ?_)
          obtain ⟨σ, hB, en3, en5, en9, en12, en13, ho⟩ := hB
          have hI := hB.re hlo
          have e3 := en3
          have e5 := en5
          have e9 := en9
          have e12 := en12
          have e13 := en13
          have e2 := (ho 2 (ni rfl)).trans e2
          have e4 := (ho 4 (ni rfl)).trans e4
          have e6 := (ho 6 (ni rfl)).trans e6
          have e10 := (ho 10 (ni rfl)).trans e10
          have e14 := (ho 14 (ni rfl)).trans e14
          have fr := frc fr ho (by decide)
          obtain ⟨v3_34, qq, h⟩ := bn_e h
          refine lv_iinc (v := v3_34) (lv' := [(3, .int v3_34), (4, .ref (HB.size + t_15)), (0, .ref (HB.size + 44)), (1, .ref (HB.size + v1)), (2, .int v2)]) hx hb dX6_readSome_34 hl (k := 4) rfl (by rw [qq]; rfl) (by decide) rfl (fun ls hl => ?_)
          refine lv_goto (tgt := 2) hx hb dX6_readSome_37 (by decide) ?_
          exact hk2 σ H locs ls G2 (q_31.1) G4 (q_31.2.1) G6 (q_31.2.2.1) G10 (q_31.2.2.2.1) (q_31.2.2.2.2) G14 v1 v2 v3_34 ha_v1 hk_v1 hI e2 e3 e4 e5 e6 e9 e10 e12 e13 e14 fr (lv_sub hl [2, 3, 4, 0] rfl) h
  obtain ⟨σ, hI, e2, e3, e4, e5, e6, e9, e10, e12, e13, e14, fr⟩ : ∃ σ : St, IV HB D y n n κ σ [] s.heap ∧ σ 2 = G2 ∧ σ 3 = G3 ∧ σ 4 = G4 ∧ σ 5 = G5 ∧ σ 6 = G6 ∧ σ 9 = G9 ∧ σ 10 = G10 ∧ σ 12 = G12 ∧ σ 13 = G13 ∧ σ 14 = G14 ∧ ∀ j, j ∉ W_X6_readSome → σ j = σ0 j := ⟨σ0, hI, e2, e3, e4, e5, e6, e9, e10, e12, e13, e14, fun _ _ => rfl⟩
  show WX RM_X6_readSome p l e s m args below meth c HB none (B_X6_readSome HB D y n κ σ0 q) s.heap [] (F0 m 0 ls [])
  generalize s.heap = H at hI ⊢
  unfold f_X6_readSome at h
  obtain ⟨locs, hlocs⟩ : ∃ x : List Loc, x = [] := ⟨_, rfl⟩
  rw [← hlocs] at hI ⊢
  refine lv_iconst (v := 0) hx hb dX6_readSome_0 (by decide) ?_
  refine lv_istore_n (lv' := [(3, .int 0), (0, .ref (HB.size + 44)), (1, .ref (HB.size + v1)), (2, .int v2)]) hx hb dX6_readSome_1 rfl hl (by decide) rfl (fun ls hl => ?_)
  exact b2  F σ H locs ls G2 G3 G4 G5 G6 G9 G10 G12 G13 G14 v1 v2 0 ha_v1 hk_v1 hI e2 e3 e4 e5 e6 e9 e10 e12 e13 e14 fr (lv_sub hl [1, 2, 3, 0] rfl) h
noncomputable def f_X6_passHeld (F : Nat) (G3 : Grp) (G4 : Grp) (G5 : Grp) (G6 : Grp) (G9 : Grp) (G12 : Grp) (G13 : Grp) (G14 : Grp) (v1 : Nat) (v2 : Nat) (v3 : Int32) : Option (Grp × Grp × Grp × Grp × Grp) :=
  ob (f_X2_search F G3 G4 G5 51 v2 (v1 + 3) (G13.1 v1 6)) (fun q_13 => ob (f_X6_pass F G3 G4 q_13 G6 G9 G12 G13 G14 v1 v2 v3) (fun q_20 => some (q_20.1, q_13, q_20.2.1, q_20.2.2.1, q_20.2.2.2)))
def RM_X6_passHeld : Room := { frames := 4, cells := 0, slots := 0, locals := 94 }
abbrev W_X6_passHeld : List Nat := [3, 5, 9, 12, 13]
abbrev B_X6_passHeld (HB : Heap) (D : va_G) (y : Nat → ClassId) (n : Nat) (κ : Nat → Nat) (σ0 : St) (q : Grp × Grp × Grp × Grp × Grp) : Heap → Prop := fun H => ∃ σ : St, IV HB D y n n κ σ [] H ∧ σ 3 = q.1 ∧ σ 5 = q.2.1 ∧ σ 9 = q.2.2.1 ∧ σ 12 = q.2.2.2.1 ∧ σ 13 = q.2.2.2.2 ∧ ∀ j, j ∉ W_X6_passHeld → σ j = σ0 j
set_option maxRecDepth 100000 in
set_option maxHeartbeats 4000000 in
theorem c_X6_passHeld (l : Launch) (HB : Heap) (D : va_G) (y : Nat → ClassId) (F n : Nat) (κ : Nat → Nat) (σ0 : St) (hN : N0 ≤ n) (v1 : Nat) (ha_v1 : v1 < n) (hk_v1 : κ v1 = 4) (v2 : Nat) (ha_v2 : v2 < n) (hk_v2 : κ v2 = 7) (v3 : Int32)  (G3 : Grp) (e3 : σ0 3 = G3) (G4 : Grp) (e4 : σ0 4 = G4) (G5 : Grp) (e5 : σ0 5 = G5) (G6 : Grp) (e6 : σ0 6 = G6) (G9 : Grp) (e9 : σ0 9 = G9) (G12 : Grp) (e12 : σ0 12 = G12) (G13 : Grp) (e13 : σ0 13 = G13) (G14 : Grp) (e14 : σ0 14 = G14) (q : Grp × Grp × Grp × Grp × Grp) (h : f_X6_passHeld F G3 G4 G5 G6 G9 G12 G13 G14 v1 v2 v3 = some q) : MT l HB D y yX6_passHeld cX6_passHeld 4 none RM_X6_passHeld [.ref (HB.size + 44), .ref (HB.size + v1), .ref (HB.size + v2), .int v3] (IV HB D y n n κ σ0 []) none (B_X6_passHeld HB D y n κ σ0 q) := by
  refine Met.ofW (cc := cX6_passHeld) (maxL := 4) (ret := none) (by decide) rfl ?_
  intro p e s m args below meth c s₁ BL hml hv
  obtain ⟨rfl, hI, hKK⟩ := hv
  have hx := BL.exec
  have hb := BL.bytes
  have hr := BL.returns
  have hts : ∀ w ∈ gtb, w.before _ s = true := fun w hw => atoms_spec BL.pre w (List.mem_cons_of_mem _ hw)
  have hml : c.maxLocals = 4 := hml
  have hown : s.vm.findClass RX6 = some m.cls := findClass_of_methodNamed BL.named
  have hlocks := BL.notSynchronized
  have hk0 := hI.1.2.2.2.2
  have hl := lv_entry ([.ref (HB.size + 44), .ref (HB.size + v1), .ref (HB.size + v2), .int v3]) (n := 4) (Nat.le_of_ble_eq_true rfl)
  rw [lg_entry_eq]
  generalize (lg_sl ([.ref (HB.size + 44), .ref (HB.size + v1), .ref (HB.size + v2), .int v3]) ++ List.replicate (4 - (lg_sl ([.ref (HB.size + 44), .ref (HB.size + v1), .ref (HB.size + v2), .int v3])).length) Slot.unset).toArray = ls at hl ⊢
  have hl : lv_has ls 4 [(0, .ref (HB.size + 44)), (1, .ref (HB.size + v1)), (2, .ref (HB.size + v2)), (3, .int v3)] := hl
  generalize hargs : ([.ref (HB.size + 44), .ref (HB.size + v1), .ref (HB.size + v2), .int v3] : List Value).toArray = args at *
  obtain ⟨σ, hI, e3, e4, e5, e6, e9, e12, e13, e14, fr⟩ : ∃ σ : St, IV HB D y n n κ σ [] s.heap ∧ σ 3 = G3 ∧ σ 4 = G4 ∧ σ 5 = G5 ∧ σ 6 = G6 ∧ σ 9 = G9 ∧ σ 12 = G12 ∧ σ 13 = G13 ∧ σ 14 = G14 ∧ ∀ j, j ∉ W_X6_passHeld → σ j = σ0 j := ⟨σ0, hI, e3, e4, e5, e6, e9, e12, e13, e14, fun _ _ => rfl⟩
  show WX RM_X6_passHeld p l e s m args below meth c HB none (B_X6_passHeld HB D y n κ σ0 q) s.heap [] (F0 m 0 ls [])
  generalize s.heap = H at hI ⊢
  unfold f_X6_passHeld at h
  obtain ⟨locs, hlocs⟩ : ∃ x : List Loc, x = [] := ⟨_, rfl⟩
  rw [← hlocs] at hI ⊢
  refine lv_aload_n hx hb dX6_passHeld_0 rfl (lv_at hl 0 rfl) ?_
  refine gf_X6_37 hx hb hts hown hKK hI hN dX6_passHeld_1 ?_
  refine lv_aload_n hx hb dX6_passHeld_4 rfl (lv_at hl 2 rfl) ?_
  refine lv_aload_n hx hb dX6_passHeld_5 rfl (lv_at hl 1 rfl) ?_
  refine gf_X6_103 hx hb hts hown hKK hI ha_v1 hk_v1 dX6_passHeld_6 ?_
  refine lv_aload_n hx hb dX6_passHeld_9 rfl (lv_at hl 1 rfl) ?_
  refine gt_X6_107 hx hb hts hown hKK hI e13 ha_v1 hk_v1 dX6_passHeld_10 ?_
  obtain ⟨q_13, hq_13, h⟩ := ob_e h
  refine r_callV (As := [.ref (HB.size + v2), .ref (HB.size + (v1 + 3)), .int (G13.1 v1 6)]) (rest := []) hx hb hml hts hown (c_X2_search l HB D y F n κ σ hN 51 (lc51 hN) (kc51 hk0) v2 ha_v2 hk_v2 (v1 + 3) (ownF hI ha_v1 hk_v1 0 rfl).2.1 (ownF hI ha_v1 hk_v1 0 rfl).2.2 (G13.1 v1 6) G3 e3 G4 e4 G5 e5 q_13 hq_13) cal_X2_search im_X2_search se_X2_search lm_X6_110 ⟨Nat.le_of_ble_eq_true rfl, Nat.le_of_ble_eq_true rfl⟩ hI.nil hKK (r_recv hKK hI (hE2 HB.size y) rfl (lc51 hN) (kc51 hk0)) rfl hl.1 hI.2.2 rfl (Nat.le_of_ble_eq_true rfl) dX6_passHeld_13 ⟨Nat.le_of_ble_eq_true rfl, Nat.le_of_ble_eq_true rfl⟩ rfl rfl rfl (fun H locs hB hlo => ?_)
  obtain ⟨σ, hB, en5, ho⟩ := hB
  have hI := hB.re hlo
  have e5 := en5
  have e3 := (ho 3 (ni rfl)).trans e3
  have e4 := (ho 4 (ni rfl)).trans e4
  have e6 := (ho 6 (ni rfl)).trans e6
  have e9 := (ho 9 (ni rfl)).trans e9
  have e12 := (ho 12 (ni rfl)).trans e12
  have e13 := (ho 13 (ni rfl)).trans e13
  have e14 := (ho 14 (ni rfl)).trans e14
  have fr := frc fr ho (by decide)
  refine lv_aload_n hx hb dX6_passHeld_16 rfl (lv_at hl 0 rfl) ?_
  refine lv_aload_n hx hb dX6_passHeld_17 rfl (lv_at hl 1 rfl) ?_
  refine lv_aload_n hx hb dX6_passHeld_18 rfl (lv_at hl 2 rfl) ?_
  refine lv_iload_n hx hb dX6_passHeld_19 rfl (lv_at hl 3 rfl) ?_
  obtain ⟨q_20, hq_20, h⟩ := ob_e h
  refine r_callV (As := [.ref (HB.size + v1), .ref (HB.size + v2), .int v3]) (rest := []) hx hb hml hts hown (c_X6_pass l HB D y F n κ σ hN v1 ha_v1 hk_v1 v2 ha_v2 hk_v2 v3 G3 e3 G4 e4 q_13 e5 G6 e6 G9 e9 G12 e12 G13 e13 G14 e14 q_20 hq_20) cal_X6_pass im_X6_pass se_X6_pass lm_X6_122 ⟨Nat.le_of_ble_eq_true rfl, Nat.le_of_ble_eq_true rfl⟩ hI.nil hKK (r_recv hKK hI (hE6 HB.size y) rfl (lc44 hN) (kc44 hk0)) rfl hl.1 hI.2.2 rfl (Nat.le_of_ble_eq_true rfl) dX6_passHeld_20 ⟨Nat.le_of_ble_eq_true rfl, Nat.le_of_ble_eq_true rfl⟩ rfl rfl rfl (fun H locs hB hlo => ?_)
  obtain ⟨σ, hB, en3, en9, en12, en13, ho⟩ := hB
  have hI := hB.re hlo
  have e3 := en3
  have e9 := en9
  have e12 := en12
  have e13 := en13
  have e4 := (ho 4 (ni rfl)).trans e4
  have e5 := (ho 5 (ni rfl)).trans e5
  have e6 := (ho 6 (ni rfl)).trans e6
  have e14 := (ho 14 (ni rfl)).trans e14
  have fr := frc fr ho (by decide)
  have hq := Option.some.inj h
  exact W.vret hx hb hr (fun t ht hW => qc_mk (rfl) (by rw [ht]; exact ⟨σ, hI.nil, e3.trans (congrArg (fun z => z.1) hq), e5.trans (congrArg (fun z => z.2.1) hq), e9.trans (congrArg (fun z => z.2.2.1) hq), e12.trans (congrArg (fun z => z.2.2.2.1) hq), e13.trans (congrArg (fun z => z.2.2.2.2) hq), fr⟩)) hI.2.2 dX6_passHeld_23 hlocks
noncomputable def f_X6_bring_b95 (F : Nat) (k2 : Grp → Grp → Grp → Grp → Int32 → Int32 → Option (Grp × Grp)) (G6 : Grp) (G9 : Grp) (G10 : Grp) (G13 : Grp) (v1 : Int32) (v2 : Int32) (v3 : Nat) (s0 : Nat) (s1 : Int32) : Option (Grp × Grp) :=
  ob (f_X4_move F G13 s0 s1 v1) (fun q_96 => if (q_96.1 v3 8) = 6 then if (q_96.1 v3 1) = 0 then om (q_96.2.2 v3 0) (none) (fun t_116 => bn (gI G9 t_116 8 v1) (fun G9_120 => bn (v2 + 1) (fun v2_123 => k2 G6 G9_120 G10 q_96 v1 v2_123))) else bn (v2 + 1) (fun v2_123 => k2 G6 G9 G10 q_96 v1 v2_123) else bn (v2 + 1) (fun v2_123 => k2 G6 G9 G10 q_96 v1 v2_123))
noncomputable def f_X6_bring_l2b (F : Nat)  (k2 : Grp → Grp → Grp → Grp → Int32 → Int32 → Option (Grp × Grp)) (G6 : Grp) (G9 : Grp) (G10 : Grp) (G13 : Grp) (v1 : Int32) (v2 : Int32) : Option (Grp × Grp) :=
  if (G10.1 44 1) ≤ v2 then some (G9, G13) else ck v2 200 (om (G10.2.2 45 v2.toNatClampNeg) (none) (fun t_15 => om (G13.2.2 t_15 0) (none) (fun t_25 => ck (G9.1 t_25 2) 16 (bn ((G6.1 36 (G9.1 t_25 2).toNatClampNeg)) (fun v4_32 => if (G13.1 t_15 8) = 5 then ck v4_32 6 (if (v1 - (G13.1 t_15 9)) < (G6.1 33 v4_32.toNatClampNeg) then bn (v2 + 1) (fun v2_123 => k2 G6 G9 G10 G13 v1 v2_123) else ob (f_X3_isFlooded F G6 v4_32 v1) (fun q_68 => if q_68 = 0 then om (G13.2.2 t_15 0) (none) (fun t_79 => ob (f_X5_isOpen F G9 t_79) (fun q_82 => if q_82 = 0 then f_X6_bring_b95 F k2 G6 G9 G10 G13 v1 v2 t_15 t_15 7 else f_X6_bring_b95 F k2 G6 G9 G10 G13 v1 v2 t_15 t_15 6)) else bn (v2 + 1) (fun v2_123 => k2 G6 G9 G10 G13 v1 v2_123))) else bn (v2 + 1) (fun v2_123 => k2 G6 G9 G10 G13 v1 v2_123))))))
noncomputable def f_X6_bring_l2 (F : Nat)  (fu : Nat) : Grp → Grp → Grp → Grp → Int32 → Int32 → Option (Grp × Grp) := Nat.rec (motive := fun _ => Grp → Grp → Grp → Grp → Int32 → Int32 → Option (Grp × Grp)) (fun _ _ _ _ _ _ => none) (fun _ ih => f_X6_bring_l2b F  ih) fu
noncomputable def f_X6_bring (F : Nat) (G6 : Grp) (G9 : Grp) (G10 : Grp) (G13 : Grp) (v1 : Int32) : Option (Grp × Grp) :=
  f_X6_bring_l2 F  F G6 G9 G10 G13 v1 0
def RM_X6_bring : Room := { frames := 1, cells := 0, slots := 0, locals := 22 }
abbrev W_X6_bring : List Nat := [9, 13]
abbrev B_X6_bring (HB : Heap) (D : va_G) (y : Nat → ClassId) (n : Nat) (κ : Nat → Nat) (σ0 : St) (q : Grp × Grp) : Heap → Prop := fun H => ∃ σ : St, IV HB D y n n κ σ [] H ∧ σ 9 = q.1 ∧ σ 13 = q.2 ∧ ∀ j, j ∉ W_X6_bring → σ j = σ0 j
set_option maxRecDepth 100000 in
set_option maxHeartbeats 4000000 in
theorem c_X6_bring (l : Launch) (HB : Heap) (D : va_G) (y : Nat → ClassId) (F n : Nat) (κ : Nat → Nat) (σ0 : St) (hN : N0 ≤ n) (v1 : Int32)  (G6 : Grp) (e6 : σ0 6 = G6) (G9 : Grp) (e9 : σ0 9 = G9) (G10 : Grp) (e10 : σ0 10 = G10) (G13 : Grp) (e13 : σ0 13 = G13) (q : Grp × Grp) (h : f_X6_bring F G6 G9 G10 G13 v1 = some q) : MT l HB D y yX6_bring cX6_bring 5 none RM_X6_bring [.ref (HB.size + 44), .int v1] (IV HB D y n n κ σ0 []) none (B_X6_bring HB D y n κ σ0 q) := by
  refine Met.ofW (cc := cX6_bring) (maxL := 5) (ret := none) (by decide) rfl ?_
  intro p e s m args below meth c s₁ BL hml hv
  obtain ⟨rfl, hI, hKK⟩ := hv
  have hx := BL.exec
  have hb := BL.bytes
  have hr := BL.returns
  have hts : ∀ w ∈ gtb, w.before _ s = true := fun w hw => atoms_spec BL.pre w (List.mem_cons_of_mem _ hw)
  have hml : c.maxLocals = 5 := hml
  have hown : s.vm.findClass RX6 = some m.cls := findClass_of_methodNamed BL.named
  have hlocks := BL.notSynchronized
  have hk0 := hI.1.2.2.2.2
  have hl := lv_entry ([.ref (HB.size + 44), .int v1]) (n := 5) (Nat.le_of_ble_eq_true rfl)
  rw [lg_entry_eq]
  generalize (lg_sl ([.ref (HB.size + 44), .int v1]) ++ List.replicate (5 - (lg_sl ([.ref (HB.size + 44), .int v1])).length) Slot.unset).toArray = ls at hl ⊢
  have hl : lv_has ls 5 [(0, .ref (HB.size + 44)), (1, .int v1)] := hl
  generalize hargs : ([.ref (HB.size + 44), .int v1] : List Value).toArray = args at *
  have b95 : ∀ (k2 : Grp → Grp → Grp → Grp → Int32 → Int32 → Option (Grp × Grp)) (hk2 : ∀ (σ : St) (H : Heap) (locs : List Loc) (ls : Array Slot) (G6 : Grp) (G9 : Grp) (G10 : Grp) (G13 : Grp) (v1 : Int32) (v2 : Int32) , IV HB D y n n κ σ locs H → σ 6 = G6 → σ 9 = G9 → σ 10 = G10 → σ 13 = G13 → (∀ j, j ∉ W_X6_bring → σ j = σ0 j) → lv_has ls 5 [(0, .ref (HB.size + 44)), (1, .int v1), (2, .int v2)] → k2 G6 G9 G10 G13 v1 v2 = some q → WX RM_X6_bring p l e s m args below meth c HB none (B_X6_bring HB D y n κ σ0 q) H locs (F0 m 2 ls [])) (σ : St) (H : Heap) (locs : List Loc) (ls : Array Slot) (G6 : Grp) (G9 : Grp) (G10 : Grp) (G13 : Grp) (v1 : Int32) (v2 : Int32) (v3 : Nat) (s0 : Nat) (s1 : Int32) (ha_v3 : v3 < n) (hk_v3 : κ v3 = 4) (ha_s0 : s0 < n) (hk_s0 : κ s0 = 4), IV HB D y n n κ σ locs H → σ 6 = G6 → σ 9 = G9 → σ 10 = G10 → σ 13 = G13 → (∀ j, j ∉ W_X6_bring → σ j = σ0 j) → lv_has ls 5 [(0, .ref (HB.size + 44)), (1, .int v1), (2, .int v2), (3, .ref (HB.size + v3))] → f_X6_bring_b95 F k2 G6 G9 G10 G13 v1 v2 v3 s0 s1 = some q → WX RM_X6_bring p l e s m args below meth c HB none (B_X6_bring HB D y n κ σ0 q) H locs (F0 m 95 ls [.int s1, .ref (HB.size + s0)]) := by
    intro k2 hk2 σ H locs ls G6 G9 G10 G13 v1 v2 v3 s0 s1 ha_v3 hk_v3 ha_s0 hk_s0 hI e6 e9 e10 e13 fr hl h
    unfold f_X6_bring_b95 at h
    refine lv_iload_n hx hb dX6_bring_95 rfl (lv_at hl 1 rfl) ?_
    obtain ⟨q_96, hq_96, h⟩ := ob_e h
    refine r_callV (As := [.int s1, .int v1]) (rest := []) hx hb hml hts hown (c_X4_move l HB D y F n κ σ hN s0 ha_s0 hk_s0 s1 v1 G13 e13 q_96 hq_96) cal_X4_move im_X4_move se_X4_move lm_X6_83 ⟨Nat.le_of_ble_eq_true rfl, Nat.le_of_ble_eq_true rfl⟩ hI.nil hKK (r_recv hKK hI (hE4 HB.size y) rfl ha_s0 hk_s0) rfl hl.1 hI.2.2 rfl (Nat.le_of_ble_eq_true rfl) dX6_bring_96 ⟨Nat.le_of_ble_eq_true rfl, Nat.le_of_ble_eq_true rfl⟩ rfl rfl rfl (fun H locs hB hlo => ?_)
    obtain ⟨σ, hB, en13, ho⟩ := hB
    have hI := hB.re hlo
    have e13 := en13
    have e6 := (ho 6 (ni rfl)).trans e6
    have e9 := (ho 9 (ni rfl)).trans e9
    have e10 := (ho 10 (ni rfl)).trans e10
    have fr := frc fr ho (by decide)
    refine lv_aload_n hx hb dX6_bring_99 rfl (lv_at hl 3 rfl) ?_
    refine gt_X6_64 hx hb hts hown hKK hI e13 ha_v3 hk_v3 dX6_bring_100 ?_
    refine lv_bipush (v := 6) hx hb dX6_bring_103 (by decide) ?_
    refine lv_icmp_ne (tgt := 123) hx hb dX6_bring_105 (by decide) (fun hc => ?_) (fun hc => ?_)
    · replace h := ite_f hc h
      obtain ⟨v2_123, qq, h⟩ := bn_e h
      refine lv_iinc (v := v2_123) (lv' := [(2, .int v2_123), (0, .ref (HB.size + 44)), (1, .int v1), (3, .ref (HB.size + v3))]) hx hb dX6_bring_123 hl (k := 2) rfl (by rw [qq]; rfl) (by decide) rfl (fun ls hl => ?_)
      refine lv_goto (tgt := 2) hx hb dX6_bring_126 (by decide) ?_
      exact hk2 σ H locs ls G6 G9 G10 q_96 v1 v2_123  hI e6 e9 e10 e13 fr (lv_sub hl [1, 2, 0] rfl) h
    · replace h := ite_t hc h
      refine lv_aload_n hx hb dX6_bring_108 rfl (lv_at hl 3 rfl) ?_
      refine gt_X6_156 hx hb hts hown hKK hI e13 ha_v3 hk_v3 dX6_bring_109 ?_
      refine lv_if_ne (tgt := 123) hx hb dX6_bring_112 (by decide) (fun hc => ?_) (fun hc => ?_)
      · replace h := ite_f hc h
        obtain ⟨v2_123, qq, h⟩ := bn_e h
        refine lv_iinc (v := v2_123) (lv' := [(2, .int v2_123), (0, .ref (HB.size + 44)), (1, .int v1), (3, .ref (HB.size + v3))]) hx hb dX6_bring_123 hl (k := 2) rfl (by rw [qq]; rfl) (by decide) rfl (fun ls hl => ?_)
        refine lv_goto (tgt := 2) hx hb dX6_bring_126 (by decide) ?_
        exact hk2 σ H locs ls G6 G9 G10 q_96 v1 v2_123  hI e6 e9 e10 e13 fr (lv_sub hl [1, 2, 0] rfl) h
      · replace h := ite_t hc h
        refine lv_aload_n hx hb dX6_bring_115 rfl (lv_at hl 3 rfl) ?_
        refine gt_X6_52 hx hb hts hown hKK hI e13 ha_v3 hk_v3 dX6_bring_116 ?_
        rcases om_e h with ⟨eo, h⟩ | ⟨t_116, eo, h⟩
        · refine topn eo ?_
          refine lv_iload_n hx hb dX6_bring_119 rfl (lv_at hl 1 rfl) ?_
          cases h
        · refine topr eo ?_
          obtain ⟨ha_116, hk_116⟩ := typF hI ha_v3 hk_v3 0 rfl e13 eo
          refine lv_iload_n hx hb dX6_bring_119 rfl (lv_at hl 1 rfl) ?_
          obtain ⟨G9_120, qq, h⟩ := bn_e h
          refine pt_X6_187 hx hb hts hown hKK hI e9 ha_116 hk_116 dX6_bring_120 (fun σ H locs hI ew ho => ?_)
          have e9 := ew.trans qq.symm
          have e6 := (ho 6 (nn rfl)).trans e6
          have e10 := (ho 10 (nn rfl)).trans e10
          have e13 := (ho 13 (nn rfl)).trans e13
          have fr := frs fr ho (by decide)
          obtain ⟨v2_123, qq, h⟩ := bn_e h
          refine lv_iinc (v := v2_123) (lv' := [(2, .int v2_123), (0, .ref (HB.size + 44)), (1, .int v1), (3, .ref (HB.size + v3))]) hx hb dX6_bring_123 hl (k := 2) rfl (by rw [qq]; rfl) (by decide) rfl (fun ls hl => ?_)
          refine lv_goto (tgt := 2) hx hb dX6_bring_126 (by decide) ?_
          exact hk2 σ H locs ls G6 G9_120 G10 q_96 v1 v2_123  hI e6 e9 e10 e13 fr (lv_sub hl [1, 2, 0] rfl) h
  have b2 : ∀ (fu : Nat) (σ : St) (H : Heap) (locs : List Loc) (ls : Array Slot) (G6 : Grp) (G9 : Grp) (G10 : Grp) (G13 : Grp) (v1 : Int32) (v2 : Int32) , IV HB D y n n κ σ locs H → σ 6 = G6 → σ 9 = G9 → σ 10 = G10 → σ 13 = G13 → (∀ j, j ∉ W_X6_bring → σ j = σ0 j) → lv_has ls 5 [(0, .ref (HB.size + 44)), (1, .int v1), (2, .int v2)] → f_X6_bring_l2 F  fu G6 G9 G10 G13 v1 v2 = some q → WX RM_X6_bring p l e s m args below meth c HB none (B_X6_bring HB D y n κ σ0 q) H locs (F0 m 2 ls []) := by
    intro  fu
    induction fu with
    | zero =>
      intro σ H locs ls G6 G9 G10 G13 v1 v2 hI e6 e9 e10 e13 fr hl h
      exact absurd h (by intro h; cases h)
    | succ fu hk2 =>
      intro σ H locs ls G6 G9 G10 G13 v1 v2 hI e6 e9 e10 e13 fr hl h
      have h : f_X6_bring_l2b F  (f_X6_bring_l2 F  fu) G6 G9 G10 G13 v1 v2 = some q := h
      generalize f_X6_bring_l2 F  fu = k2 at h hk2
      unfold f_X6_bring_l2b at h
      refine lv_iload_n hx hb dX6_bring_2 rfl (lv_at hl 2 rfl) ?_
      refine lv_aload_n hx hb dX6_bring_3 rfl (lv_at hl 0 rfl) ?_
      refine gt_X6_48 hx hb hts hown hKK hI e10 (lc44 hN) (kc44 hk0) dX6_bring_4 ?_
      refine lv_icmp_ge (tgt := 129) hx hb dX6_bring_7 (by decide) (fun hc => ?_) (fun hc => ?_)
      · replace h := ite_t hc h
        have hq := Option.some.inj h
        exact W.vret hx hb hr (fun t ht hW => qc_mk (rfl) (by rw [ht]; exact ⟨σ, hI.nil, e9.trans (congrArg (fun z => z.1) hq), e13.trans (congrArg (fun z => z.2) hq), fr⟩)) hI.2.2 dX6_bring_129 hlocks
      · replace h := ite_f hc h
        refine lv_aload_n hx hb dX6_bring_10 rfl (lv_at hl 0 rfl) ?_
        refine gf_X6_11 hx hb hts hown hKK hI hN dX6_bring_11 ?_
        refine lv_iload_n hx hb dX6_bring_14 rfl (lv_at hl 2 rfl) ?_
        obtain ⟨hin_, h⟩ := ck_e h
        refine la_24 hx hb hKK hI e10 (lc45 hN) (kc45 hk0) hin_ dX6_bring_15 ?_
        rcases om_e h with ⟨eo, h⟩ | ⟨t_15, eo, h⟩
        · refine topn eo ?_
          refine lv_astore_nN (lv' := [(3, .null), (0, .ref (HB.size + 44)), (1, .int v1), (2, .int v2)]) hx hb dX6_bring_16 rfl hl (by decide) rfl (fun ls hl => ?_)
          refine lv_aload_n hx hb dX6_bring_17 rfl (lv_at hl 1 rfl) ?_
          refine gf_X6_41 hx hb hts hown hKK hI hN dX6_bring_18 ?_
          refine gf_X6_177 hx hb hts hown hKK hI hN dX6_bring_21 ?_
          refine lv_aload_nN hx hb dX6_bring_24 rfl (lv_at hl 0 rfl) ?_
          cases h
        · refine topr eo ?_
          obtain ⟨ha_15, hk_15⟩ := tarF hI (lc45 hN) (kc45 hk0) 0 rfl e10 eo
          refine lv_astore_n (lv' := [(3, .ref (HB.size + t_15)), (0, .ref (HB.size + 44)), (1, .int v1), (2, .int v2)]) hx hb dX6_bring_16 rfl hl (by decide) rfl (fun ls hl => ?_)
          refine lv_aload_n hx hb dX6_bring_17 rfl (lv_at hl 1 rfl) ?_
          refine gf_X6_41 hx hb hts hown hKK hI hN dX6_bring_18 ?_
          refine gf_X6_177 hx hb hts hown hKK hI hN dX6_bring_21 ?_
          refine lv_aload_n hx hb dX6_bring_24 rfl (lv_at hl 0 rfl) ?_
          refine gt_X6_52 hx hb hts hown hKK hI e13 ha_15 hk_15 dX6_bring_25 ?_
          rcases om_e h with ⟨eo, h⟩ | ⟨t_25, eo, h⟩
          · cases h
          · refine topr eo ?_
            obtain ⟨ha_25, hk_25⟩ := typF hI ha_15 hk_15 0 rfl e13 eo
            refine gt_X6_162 hx hb hts hown hKK hI e9 ha_25 hk_25 dX6_bring_28 ?_
            obtain ⟨hin_, h⟩ := ck_e h
            refine la_21 hx hb hKK hI e6 (lc36 hN) (kc36 hk0) hin_ dX6_bring_31 ?_
            obtain ⟨v4_32, qq, h⟩ := bn_e h
            refine topi qq ?_
            refine lv_istore (lv' := [(4, .int v4_32), (3, .ref (HB.size + t_15)), (0, .ref (HB.size + 44)), (1, .int v1), (2, .int v2)]) hx hb dX6_bring_32 hl (by decide) rfl (fun ls hl => ?_)
            refine lv_aload_n hx hb dX6_bring_34 rfl (lv_at hl 1 rfl) ?_
            refine gt_X6_64 hx hb hts hown hKK hI e13 ha_15 hk_15 dX6_bring_35 ?_
            refine lv_iconst (v := 5) hx hb dX6_bring_38 (by decide) ?_
            refine lv_icmp_ne (tgt := 123) hx hb dX6_bring_39 (by decide) (fun hc => ?_) (fun hc => ?_)
            · replace h := ite_f hc h
              obtain ⟨v2_123, qq, h⟩ := bn_e h
              refine lv_iinc (v := v2_123) (lv' := [(2, .int v2_123), (4, .int v4_32), (3, .ref (HB.size + t_15)), (0, .ref (HB.size + 44)), (1, .int v1)]) hx hb dX6_bring_123 hl (k := 4) rfl (by rw [qq]; rfl) (by decide) rfl (fun ls hl => ?_)
              refine lv_goto (tgt := 2) hx hb dX6_bring_126 (by decide) ?_
              exact hk2 σ H locs ls G6 G9 G10 G13 v1 v2_123  hI e6 e9 e10 e13 fr (lv_sub hl [3, 4, 0] rfl) h
            · replace h := ite_t hc h
              refine lv_iload_n hx hb dX6_bring_42 rfl (lv_at hl 3 rfl) ?_
              refine lv_aload_n hx hb dX6_bring_43 rfl (lv_at hl 1 rfl) ?_
              refine gt_X6_70 hx hb hts hown hKK hI e13 ha_15 hk_15 dX6_bring_44 ?_
              refine lv_isub hx hb dX6_bring_47 ?_
              refine lv_aload_n hx hb dX6_bring_48 rfl (lv_at hl 2 rfl) ?_
              refine gf_X6_41 hx hb hts hown hKK hI hN dX6_bring_49 ?_
              refine gf_X6_180 hx hb hts hown hKK hI hN dX6_bring_52 ?_
              refine lv_iload hx hb dX6_bring_55 (lv_at hl 0 rfl) ?_
              obtain ⟨hin_, h⟩ := ck_e h
              refine la_20 hx hb hKK hI e6 (lc33 hN) (kc33 hk0) hin_ dX6_bring_57 ?_
              refine lv_icmp_lt (tgt := 123) hx hb dX6_bring_58 (by decide) (fun hc => ?_) (fun hc => ?_)
              · replace h := ite_t hc h
                obtain ⟨v2_123, qq, h⟩ := bn_e h
                refine lv_iinc (v := v2_123) (lv' := [(2, .int v2_123), (4, .int v4_32), (3, .ref (HB.size + t_15)), (0, .ref (HB.size + 44)), (1, .int v1)]) hx hb dX6_bring_123 hl (k := 4) rfl (by rw [qq]; rfl) (by decide) rfl (fun ls hl => ?_)
                refine lv_goto (tgt := 2) hx hb dX6_bring_126 (by decide) ?_
                exact hk2 σ H locs ls G6 G9 G10 G13 v1 v2_123  hI e6 e9 e10 e13 fr (lv_sub hl [3, 4, 0] rfl) h
              · replace h := ite_f hc h
                refine lv_aload_n hx hb dX6_bring_61 rfl (lv_at hl 2 rfl) ?_
                refine gf_X6_41 hx hb hts hown hKK hI hN dX6_bring_62 ?_
                refine lv_iload hx hb dX6_bring_65 (lv_at hl 0 rfl) ?_
                refine lv_iload_n hx hb dX6_bring_67 rfl (lv_at hl 3 rfl) ?_
                obtain ⟨q_68, hq_68, h⟩ := ob_e h
                refine r_callV (As := [.int v4_32, .int v1]) (rest := []) hx hb hml hts hown (c_X3_isFlooded l HB D y F n κ σ hN v4_32 v1 G6 e6 q_68 hq_68) cal_X3_isFlooded im_X3_isFlooded se_X3_isFlooded lm_X6_183 ⟨Nat.le_of_ble_eq_true rfl, Nat.le_of_ble_eq_true rfl⟩ hI.nil hKK (r_recv hKK hI (hE3 HB.size y) rfl (lc32 hN) (kc32 hk0)) rfl hl.1 hI.2.2 rfl (Nat.le_of_ble_eq_true rfl) dX6_bring_68 ⟨Nat.le_of_ble_eq_true rfl, Nat.le_of_ble_eq_true rfl⟩ rfl rfl rfl (fun H locs hB hlo => ?_)
                have hI := hB.re hlo
                refine lv_if_eq (tgt := 77) hx hb dX6_bring_71 (by decide) (fun hc => ?_) (fun hc => ?_)
                · replace h := ite_t hc h
                  refine lv_aload_n hx hb dX6_bring_77 rfl (lv_at hl 1 rfl) ?_
                  refine lv_aload_n hx hb dX6_bring_78 rfl (lv_at hl 1 rfl) ?_
                  refine gt_X6_52 hx hb hts hown hKK hI e13 ha_15 hk_15 dX6_bring_79 ?_
                  rcases om_e h with ⟨eo, h⟩ | ⟨t_79, eo, h⟩
                  · cases h
                  · refine topr eo ?_
                    obtain ⟨ha_79, hk_79⟩ := typF hI ha_15 hk_15 0 rfl e13 eo
                    obtain ⟨q_82, hq_82, h⟩ := ob_e h
                    refine r_callV (As := []) (rest := [.ref (HB.size + t_15)]) hx hb hml hts hown (c_X5_isOpen l HB D y F n κ σ hN t_79 ha_79 hk_79 G9 e9 q_82 hq_82) cal_X5_isOpen im_X5_isOpen se_X5_isOpen lm_X6_99 ⟨Nat.le_of_ble_eq_true rfl, Nat.le_of_ble_eq_true rfl⟩ hI.nil hKK (r_recv hKK hI (hE5 HB.size y) rfl ha_79 hk_79) rfl hl.1 hI.2.2 rfl (Nat.le_of_ble_eq_true rfl) dX6_bring_82 ⟨Nat.le_of_ble_eq_true rfl, Nat.le_of_ble_eq_true rfl⟩ rfl rfl rfl (fun H locs hB hlo => ?_)
                    have hI := hB.re hlo
                    refine lv_if_eq (tgt := 93) hx hb dX6_bring_85 (by decide) (fun hc => ?_) (fun hc => ?_)
                    · replace h := ite_t hc h
                      refine lv_bipush (v := 7) hx hb dX6_bring_93 (by decide) ?_
                      exact b95 k2 hk2 σ H locs ls G6 G9 G10 G13 v1 v2 t_15 t_15 7 ha_15 hk_15 ha_15 hk_15 hI e6 e9 e10 e13 fr (lv_sub hl [2, 3, 4, 1] rfl) h
                    · replace h := ite_f hc h
                      refine lv_bipush (v := 6) hx hb dX6_bring_88 (by decide) ?_
                      refine lv_goto (tgt := 95) hx hb dX6_bring_90 (by decide) ?_
                      exact b95 k2 hk2 σ H locs ls G6 G9 G10 G13 v1 v2 t_15 t_15 6 ha_15 hk_15 ha_15 hk_15 hI e6 e9 e10 e13 fr (lv_sub hl [2, 3, 4, 1] rfl) h
                · replace h := ite_f hc h
                  refine lv_goto (tgt := 123) hx hb dX6_bring_74 (by decide) ?_
                  obtain ⟨v2_123, qq, h⟩ := bn_e h
                  refine lv_iinc (v := v2_123) (lv' := [(2, .int v2_123), (4, .int v4_32), (3, .ref (HB.size + t_15)), (0, .ref (HB.size + 44)), (1, .int v1)]) hx hb dX6_bring_123 hl (k := 4) rfl (by rw [qq]; rfl) (by decide) rfl (fun ls hl => ?_)
                  refine lv_goto (tgt := 2) hx hb dX6_bring_126 (by decide) ?_
                  exact hk2 σ H locs ls G6 G9 G10 G13 v1 v2_123  hI e6 e9 e10 e13 fr (lv_sub hl [3, 4, 0] rfl) h
  obtain ⟨σ, hI, e6, e9, e10, e13, fr⟩ : ∃ σ : St, IV HB D y n n κ σ [] s.heap ∧ σ 6 = G6 ∧ σ 9 = G9 ∧ σ 10 = G10 ∧ σ 13 = G13 ∧ ∀ j, j ∉ W_X6_bring → σ j = σ0 j := ⟨σ0, hI, e6, e9, e10, e13, fun _ _ => rfl⟩
  show WX RM_X6_bring p l e s m args below meth c HB none (B_X6_bring HB D y n κ σ0 q) s.heap [] (F0 m 0 ls [])
  generalize s.heap = H at hI ⊢
  unfold f_X6_bring at h
  obtain ⟨locs, hlocs⟩ : ∃ x : List Loc, x = [] := ⟨_, rfl⟩
  rw [← hlocs] at hI ⊢
  refine lv_iconst (v := 0) hx hb dX6_bring_0 (by decide) ?_
  refine lv_istore_n (lv' := [(2, .int 0), (0, .ref (HB.size + 44)), (1, .int v1)]) hx hb dX6_bring_1 rfl hl (by decide) rfl (fun ls hl => ?_)
  exact b2  F σ H locs ls G6 G9 G10 G13 v1 0  hI e6 e9 e10 e13 fr (lv_sub hl [1, 2, 0] rfl) h
noncomputable def f_X6_send_l47b (F : Nat)  (k47 : Grp → Grp → Grp → Grp → Int32 → Int32 → Option (Grp × Grp)) (G2 : Grp) (G10 : Grp) (G11 : Grp) (G13 : Grp) (v1 : Int32) (v3 : Int32) : Option (Grp × Grp) :=
  if (G10.1 44 1) ≤ v3 then ck (G11.1 44 2) 200 (bn (gI G11 46 (G11.1 44 2).toNatClampNeg v1) (fun G11_106 => ck 0 8 (ck (G11_106.1 44 2) 200 (bn (gI G11_106 47 (G11_106.1 44 2).toNatClampNeg (G2.1 2 (0 : Int32).toNatClampNeg)) (fun G11_121 => ck (G11_121.1 44 2) 200 (bn (gI G11_121 48 (G11_121.1 44 2).toNatClampNeg (vp_nar .boolean 1)) (fun G11_131 => bn (gI G11_131 44 2 ((G11_131.1 44 2) + 1)) (fun G11_139 => some (G11_139, G13))))))))) else ck v3 200 (om (G10.2.2 45 v3.toNatClampNeg) (none) (fun t_60 => if (G13.1 t_60 8) = 0 then ck v3 200 (om (G10.2.2 45 v3.toNatClampNeg) (none) (fun t_72 => ob (f_X4_move F G13 t_72 1 v1) (fun q_75 => ck v3 200 (om (G10.2.2 45 v3.toNatClampNeg) (none) (fun t_83 => bn (gI q_75 t_83 10 (G11.1 44 2)) (fun G13_88 => bn (v3 + 1) (fun v3_91 => k47 G2 G10 G11 G13_88 v1 v3_91))))))) else bn (v3 + 1) (fun v3_91 => k47 G2 G10 G11 G13 v1 v3_91)))
noncomputable def f_X6_send_l47 (F : Nat)  (fu : Nat) : Grp → Grp → Grp → Grp → Int32 → Int32 → Option (Grp × Grp) := Nat.rec (motive := fun _ => Grp → Grp → Grp → Grp → Int32 → Int32 → Option (Grp × Grp)) (fun _ _ _ _ _ _ => none) (fun _ ih => f_X6_send_l47b F  ih) fu
noncomputable def f_X6_send_b21 (F : Nat)  (G2 : Grp) (G10 : Grp) (G11 : Grp) (G13 : Grp) (v1 : Int32) (s0 : Int32) : Option (Grp × Grp) :=
  if s0 = 0 then some (G11, G13) else ob (f_X6_inState F G10 G13 0) (fun q_28 => if q_28 = 0 then some (G11, G13) else if (G11.1 44 2) < 200 then f_X6_send_l47 F  F G2 G10 G11 G13 v1 0 else some (G11, G13))
noncomputable def f_X6_send (F : Nat) (G2 : Grp) (G10 : Grp) (G11 : Grp) (G13 : Grp) (v1 : Int32) : Option (Grp × Grp) :=
  ck 1 8 (if (((G2.1 2 (1 : Int32).toNatClampNeg) >>> ((v1 - v1 / 7 * 7) &&& 31)) &&& 1) = 0 then f_X6_send_b21 F  G2 G10 G11 G13 v1 0 else f_X6_send_b21 F  G2 G10 G11 G13 v1 1)
def RM_X6_send : Room := { frames := 1, cells := 0, slots := 0, locals := 23 }
abbrev W_X6_send : List Nat := [11, 13]
abbrev B_X6_send (HB : Heap) (D : va_G) (y : Nat → ClassId) (n : Nat) (κ : Nat → Nat) (σ0 : St) (q : Grp × Grp) : Heap → Prop := fun H => ∃ σ : St, IV HB D y n n κ σ [] H ∧ σ 11 = q.1 ∧ σ 13 = q.2 ∧ ∀ j, j ∉ W_X6_send → σ j = σ0 j
set_option maxRecDepth 100000 in
set_option maxHeartbeats 4000000 in
theorem c_X6_send (l : Launch) (HB : Heap) (D : va_G) (y : Nat → ClassId) (F n : Nat) (κ : Nat → Nat) (σ0 : St) (hN : N0 ≤ n) (v1 : Int32)  (G2 : Grp) (e2 : σ0 2 = G2) (G10 : Grp) (e10 : σ0 10 = G10) (G11 : Grp) (e11 : σ0 11 = G11) (G13 : Grp) (e13 : σ0 13 = G13) (q : Grp × Grp) (h : f_X6_send F G2 G10 G11 G13 v1 = some q) : MT l HB D y yX6_send cX6_send 4 none RM_X6_send [.ref (HB.size + 44), .int v1] (IV HB D y n n κ σ0 []) none (B_X6_send HB D y n κ σ0 q) := by
  refine Met.ofW (cc := cX6_send) (maxL := 4) (ret := none) (by decide) rfl ?_
  intro p e s m args below meth c s₁ BL hml hv
  obtain ⟨rfl, hI, hKK⟩ := hv
  have hx := BL.exec
  have hb := BL.bytes
  have hr := BL.returns
  have hts : ∀ w ∈ gtb, w.before _ s = true := fun w hw => atoms_spec BL.pre w (List.mem_cons_of_mem _ hw)
  have hml : c.maxLocals = 4 := hml
  have hown : s.vm.findClass RX6 = some m.cls := findClass_of_methodNamed BL.named
  have hlocks := BL.notSynchronized
  have hk0 := hI.1.2.2.2.2
  have hl := lv_entry ([.ref (HB.size + 44), .int v1]) (n := 4) (Nat.le_of_ble_eq_true rfl)
  rw [lg_entry_eq]
  generalize (lg_sl ([.ref (HB.size + 44), .int v1]) ++ List.replicate (4 - (lg_sl ([.ref (HB.size + 44), .int v1])).length) Slot.unset).toArray = ls at hl ⊢
  have hl : lv_has ls 4 [(0, .ref (HB.size + 44)), (1, .int v1)] := hl
  generalize hargs : ([.ref (HB.size + 44), .int v1] : List Value).toArray = args at *
  have b47 : ∀ (fu : Nat) (σ : St) (H : Heap) (locs : List Loc) (ls : Array Slot) (G2 : Grp) (G10 : Grp) (G11 : Grp) (G13 : Grp) (v1 : Int32) (v3 : Int32) , IV HB D y n n κ σ locs H → σ 2 = G2 → σ 10 = G10 → σ 11 = G11 → σ 13 = G13 → (∀ j, j ∉ W_X6_send → σ j = σ0 j) → lv_has ls 4 [(0, .ref (HB.size + 44)), (1, .int v1), (3, .int v3)] → f_X6_send_l47 F  fu G2 G10 G11 G13 v1 v3 = some q → WX RM_X6_send p l e s m args below meth c HB none (B_X6_send HB D y n κ σ0 q) H locs (F0 m 47 ls []) := by
    intro  fu
    induction fu with
    | zero =>
      intro σ H locs ls G2 G10 G11 G13 v1 v3 hI e2 e10 e11 e13 fr hl h
      exact absurd h (by intro h; cases h)
    | succ fu hk47 =>
      intro σ H locs ls G2 G10 G11 G13 v1 v3 hI e2 e10 e11 e13 fr hl h
      have h : f_X6_send_l47b F  (f_X6_send_l47 F  fu) G2 G10 G11 G13 v1 v3 = some q := h
      generalize f_X6_send_l47 F  fu = k47 at h hk47
      unfold f_X6_send_l47b at h
      refine lv_iload_n hx hb dX6_send_47 rfl (lv_at hl 2 rfl) ?_
      refine lv_aload_n hx hb dX6_send_48 rfl (lv_at hl 0 rfl) ?_
      refine gt_X6_48 hx hb hts hown hKK hI e10 (lc44 hN) (kc44 hk0) dX6_send_49 ?_
      refine lv_icmp_ge (tgt := 97) hx hb dX6_send_52 (by decide) (fun hc => ?_) (fun hc => ?_)
      · replace h := ite_t hc h
        refine lv_aload_n hx hb dX6_send_97 rfl (lv_at hl 0 rfl) ?_
        refine gf_X6_17 hx hb hts hown hKK hI hN dX6_send_98 ?_
        refine lv_aload_n hx hb dX6_send_101 rfl (lv_at hl 0 rfl) ?_
        refine gt_X6_73 hx hb hts hown hKK hI e11 (lc44 hN) (kc44 hk0) dX6_send_102 ?_
        refine lv_iload_n hx hb dX6_send_105 rfl (lv_at hl 1 rfl) ?_
        obtain ⟨hin_, h⟩ := ck_e h
        obtain ⟨G11_106, qq, h⟩ := bn_e h
        refine sa_25 hx hb hKK hI e11 (lc46 hN) (kc46 hk0) hin_ dX6_send_106 (fun σ H locs hI ew ho => ?_)
        have e11 := ew.trans qq.symm
        have e2 := (ho 2 (nn rfl)).trans e2
        have e10 := (ho 10 (nn rfl)).trans e10
        have e13 := (ho 13 (nn rfl)).trans e13
        have fr := frs fr ho (by decide)
        refine lv_aload_n hx hb dX6_send_107 rfl (lv_at hl 0 rfl) ?_
        refine gf_X6_21 hx hb hts hown hKK hI hN dX6_send_108 ?_
        refine lv_aload_n hx hb dX6_send_111 rfl (lv_at hl 0 rfl) ?_
        refine gt_X6_73 hx hb hts hown hKK hI e11 (lc44 hN) (kc44 hk0) dX6_send_112 ?_
        refine lv_aload_n hx hb dX6_send_115 rfl (lv_at hl 0 rfl) ?_
        refine gf_X6_45 hx hb hts hown hKK hI hN dX6_send_116 ?_
        refine lv_iconst (v := 0) hx hb dX6_send_119 (by decide) ?_
        obtain ⟨hin_, h⟩ := ck_e h
        refine la_14 hx hb hKK hI e2 (lc2 hN) (kc2 hk0) hin_ dX6_send_120 ?_
        obtain ⟨hin_, h⟩ := ck_e h
        obtain ⟨G11_121, qq, h⟩ := bn_e h
        refine sa_25 hx hb hKK hI e11 (lc47 hN) (kc47 hk0) hin_ dX6_send_121 (fun σ H locs hI ew ho => ?_)
        have e11 := ew.trans qq.symm
        have e2 := (ho 2 (nn rfl)).trans e2
        have e10 := (ho 10 (nn rfl)).trans e10
        have e13 := (ho 13 (nn rfl)).trans e13
        have fr := frs fr ho (by decide)
        refine lv_aload_n hx hb dX6_send_122 rfl (lv_at hl 0 rfl) ?_
        refine gf_X6_24 hx hb hts hown hKK hI hN dX6_send_123 ?_
        refine lv_aload_n hx hb dX6_send_126 rfl (lv_at hl 0 rfl) ?_
        refine gt_X6_73 hx hb hts hown hKK hI e11 (lc44 hN) (kc44 hk0) dX6_send_127 ?_
        refine lv_iconst (v := 1) hx hb dX6_send_130 (by decide) ?_
        obtain ⟨hin_, h⟩ := ck_e h
        obtain ⟨G11_131, qq, h⟩ := bn_e h
        refine sa_26 hx hb hKK hI e11 (lc48 hN) (kc48 hk0) hin_ dX6_send_131 (fun σ H locs hI ew ho => ?_)
        have e11 := ew.trans qq.symm
        have e2 := (ho 2 (nn rfl)).trans e2
        have e10 := (ho 10 (nn rfl)).trans e10
        have e13 := (ho 13 (nn rfl)).trans e13
        have fr := frs fr ho (by decide)
        refine lv_aload_n hx hb dX6_send_132 rfl (lv_at hl 0 rfl) ?_
        refine lv_dup hx hb dX6_send_133 rfl ?_
        refine gt_X6_73 hx hb hts hown hKK hI e11 (lc44 hN) (kc44 hk0) dX6_send_134 ?_
        refine lv_iconst (v := 1) hx hb dX6_send_137 (by decide) ?_
        refine lv_iadd hx hb dX6_send_138 ?_
        obtain ⟨G11_139, qq, h⟩ := bn_e h
        refine pt_X6_73 hx hb hts hown hKK hI e11 (lc44 hN) (kc44 hk0) dX6_send_139 (fun σ H locs hI ew ho => ?_)
        have e11 := ew.trans qq.symm
        have e2 := (ho 2 (nn rfl)).trans e2
        have e10 := (ho 10 (nn rfl)).trans e10
        have e13 := (ho 13 (nn rfl)).trans e13
        have fr := frs fr ho (by decide)
        have hq := Option.some.inj h
        exact W.vret hx hb hr (fun t ht hW => qc_mk (rfl) (by rw [ht]; exact ⟨σ, hI.nil, e11.trans (congrArg (fun z => z.1) hq), e13.trans (congrArg (fun z => z.2) hq), fr⟩)) hI.2.2 dX6_send_142 hlocks
      · replace h := ite_f hc h
        refine lv_aload_n hx hb dX6_send_55 rfl (lv_at hl 0 rfl) ?_
        refine gf_X6_11 hx hb hts hown hKK hI hN dX6_send_56 ?_
        refine lv_iload_n hx hb dX6_send_59 rfl (lv_at hl 2 rfl) ?_
        obtain ⟨hin_, h⟩ := ck_e h
        refine la_24 hx hb hKK hI e10 (lc45 hN) (kc45 hk0) hin_ dX6_send_60 ?_
        rcases om_e h with ⟨eo, h⟩ | ⟨t_60, eo, h⟩
        · cases h
        · refine topr eo ?_
          obtain ⟨ha_60, hk_60⟩ := tarF hI (lc45 hN) (kc45 hk0) 0 rfl e10 eo
          refine gt_X6_64 hx hb hts hown hKK hI e13 ha_60 hk_60 dX6_send_61 ?_
          refine lv_if_ne (tgt := 91) hx hb dX6_send_64 (by decide) (fun hc => ?_) (fun hc => ?_)
          · replace h := ite_f hc h
            obtain ⟨v3_91, qq, h⟩ := bn_e h
            refine lv_iinc (v := v3_91) (lv' := [(3, .int v3_91), (0, .ref (HB.size + 44)), (1, .int v1)]) hx hb dX6_send_91 hl (k := 2) rfl (by rw [qq]; rfl) (by decide) rfl (fun ls hl => ?_)
            refine lv_goto (tgt := 47) hx hb dX6_send_94 (by decide) ?_
            exact hk47 σ H locs ls G2 G10 G11 G13 v1 v3_91  hI e2 e10 e11 e13 fr (lv_sub hl [1, 2, 0] rfl) h
          · replace h := ite_t hc h
            refine lv_aload_n hx hb dX6_send_67 rfl (lv_at hl 0 rfl) ?_
            refine gf_X6_11 hx hb hts hown hKK hI hN dX6_send_68 ?_
            refine lv_iload_n hx hb dX6_send_71 rfl (lv_at hl 2 rfl) ?_
            obtain ⟨hin_, h⟩ := ck_e h
            refine la_24 hx hb hKK hI e10 (lc45 hN) (kc45 hk0) hin_ dX6_send_72 ?_
            rcases om_e h with ⟨eo, h⟩ | ⟨t_72, eo, h⟩
            · refine topn eo ?_
              refine lv_iconst (v := 1) hx hb dX6_send_73 (by decide) ?_
              refine lv_iload_n hx hb dX6_send_74 rfl (lv_at hl 1 rfl) ?_
              cases h
            · refine topr eo ?_
              obtain ⟨ha_72, hk_72⟩ := tarF hI (lc45 hN) (kc45 hk0) 0 rfl e10 eo
              refine lv_iconst (v := 1) hx hb dX6_send_73 (by decide) ?_
              refine lv_iload_n hx hb dX6_send_74 rfl (lv_at hl 1 rfl) ?_
              obtain ⟨q_75, hq_75, h⟩ := ob_e h
              refine r_callV (As := [.int 1, .int v1]) (rest := []) hx hb hml hts hown (c_X4_move l HB D y F n κ σ hN t_72 ha_72 hk_72 1 v1 G13 e13 q_75 hq_75) cal_X4_move im_X4_move se_X4_move lm_X6_83 ⟨Nat.le_of_ble_eq_true rfl, Nat.le_of_ble_eq_true rfl⟩ hI.nil hKK (r_recv hKK hI (hE4 HB.size y) rfl ha_72 hk_72) rfl hl.1 hI.2.2 rfl (Nat.le_of_ble_eq_true rfl) dX6_send_75 ⟨Nat.le_of_ble_eq_true rfl, Nat.le_of_ble_eq_true rfl⟩ rfl rfl rfl (fun H locs hB hlo => ?_)
              obtain ⟨σ, hB, en13, ho⟩ := hB
              have hI := hB.re hlo
              have e13 := en13
              have e2 := (ho 2 (ni rfl)).trans e2
              have e10 := (ho 10 (ni rfl)).trans e10
              have e11 := (ho 11 (ni rfl)).trans e11
              have fr := frc fr ho (by decide)
              refine lv_aload_n hx hb dX6_send_78 rfl (lv_at hl 0 rfl) ?_
              refine gf_X6_11 hx hb hts hown hKK hI hN dX6_send_79 ?_
              refine lv_iload_n hx hb dX6_send_82 rfl (lv_at hl 2 rfl) ?_
              obtain ⟨hin_, h⟩ := ck_e h
              refine la_24 hx hb hKK hI e10 (lc45 hN) (kc45 hk0) hin_ dX6_send_83 ?_
              rcases om_e h with ⟨eo, h⟩ | ⟨t_83, eo, h⟩
              · refine topn eo ?_
                refine lv_aload_n hx hb dX6_send_84 rfl (lv_at hl 0 rfl) ?_
                refine gt_X6_73 hx hb hts hown hKK hI e11 (lc44 hN) (kc44 hk0) dX6_send_85 ?_
                cases h
              · refine topr eo ?_
                obtain ⟨ha_83, hk_83⟩ := tarF hI (lc45 hN) (kc45 hk0) 0 rfl e10 eo
                refine lv_aload_n hx hb dX6_send_84 rfl (lv_at hl 0 rfl) ?_
                refine gt_X6_73 hx hb hts hown hKK hI e11 (lc44 hN) (kc44 hk0) dX6_send_85 ?_
                obtain ⟨G13_88, qq, h⟩ := bn_e h
                refine pt_X6_80 hx hb hts hown hKK hI e13 ha_83 hk_83 dX6_send_88 (fun σ H locs hI ew ho => ?_)
                have e13 := ew.trans qq.symm
                have e2 := (ho 2 (nn rfl)).trans e2
                have e10 := (ho 10 (nn rfl)).trans e10
                have e11 := (ho 11 (nn rfl)).trans e11
                have fr := frs fr ho (by decide)
                obtain ⟨v3_91, qq, h⟩ := bn_e h
                refine lv_iinc (v := v3_91) (lv' := [(3, .int v3_91), (0, .ref (HB.size + 44)), (1, .int v1)]) hx hb dX6_send_91 hl (k := 2) rfl (by rw [qq]; rfl) (by decide) rfl (fun ls hl => ?_)
                refine lv_goto (tgt := 47) hx hb dX6_send_94 (by decide) ?_
                exact hk47 σ H locs ls G2 G10 G11 G13_88 v1 v3_91  hI e2 e10 e11 e13 fr (lv_sub hl [1, 2, 0] rfl) h
  have b21 : ∀ (σ : St) (H : Heap) (locs : List Loc) (ls : Array Slot) (G2 : Grp) (G10 : Grp) (G11 : Grp) (G13 : Grp) (v1 : Int32) (s0 : Int32) , IV HB D y n n κ σ locs H → σ 2 = G2 → σ 10 = G10 → σ 11 = G11 → σ 13 = G13 → (∀ j, j ∉ W_X6_send → σ j = σ0 j) → lv_has ls 4 [(0, .ref (HB.size + 44)), (1, .int v1)] → f_X6_send_b21 F  G2 G10 G11 G13 v1 s0 = some q → WX RM_X6_send p l e s m args below meth c HB none (B_X6_send HB D y n κ σ0 q) H locs (F0 m 21 ls [.int s0]) := by
    intro  σ H locs ls G2 G10 G11 G13 v1 s0 hI e2 e10 e11 e13 fr hl h
    unfold f_X6_send_b21 at h
    refine lv_istore_n (lv' := [(2, .int s0), (0, .ref (HB.size + 44)), (1, .int v1)]) hx hb dX6_send_21 rfl hl (by decide) rfl (fun ls hl => ?_)
    refine lv_iload_n hx hb dX6_send_22 rfl (lv_at hl 0 rfl) ?_
    refine lv_if_eq (tgt := 44) hx hb dX6_send_23 (by decide) (fun hc => ?_) (fun hc => ?_)
    · replace h := ite_t hc h
      have hq := Option.some.inj h
      exact W.vret hx hb hr (fun t ht hW => qc_mk (rfl) (by rw [ht]; exact ⟨σ, hI.nil, e11.trans (congrArg (fun z => z.1) hq), e13.trans (congrArg (fun z => z.2) hq), fr⟩)) hI.2.2 dX6_send_44 hlocks
    · replace h := ite_f hc h
      refine lv_aload_n hx hb dX6_send_26 rfl (lv_at hl 1 rfl) ?_
      refine lv_iconst (v := 0) hx hb dX6_send_27 (by decide) ?_
      obtain ⟨q_28, hq_28, h⟩ := ob_e h
      refine r_callV (As := [.int 0]) (rest := []) hx hb hml hts hown (c_X6_inState l HB D y F n κ σ hN 0 G10 e10 G13 e13 q_28 hq_28) cal_X6_inState im_X6_inState se_X6_inState lm_X6_190 ⟨Nat.le_of_ble_eq_true rfl, Nat.le_of_ble_eq_true rfl⟩ hI.nil hKK (r_recv hKK hI (hE6 HB.size y) rfl (lc44 hN) (kc44 hk0)) rfl hl.1 hI.2.2 rfl (Nat.le_of_ble_eq_true rfl) dX6_send_28 ⟨Nat.le_of_ble_eq_true rfl, Nat.le_of_ble_eq_true rfl⟩ rfl rfl rfl (fun H locs hB hlo => ?_)
      have hI := hB.re hlo
      refine lv_if_eq (tgt := 44) hx hb dX6_send_31 (by decide) (fun hc => ?_) (fun hc => ?_)
      · replace h := ite_t hc h
        have hq := Option.some.inj h
        exact W.vret hx hb hr (fun t ht hW => qc_mk (rfl) (by rw [ht]; exact ⟨σ, hI.nil, e11.trans (congrArg (fun z => z.1) hq), e13.trans (congrArg (fun z => z.2) hq), fr⟩)) hI.2.2 dX6_send_44 hlocks
      · replace h := ite_f hc h
        refine lv_aload_n hx hb dX6_send_34 rfl (lv_at hl 1 rfl) ?_
        refine gt_X6_73 hx hb hts hown hKK hI e11 (lc44 hN) (kc44 hk0) dX6_send_35 ?_
        refine lv_sipush (v := 200) hx hb dX6_send_38 (by decide) ?_
        refine lv_icmp_lt (tgt := 45) hx hb dX6_send_41 (by decide) (fun hc => ?_) (fun hc => ?_)
        · replace h := ite_t hc h
          refine lv_iconst (v := 0) hx hb dX6_send_45 (by decide) ?_
          refine lv_istore_n (lv' := [(3, .int 0), (2, .int s0), (0, .ref (HB.size + 44)), (1, .int v1)]) hx hb dX6_send_46 rfl hl (by decide) rfl (fun ls hl => ?_)
          exact b47  F σ H locs ls G2 G10 G11 G13 v1 0  hI e2 e10 e11 e13 fr (lv_sub hl [2, 3, 0] rfl) h
        · replace h := ite_f hc h
          have hq := Option.some.inj h
          exact W.vret hx hb hr (fun t ht hW => qc_mk (rfl) (by rw [ht]; exact ⟨σ, hI.nil, e11.trans (congrArg (fun z => z.1) hq), e13.trans (congrArg (fun z => z.2) hq), fr⟩)) hI.2.2 dX6_send_44 hlocks
  obtain ⟨σ, hI, e2, e10, e11, e13, fr⟩ : ∃ σ : St, IV HB D y n n κ σ [] s.heap ∧ σ 2 = G2 ∧ σ 10 = G10 ∧ σ 11 = G11 ∧ σ 13 = G13 ∧ ∀ j, j ∉ W_X6_send → σ j = σ0 j := ⟨σ0, hI, e2, e10, e11, e13, fun _ _ => rfl⟩
  show WX RM_X6_send p l e s m args below meth c HB none (B_X6_send HB D y n κ σ0 q) s.heap [] (F0 m 0 ls [])
  generalize s.heap = H at hI ⊢
  unfold f_X6_send at h
  obtain ⟨locs, hlocs⟩ : ∃ x : List Loc, x = [] := ⟨_, rfl⟩
  rw [← hlocs] at hI ⊢
  refine lv_aload_n hx hb dX6_send_0 rfl (lv_at hl 0 rfl) ?_
  refine gf_X6_45 hx hb hts hown hKK hI hN dX6_send_1 ?_
  refine lv_iconst (v := 1) hx hb dX6_send_4 (by decide) ?_
  obtain ⟨hin_, h⟩ := ck_e h
  refine la_14 hx hb hKK hI e2 (lc2 hN) (kc2 hk0) hin_ dX6_send_5 ?_
  refine lv_iload_n hx hb dX6_send_6 rfl (lv_at hl 1 rfl) ?_
  refine lv_bipush (v := 7) hx hb dX6_send_7 (by decide) ?_
  refine lv_irem hx hb dX6_send_9 (by decide) ?_
  refine lv_ishr hx hb dX6_send_10 ?_
  refine lv_iconst (v := 1) hx hb dX6_send_11 (by decide) ?_
  refine lv_iand hx hb dX6_send_12 ?_
  refine lv_if_eq (tgt := 20) hx hb dX6_send_13 (by decide) (fun hc => ?_) (fun hc => ?_)
  · replace h := ite_t hc h
    refine lv_iconst (v := 0) hx hb dX6_send_20 (by decide) ?_
    exact b21  σ H locs ls G2 G10 G11 G13 v1 0  hI e2 e10 e11 e13 fr (lv_sub hl [0, 1] rfl) h
  · replace h := ite_f hc h
    refine lv_iconst (v := 1) hx hb dX6_send_16 (by decide) ?_
    refine lv_goto (tgt := 21) hx hb dX6_send_17 (by decide) ?_
    exact b21  σ H locs ls G2 G10 G11 G13 v1 1  hI e2 e10 e11 e13 fr (lv_sub hl [0, 1] rfl) h
noncomputable def f_X6_addLags_l2b (F : Nat)  (k2 : Grp → Grp → Grp → Int32 → Option (Grp)) (G10 : Grp) (G13 : Grp) (G15 : Grp) (v1 : Int32) : Option (Grp) :=
  if (G10.1 44 1) ≤ v1 then some G15 else ck v1 200 (om (G10.2.2 45 v1.toNatClampNeg) (none) (fun t_15 => if 6 ≤ (G13.1 t_15 8) then bn (v1 + 1) (fun v1_47 => k2 G10 G13 G15 v1_47) else ck v1 200 (om (G10.2.2 45 v1.toNatClampNeg) (none) (fun t_29 => ck v1 200 (om (G10.2.2 45 v1.toNatClampNeg) (none) (fun t_38 => ck (G13.1 t_38 8) 6 (ck (G13.1 t_38 8) 6 (bn (gI G15 (t_29 + 2) (G13.1 t_38 8).toNatClampNeg ((G15.1 (t_29 + 2) (G13.1 t_38 8).toNatClampNeg) + 1)) (fun G15_46 => bn (v1 + 1) (fun v1_47 => k2 G10 G13 G15_46 v1_47))))))))))
noncomputable def f_X6_addLags_l2 (F : Nat)  (fu : Nat) : Grp → Grp → Grp → Int32 → Option (Grp) := Nat.rec (motive := fun _ => Grp → Grp → Grp → Int32 → Option (Grp)) (fun _ _ _ _ => none) (fun _ ih => f_X6_addLags_l2b F  ih) fu
noncomputable def f_X6_addLags (F : Nat) (G10 : Grp) (G13 : Grp) (G15 : Grp)  : Option (Grp) :=
  f_X6_addLags_l2 F  F G10 G13 G15 0
def RM_X6_addLags : Room := { frames := 0, cells := 0, slots := 0, locals := 0 }
abbrev W_X6_addLags : List Nat := [15]
abbrev B_X6_addLags (HB : Heap) (D : va_G) (y : Nat → ClassId) (n : Nat) (κ : Nat → Nat) (σ0 : St) (q : Grp) : Heap → Prop := fun H => ∃ σ : St, IV HB D y n n κ σ [] H ∧ σ 15 = q ∧ ∀ j, j ∉ W_X6_addLags → σ j = σ0 j
set_option maxRecDepth 100000 in
set_option maxHeartbeats 4000000 in
theorem c_X6_addLags (l : Launch) (HB : Heap) (D : va_G) (y : Nat → ClassId) (F n : Nat) (κ : Nat → Nat) (σ0 : St) (hN : N0 ≤ n)  (G10 : Grp) (e10 : σ0 10 = G10) (G13 : Grp) (e13 : σ0 13 = G13) (G15 : Grp) (e15 : σ0 15 = G15) (q : Grp) (h : f_X6_addLags F G10 G13 G15 = some q) : MT l HB D y yX6_addLags cX6_addLags 2 none RM_X6_addLags [.ref (HB.size + 44)] (IV HB D y n n κ σ0 []) none (B_X6_addLags HB D y n κ σ0 q) := by
  refine Met.ofW (cc := cX6_addLags) (maxL := 2) (ret := none) (by decide) rfl ?_
  intro p e s m args below meth c s₁ BL hml hv
  obtain ⟨rfl, hI, hKK⟩ := hv
  have hx := BL.exec
  have hb := BL.bytes
  have hr := BL.returns
  have hts : ∀ w ∈ gtb, w.before _ s = true := fun w hw => atoms_spec BL.pre w (List.mem_cons_of_mem _ hw)
  have hml : c.maxLocals = 2 := hml
  have hown : s.vm.findClass RX6 = some m.cls := findClass_of_methodNamed BL.named
  have hlocks := BL.notSynchronized
  have hk0 := hI.1.2.2.2.2
  have hl := lv_entry ([.ref (HB.size + 44)]) (n := 2) (Nat.le_of_ble_eq_true rfl)
  rw [lg_entry_eq]
  generalize (lg_sl ([.ref (HB.size + 44)]) ++ List.replicate (2 - (lg_sl ([.ref (HB.size + 44)])).length) Slot.unset).toArray = ls at hl ⊢
  have hl : lv_has ls 2 [(0, .ref (HB.size + 44))] := hl
  generalize hargs : ([.ref (HB.size + 44)] : List Value).toArray = args at *
  have b2 : ∀ (fu : Nat) (σ : St) (H : Heap) (locs : List Loc) (ls : Array Slot) (G10 : Grp) (G13 : Grp) (G15 : Grp) (v1 : Int32) , IV HB D y n n κ σ locs H → σ 10 = G10 → σ 13 = G13 → σ 15 = G15 → (∀ j, j ∉ W_X6_addLags → σ j = σ0 j) → lv_has ls 2 [(0, .ref (HB.size + 44)), (1, .int v1)] → f_X6_addLags_l2 F  fu G10 G13 G15 v1 = some q → WX RM_X6_addLags p l e s m args below meth c HB none (B_X6_addLags HB D y n κ σ0 q) H locs (F0 m 2 ls []) := by
    intro  fu
    induction fu with
    | zero =>
      intro σ H locs ls G10 G13 G15 v1 hI e10 e13 e15 fr hl h
      exact absurd h (by intro h; cases h)
    | succ fu hk2 =>
      intro σ H locs ls G10 G13 G15 v1 hI e10 e13 e15 fr hl h
      have h : f_X6_addLags_l2b F  (f_X6_addLags_l2 F  fu) G10 G13 G15 v1 = some q := h
      generalize f_X6_addLags_l2 F  fu = k2 at h hk2
      unfold f_X6_addLags_l2b at h
      refine lv_iload_n hx hb dX6_addLags_2 rfl (lv_at hl 1 rfl) ?_
      refine lv_aload_n hx hb dX6_addLags_3 rfl (lv_at hl 0 rfl) ?_
      refine gt_X6_48 hx hb hts hown hKK hI e10 (lc44 hN) (kc44 hk0) dX6_addLags_4 ?_
      refine lv_icmp_ge (tgt := 53) hx hb dX6_addLags_7 (by decide) (fun hc => ?_) (fun hc => ?_)
      · replace h := ite_t hc h
        have hq := Option.some.inj h
        exact W.vret hx hb hr (fun t ht hW => qc_mk (rfl) (by rw [ht]; exact ⟨σ, hI.nil, e15.trans (congrArg (fun z => z) hq), fr⟩)) hI.2.2 dX6_addLags_53 hlocks
      · replace h := ite_f hc h
        refine lv_aload_n hx hb dX6_addLags_10 rfl (lv_at hl 0 rfl) ?_
        refine gf_X6_11 hx hb hts hown hKK hI hN dX6_addLags_11 ?_
        refine lv_iload_n hx hb dX6_addLags_14 rfl (lv_at hl 1 rfl) ?_
        obtain ⟨hin_, h⟩ := ck_e h
        refine la_24 hx hb hKK hI e10 (lc45 hN) (kc45 hk0) hin_ dX6_addLags_15 ?_
        rcases om_e h with ⟨eo, h⟩ | ⟨t_15, eo, h⟩
        · cases h
        · refine topr eo ?_
          obtain ⟨ha_15, hk_15⟩ := tarF hI (lc45 hN) (kc45 hk0) 0 rfl e10 eo
          refine gt_X6_64 hx hb hts hown hKK hI e13 ha_15 hk_15 dX6_addLags_16 ?_
          refine lv_bipush (v := 6) hx hb dX6_addLags_19 (by decide) ?_
          refine lv_icmp_ge (tgt := 47) hx hb dX6_addLags_21 (by decide) (fun hc => ?_) (fun hc => ?_)
          · replace h := ite_t hc h
            obtain ⟨v1_47, qq, h⟩ := bn_e h
            refine lv_iinc (v := v1_47) (lv' := [(1, .int v1_47), (0, .ref (HB.size + 44))]) hx hb dX6_addLags_47 hl (k := 1) rfl (by rw [qq]; rfl) (by decide) rfl (fun ls hl => ?_)
            refine lv_goto (tgt := 2) hx hb dX6_addLags_50 (by decide) ?_
            exact hk2 σ H locs ls G10 G13 G15 v1_47  hI e10 e13 e15 fr (lv_sub hl [1, 0] rfl) h
          · replace h := ite_f hc h
            refine lv_aload_n hx hb dX6_addLags_24 rfl (lv_at hl 0 rfl) ?_
            refine gf_X6_11 hx hb hts hown hKK hI hN dX6_addLags_25 ?_
            refine lv_iload_n hx hb dX6_addLags_28 rfl (lv_at hl 1 rfl) ?_
            obtain ⟨hin_, h⟩ := ck_e h
            refine la_24 hx hb hKK hI e10 (lc45 hN) (kc45 hk0) hin_ dX6_addLags_29 ?_
            rcases om_e h with ⟨eo, h⟩ | ⟨t_29, eo, h⟩
            · cases h
            · refine topr eo ?_
              obtain ⟨ha_29, hk_29⟩ := tarF hI (lc45 hN) (kc45 hk0) 0 rfl e10 eo
              refine gf_X6_67 hx hb hts hown hKK hI ha_29 hk_29 dX6_addLags_30 ?_
              refine lv_aload_n hx hb dX6_addLags_33 rfl (lv_at hl 0 rfl) ?_
              refine gf_X6_11 hx hb hts hown hKK hI hN dX6_addLags_34 ?_
              refine lv_iload_n hx hb dX6_addLags_37 rfl (lv_at hl 1 rfl) ?_
              obtain ⟨hin_, h⟩ := ck_e h
              refine la_24 hx hb hKK hI e10 (lc45 hN) (kc45 hk0) hin_ dX6_addLags_38 ?_
              rcases om_e h with ⟨eo, h⟩ | ⟨t_38, eo, h⟩
              · cases h
              · refine topr eo ?_
                obtain ⟨ha_38, hk_38⟩ := tarF hI (lc45 hN) (kc45 hk0) 0 rfl e10 eo
                refine gt_X6_64 hx hb hts hown hKK hI e13 ha_38 hk_38 dX6_addLags_39 ?_
                refine lv_dup2_11 hx hb dX6_addLags_42 rfl rfl ?_
                obtain ⟨hin_, h⟩ := ck_e h
                refine la_78 hx hb hKK hI e15 (ownF hI ha_29 hk_29 2 rfl).2.1 (ownF hI ha_29 hk_29 2 rfl).2.2 hin_ dX6_addLags_43 ?_
                refine lv_iconst (v := 1) hx hb dX6_addLags_44 (by decide) ?_
                refine lv_iadd hx hb dX6_addLags_45 ?_
                obtain ⟨hin_, h⟩ := ck_e h
                obtain ⟨G15_46, qq, h⟩ := bn_e h
                refine sa_78 hx hb hKK hI e15 (ownF hI ha_29 hk_29 2 rfl).2.1 (ownF hI ha_29 hk_29 2 rfl).2.2 hin_ dX6_addLags_46 (fun σ H locs hI ew ho => ?_)
                have e15 := ew.trans qq.symm
                have e10 := (ho 10 (nn rfl)).trans e10
                have e13 := (ho 13 (nn rfl)).trans e13
                have fr := frs fr ho (by decide)
                obtain ⟨v1_47, qq, h⟩ := bn_e h
                refine lv_iinc (v := v1_47) (lv' := [(1, .int v1_47), (0, .ref (HB.size + 44))]) hx hb dX6_addLags_47 hl (k := 1) rfl (by rw [qq]; rfl) (by decide) rfl (fun ls hl => ?_)
                refine lv_goto (tgt := 2) hx hb dX6_addLags_50 (by decide) ?_
                exact hk2 σ H locs ls G10 G13 G15_46 v1_47  hI e10 e13 e15 fr (lv_sub hl [1, 0] rfl) h
  obtain ⟨σ, hI, e10, e13, e15, fr⟩ : ∃ σ : St, IV HB D y n n κ σ [] s.heap ∧ σ 10 = G10 ∧ σ 13 = G13 ∧ σ 15 = G15 ∧ ∀ j, j ∉ W_X6_addLags → σ j = σ0 j := ⟨σ0, hI, e10, e13, e15, fun _ _ => rfl⟩
  show WX RM_X6_addLags p l e s m args below meth c HB none (B_X6_addLags HB D y n κ σ0 q) s.heap [] (F0 m 0 ls [])
  generalize s.heap = H at hI ⊢
  unfold f_X6_addLags at h
  obtain ⟨locs, hlocs⟩ : ∃ x : List Loc, x = [] := ⟨_, rfl⟩
  rw [← hlocs] at hI ⊢
  refine lv_iconst (v := 0) hx hb dX6_addLags_0 (by decide) ?_
  refine lv_istore_n (lv' := [(1, .int 0), (0, .ref (HB.size + 44))]) hx hb dX6_addLags_1 rfl hl (by decide) rfl (fun ls hl => ?_)
  exact b2  F σ H locs ls G10 G13 G15 0  hI e10 e13 e15 fr (lv_sub hl [1, 0] rfl) h
noncomputable def f_X6_cameAmiss_l4b (F : Nat)  (k4 : Grp → Grp → Grp → Grp → Int32 → Int32 → Int32 → Option (Int32)) (G8 : Grp) (G9 : Grp) (G10 : Grp) (G13 : Grp) (v1 : Int32) (v2 : Int32) (v3 : Int32) : Option (Int32) :=
  if (G10.1 44 1) ≤ v3 then some v2 else ck v3 200 (om (G10.2.2 45 v3.toNatClampNeg) (none) (fun t_21 => om (G13.2.2 t_21 0) (none) (fun t_22 => ob (f_X3_leftAsKnown F G8 (G9.1 t_22 2) v1) (fun q_29 => ck v3 200 (om (G10.2.2 45 v3.toNatClampNeg) (none) (fun t_39 => if (G13.1 t_39 8) = 6 then if q_29 = (-1) then bn (v3 + 1) (fun v3_71 => k4 G8 G9 G10 G13 v1 v2 v3_71) else ck v3 200 (om (G10.2.2 45 v3.toNatClampNeg) (none) (fun t_59 => if (G13.1 t_59 9) < q_29 then bn (v3 + 1) (fun v3_71 => k4 G8 G9 G10 G13 v1 v2 v3_71) else bn (v2 + 1) (fun v2_68 => bn (v3 + 1) (fun v3_71 => k4 G8 G9 G10 G13 v1 v2_68 v3_71)))) else bn (v3 + 1) (fun v3_71 => k4 G8 G9 G10 G13 v1 v2 v3_71)))))))
noncomputable def f_X6_cameAmiss_l4 (F : Nat)  (fu : Nat) : Grp → Grp → Grp → Grp → Int32 → Int32 → Int32 → Option (Int32) := Nat.rec (motive := fun _ => Grp → Grp → Grp → Grp → Int32 → Int32 → Int32 → Option (Int32)) (fun _ _ _ _ _ _ _ => none) (fun _ ih => f_X6_cameAmiss_l4b F  ih) fu
noncomputable def f_X6_cameAmiss (F : Nat) (G8 : Grp) (G9 : Grp) (G10 : Grp) (G13 : Grp) (v1 : Int32) : Option (Int32) :=
  f_X6_cameAmiss_l4 F  F G8 G9 G10 G13 v1 0 0
def RM_X6_cameAmiss : Room := { frames := 1, cells := 0, slots := 0, locals := 23 }
abbrev B_X6_cameAmiss (HB : Heap) (D : va_G) (y : Nat → ClassId) (n : Nat) (κ : Nat → Nat) (σ : St) (q : Int32) : Heap → Prop := fun H => IV HB D y n n κ σ [] H
set_option maxRecDepth 100000 in
set_option maxHeartbeats 4000000 in
theorem c_X6_cameAmiss (l : Launch) (HB : Heap) (D : va_G) (y : Nat → ClassId) (F n : Nat) (κ : Nat → Nat) (σ : St) (hN : N0 ≤ n) (v1 : Int32)  (G8 : Grp) (e8 : σ 8 = G8) (G9 : Grp) (e9 : σ 9 = G9) (G10 : Grp) (e10 : σ 10 = G10) (G13 : Grp) (e13 : σ 13 = G13) (q : Int32) (h : f_X6_cameAmiss F G8 G9 G10 G13 v1 = some q) : MT l HB D y yX6_cameAmiss cX6_cameAmiss 5 (some .int) RM_X6_cameAmiss [.ref (HB.size + 44), .int v1] (IV HB D y n n κ σ []) (some (.int q)) (B_X6_cameAmiss HB D y n κ σ q) := by
  refine Met.ofW (cc := cX6_cameAmiss) (maxL := 5) (ret := (some .int)) (by decide) rfl ?_
  intro p e s m args below meth c s₁ BL hml hv
  obtain ⟨rfl, hI, hKK⟩ := hv
  have hx := BL.exec
  have hb := BL.bytes
  have hr := BL.returns
  have hts : ∀ w ∈ gtb, w.before _ s = true := fun w hw => atoms_spec BL.pre w (List.mem_cons_of_mem _ hw)
  have hml : c.maxLocals = 5 := hml
  have hown : s.vm.findClass RX6 = some m.cls := findClass_of_methodNamed BL.named
  have hlocks := BL.notSynchronized
  have hk0 := hI.1.2.2.2.2
  have hl := lv_entry ([.ref (HB.size + 44), .int v1]) (n := 5) (Nat.le_of_ble_eq_true rfl)
  rw [lg_entry_eq]
  generalize (lg_sl ([.ref (HB.size + 44), .int v1]) ++ List.replicate (5 - (lg_sl ([.ref (HB.size + 44), .int v1])).length) Slot.unset).toArray = ls at hl ⊢
  have hl : lv_has ls 5 [(0, .ref (HB.size + 44)), (1, .int v1)] := hl
  generalize hargs : ([.ref (HB.size + 44), .int v1] : List Value).toArray = args at *
  have b4 : ∀ (fu : Nat) (H : Heap) (locs : List Loc) (ls : Array Slot) (G8 : Grp) (G9 : Grp) (G10 : Grp) (G13 : Grp) (v1 : Int32) (v2 : Int32) (v3 : Int32) , IV HB D y n n κ σ locs H → σ 8 = G8 → σ 9 = G9 → σ 10 = G10 → σ 13 = G13 → lv_has ls 5 [(0, .ref (HB.size + 44)), (1, .int v1), (2, .int v2), (3, .int v3)] → f_X6_cameAmiss_l4 F  fu G8 G9 G10 G13 v1 v2 v3 = some q → WX RM_X6_cameAmiss p l e s m args below meth c HB (some (.int q)) (B_X6_cameAmiss HB D y n κ σ q) H locs (F0 m 4 ls []) := by
    intro  fu
    induction fu with
    | zero =>
      intro H locs ls G8 G9 G10 G13 v1 v2 v3 hI e8 e9 e10 e13 hl h
      exact absurd h (by intro h; cases h)
    | succ fu hk4 =>
      intro H locs ls G8 G9 G10 G13 v1 v2 v3 hI e8 e9 e10 e13 hl h
      have h : f_X6_cameAmiss_l4b F  (f_X6_cameAmiss_l4 F  fu) G8 G9 G10 G13 v1 v2 v3 = some q := h
      generalize f_X6_cameAmiss_l4 F  fu = k4 at h hk4
      unfold f_X6_cameAmiss_l4b at h
      refine lv_iload_n hx hb dX6_cameAmiss_4 rfl (lv_at hl 3 rfl) ?_
      refine lv_aload_n hx hb dX6_cameAmiss_5 rfl (lv_at hl 0 rfl) ?_
      refine gt_X6_48 hx hb hts hown hKK hI e10 (lc44 hN) (kc44 hk0) dX6_cameAmiss_6 ?_
      refine lv_icmp_ge (tgt := 77) hx hb dX6_cameAmiss_9 (by decide) (fun hc => ?_) (fun hc => ?_)
      · replace h := ite_t hc h
        refine lv_iload_n hx hb dX6_cameAmiss_77 rfl (lv_at hl 2 rfl) ?_
        have hq := Option.some.inj h
        exact W.iret (v := v2) hx hb hr (fun t ht hW => qc_mk (congrArg (fun z => Outcome.returned (some (Value.int z))) hq) (by rw [ht]; exact hI.nil)) hI.2.2 dX6_cameAmiss_78 hlocks
      · replace h := ite_f hc h
        refine lv_aload_n hx hb dX6_cameAmiss_12 rfl (lv_at hl 0 rfl) ?_
        refine gf_X6_41 hx hb hts hown hKK hI hN dX6_cameAmiss_13 ?_
        refine lv_aload_n hx hb dX6_cameAmiss_16 rfl (lv_at hl 0 rfl) ?_
        refine gf_X6_11 hx hb hts hown hKK hI hN dX6_cameAmiss_17 ?_
        refine lv_iload_n hx hb dX6_cameAmiss_20 rfl (lv_at hl 3 rfl) ?_
        obtain ⟨hin_, h⟩ := ck_e h
        refine la_24 hx hb hKK hI e10 (lc45 hN) (kc45 hk0) hin_ dX6_cameAmiss_21 ?_
        rcases om_e h with ⟨eo, h⟩ | ⟨t_21, eo, h⟩
        · cases h
        · refine topr eo ?_
          obtain ⟨ha_21, hk_21⟩ := tarF hI (lc45 hN) (kc45 hk0) 0 rfl e10 eo
          refine gt_X6_52 hx hb hts hown hKK hI e13 ha_21 hk_21 dX6_cameAmiss_22 ?_
          rcases om_e h with ⟨eo, h⟩ | ⟨t_22, eo, h⟩
          · cases h
          · refine topr eo ?_
            obtain ⟨ha_22, hk_22⟩ := typF hI ha_21 hk_21 0 rfl e13 eo
            refine gt_X6_162 hx hb hts hown hKK hI e9 ha_22 hk_22 dX6_cameAmiss_25 ?_
            refine lv_iload_n hx hb dX6_cameAmiss_28 rfl (lv_at hl 1 rfl) ?_
            obtain ⟨q_29, hq_29, h⟩ := ob_e h
            refine r_callV (As := [.int (G9.1 t_22 2), .int v1]) (rest := []) hx hb hml hts hown (c_X3_leftAsKnown l HB D y F n κ σ hN (G9.1 t_22 2) v1 G8 e8 q_29 hq_29) cal_X3_leftAsKnown im_X3_leftAsKnown se_X3_leftAsKnown lm_X6_193 ⟨Nat.le_of_ble_eq_true rfl, Nat.le_of_ble_eq_true rfl⟩ hI.nil hKK (r_recv hKK hI (hE3 HB.size y) rfl (lc32 hN) (kc32 hk0)) rfl hl.1 hI.2.2 rfl (Nat.le_of_ble_eq_true rfl) dX6_cameAmiss_29 ⟨Nat.le_of_ble_eq_true rfl, Nat.le_of_ble_eq_true rfl⟩ rfl rfl rfl (fun H locs hB hlo => ?_)
            have hI := hB.re hlo
            refine lv_istore (lv' := [(4, .int q_29), (0, .ref (HB.size + 44)), (1, .int v1), (2, .int v2), (3, .int v3)]) hx hb dX6_cameAmiss_32 hl (by decide) rfl (fun ls hl => ?_)
            refine lv_aload_n hx hb dX6_cameAmiss_34 rfl (lv_at hl 1 rfl) ?_
            refine gf_X6_11 hx hb hts hown hKK hI hN dX6_cameAmiss_35 ?_
            refine lv_iload_n hx hb dX6_cameAmiss_38 rfl (lv_at hl 4 rfl) ?_
            obtain ⟨hin_, h⟩ := ck_e h
            refine la_24 hx hb hKK hI e10 (lc45 hN) (kc45 hk0) hin_ dX6_cameAmiss_39 ?_
            rcases om_e h with ⟨eo, h⟩ | ⟨t_39, eo, h⟩
            · cases h
            · refine topr eo ?_
              obtain ⟨ha_39, hk_39⟩ := tarF hI (lc45 hN) (kc45 hk0) 0 rfl e10 eo
              refine gt_X6_64 hx hb hts hown hKK hI e13 ha_39 hk_39 dX6_cameAmiss_40 ?_
              refine lv_bipush (v := 6) hx hb dX6_cameAmiss_43 (by decide) ?_
              refine lv_icmp_ne (tgt := 71) hx hb dX6_cameAmiss_45 (by decide) (fun hc => ?_) (fun hc => ?_)
              · replace h := ite_f hc h
                obtain ⟨v3_71, qq, h⟩ := bn_e h
                refine lv_iinc (v := v3_71) (lv' := [(3, .int v3_71), (4, .int q_29), (0, .ref (HB.size + 44)), (1, .int v1), (2, .int v2)]) hx hb dX6_cameAmiss_71 hl (k := 4) rfl (by rw [qq]; rfl) (by decide) rfl (fun ls hl => ?_)
                refine lv_goto (tgt := 4) hx hb dX6_cameAmiss_74 (by decide) ?_
                exact hk4 H locs ls G8 G9 G10 G13 v1 v2 v3_71  hI e8 e9 e10 e13 (lv_sub hl [2, 3, 4, 0] rfl) h
              · replace h := ite_t hc h
                refine lv_iload hx hb dX6_cameAmiss_48 (lv_at hl 0 rfl) ?_
                refine lv_iconst (v := (-1)) hx hb dX6_cameAmiss_50 (by decide) ?_
                refine lv_icmp_eq (tgt := 71) hx hb dX6_cameAmiss_51 (by decide) (fun hc => ?_) (fun hc => ?_)
                · replace h := ite_t hc h
                  obtain ⟨v3_71, qq, h⟩ := bn_e h
                  refine lv_iinc (v := v3_71) (lv' := [(3, .int v3_71), (4, .int q_29), (0, .ref (HB.size + 44)), (1, .int v1), (2, .int v2)]) hx hb dX6_cameAmiss_71 hl (k := 4) rfl (by rw [qq]; rfl) (by decide) rfl (fun ls hl => ?_)
                  refine lv_goto (tgt := 4) hx hb dX6_cameAmiss_74 (by decide) ?_
                  exact hk4 H locs ls G8 G9 G10 G13 v1 v2 v3_71  hI e8 e9 e10 e13 (lv_sub hl [2, 3, 4, 0] rfl) h
                · replace h := ite_f hc h
                  refine lv_aload_n hx hb dX6_cameAmiss_54 rfl (lv_at hl 1 rfl) ?_
                  refine gf_X6_11 hx hb hts hown hKK hI hN dX6_cameAmiss_55 ?_
                  refine lv_iload_n hx hb dX6_cameAmiss_58 rfl (lv_at hl 4 rfl) ?_
                  obtain ⟨hin_, h⟩ := ck_e h
                  refine la_24 hx hb hKK hI e10 (lc45 hN) (kc45 hk0) hin_ dX6_cameAmiss_59 ?_
                  rcases om_e h with ⟨eo, h⟩ | ⟨t_59, eo, h⟩
                  · cases h
                  · refine topr eo ?_
                    obtain ⟨ha_59, hk_59⟩ := tarF hI (lc45 hN) (kc45 hk0) 0 rfl e10 eo
                    refine gt_X6_70 hx hb hts hown hKK hI e13 ha_59 hk_59 dX6_cameAmiss_60 ?_
                    refine lv_iload hx hb dX6_cameAmiss_63 (lv_at hl 0 rfl) ?_
                    refine lv_icmp_lt (tgt := 71) hx hb dX6_cameAmiss_65 (by decide) (fun hc => ?_) (fun hc => ?_)
                    · replace h := ite_t hc h
                      obtain ⟨v3_71, qq, h⟩ := bn_e h
                      refine lv_iinc (v := v3_71) (lv' := [(3, .int v3_71), (4, .int q_29), (0, .ref (HB.size + 44)), (1, .int v1), (2, .int v2)]) hx hb dX6_cameAmiss_71 hl (k := 4) rfl (by rw [qq]; rfl) (by decide) rfl (fun ls hl => ?_)
                      refine lv_goto (tgt := 4) hx hb dX6_cameAmiss_74 (by decide) ?_
                      exact hk4 H locs ls G8 G9 G10 G13 v1 v2 v3_71  hI e8 e9 e10 e13 (lv_sub hl [2, 3, 4, 0] rfl) h
                    · replace h := ite_f hc h
                      obtain ⟨v2_68, qq, h⟩ := bn_e h
                      refine lv_iinc (v := v2_68) (lv' := [(2, .int v2_68), (4, .int q_29), (0, .ref (HB.size + 44)), (1, .int v1), (3, .int v3)]) hx hb dX6_cameAmiss_68 hl (k := 3) rfl (by rw [qq]; rfl) (by decide) rfl (fun ls hl => ?_)
                      obtain ⟨v3_71, qq, h⟩ := bn_e h
                      refine lv_iinc (v := v3_71) (lv' := [(3, .int v3_71), (2, .int v2_68), (4, .int q_29), (0, .ref (HB.size + 44)), (1, .int v1)]) hx hb dX6_cameAmiss_71 hl (k := 4) rfl (by rw [qq]; rfl) (by decide) rfl (fun ls hl => ?_)
                      refine lv_goto (tgt := 4) hx hb dX6_cameAmiss_74 (by decide) ?_
                      exact hk4 H locs ls G8 G9 G10 G13 v1 v2_68 v3_71  hI e8 e9 e10 e13 (lv_sub hl [3, 4, 1, 0] rfl) h
  show WX RM_X6_cameAmiss p l e s m args below meth c HB (some (.int q)) (B_X6_cameAmiss HB D y n κ σ q) s.heap [] (F0 m 0 ls [])
  generalize s.heap = H at hI ⊢
  unfold f_X6_cameAmiss at h
  obtain ⟨locs, hlocs⟩ : ∃ x : List Loc, x = [] := ⟨_, rfl⟩
  rw [← hlocs] at hI ⊢
  refine lv_iconst (v := 0) hx hb dX6_cameAmiss_0 (by decide) ?_
  refine lv_istore_n (lv' := [(2, .int 0), (0, .ref (HB.size + 44)), (1, .int v1)]) hx hb dX6_cameAmiss_1 rfl hl (by decide) rfl (fun ls hl => ?_)
  refine lv_iconst (v := 0) hx hb dX6_cameAmiss_2 (by decide) ?_
  refine lv_istore_n (lv' := [(3, .int 0), (2, .int 0), (0, .ref (HB.size + 44)), (1, .int v1)]) hx hb dX6_cameAmiss_3 rfl hl (by decide) rfl (fun ls hl => ?_)
  exact b4  F H locs ls G8 G9 G10 G13 v1 0 0  hI e8 e9 e10 e13 (lv_sub hl [2, 3, 1, 0] rfl) h
noncomputable def f_X7_refuse (F : Nat) (G4 : Grp) (v0 : Nat) (v1 : Int32) : Option (Int32 × Grp) :=
  bn (gI G4 v0 11 ((1000 * v1) + (G4.1 v0 10))) (fun G4_11 => some (0, G4_11))
def RM_X7_refuse : Room := { frames := 0, cells := 0, slots := 0, locals := 0 }
abbrev W_X7_refuse : List Nat := [4]
abbrev B_X7_refuse (HB : Heap) (D : va_G) (y : Nat → ClassId) (n : Nat) (κ : Nat → Nat) (σ0 : St) (q : Int32 × Grp) : Heap → Prop := fun H => ∃ σ : St, IV HB D y n n κ σ [] H ∧ σ 4 = q.2 ∧ ∀ j, j ∉ W_X7_refuse → σ j = σ0 j
set_option maxRecDepth 100000 in
set_option maxHeartbeats 4000000 in
theorem c_X7_refuse (l : Launch) (HB : Heap) (D : va_G) (y : Nat → ClassId) (F n : Nat) (κ : Nat → Nat) (σ0 : St) (hN : N0 ≤ n) (v0 : Nat) (ha_v0 : v0 < n) (hk_v0 : κ v0 = 7) (v1 : Int32)  (G4 : Grp) (e4 : σ0 4 = G4) (q : Int32 × Grp) (h : f_X7_refuse F G4 v0 v1 = some q) : MT l HB D y yX7_refuse cX7_refuse 2 (some .boolean) RM_X7_refuse [.ref (HB.size + v0), .int v1] (IV HB D y n n κ σ0 []) (some (.int q.1)) (B_X7_refuse HB D y n κ σ0 q) := by
  refine Met.ofW (cc := cX7_refuse) (maxL := 2) (ret := (some .boolean)) (by decide) rfl ?_
  intro p e s m args below meth c s₁ BL hml hv
  obtain ⟨rfl, hI, hKK⟩ := hv
  have hx := BL.exec
  have hb := BL.bytes
  have hr := BL.returns
  have hts : ∀ w ∈ gtb, w.before _ s = true := fun w hw => atoms_spec BL.pre w (List.mem_cons_of_mem _ hw)
  have hml : c.maxLocals = 2 := hml
  have hown : s.vm.findClass RX7 = some m.cls := findClass_of_methodNamed BL.named
  have hlocks := BL.notSynchronized
  have hk0 := hI.1.2.2.2.2
  have hl := lv_entry ([.ref (HB.size + v0), .int v1]) (n := 2) (Nat.le_of_ble_eq_true rfl)
  rw [lg_entry_eq]
  generalize (lg_sl ([.ref (HB.size + v0), .int v1]) ++ List.replicate (2 - (lg_sl ([.ref (HB.size + v0), .int v1])).length) Slot.unset).toArray = ls at hl ⊢
  have hl : lv_has ls 2 [(0, .ref (HB.size + v0)), (1, .int v1)] := hl
  generalize hargs : ([.ref (HB.size + v0), .int v1] : List Value).toArray = args at *
  obtain ⟨σ, hI, e4, fr⟩ : ∃ σ : St, IV HB D y n n κ σ [] s.heap ∧ σ 4 = G4 ∧ ∀ j, j ∉ W_X7_refuse → σ j = σ0 j := ⟨σ0, hI, e4, fun _ _ => rfl⟩
  show WX RM_X7_refuse p l e s m args below meth c HB (some (.int q.1)) (B_X7_refuse HB D y n κ σ0 q) s.heap [] (F0 m 0 ls [])
  generalize s.heap = H at hI ⊢
  unfold f_X7_refuse at h
  obtain ⟨locs, hlocs⟩ : ∃ x : List Loc, x = [] := ⟨_, rfl⟩
  rw [← hlocs] at hI ⊢
  refine lv_aload_n hx hb dX7_refuse_0 rfl (lv_at hl 0 rfl) ?_
  refine lv_sipush (v := 1000) hx hb dX7_refuse_1 (by decide) ?_
  refine lv_iload_n hx hb dX7_refuse_4 rfl (lv_at hl 1 rfl) ?_
  refine lv_imul hx hb dX7_refuse_5 ?_
  refine lv_aload_n hx hb dX7_refuse_6 rfl (lv_at hl 0 rfl) ?_
  refine gt_X7_53 hx hb hts hown hKK hI e4 ha_v0 hk_v0 dX7_refuse_7 ?_
  refine lv_iadd hx hb dX7_refuse_10 ?_
  obtain ⟨G4_11, qq, h⟩ := bn_e h
  refine pt_X7_56 hx hb hts hown hKK hI e4 ha_v0 hk_v0 dX7_refuse_11 (fun σ H locs hI ew ho => ?_)
  have e4 := ew.trans qq.symm
  have fr := frs fr ho (by decide)
  refine lv_iconst (v := 0) hx hb dX7_refuse_14 (by decide) ?_
  have hq := Option.some.inj h
  exact W.zret (v := 0) (ty := .boolean) hx hb hr rfl (fun t ht hW => qc_mk (congrArg (fun z => Outcome.returned (some (Value.int z.1))) hq) (by rw [ht]; exact ⟨σ, hI.nil, e4.trans (congrArg (fun z => z.2) hq), fr⟩)) hI.2.2 dX7_refuse_15 hlocks
noncomputable def f_X7_sign (F : Nat) (G3 : Grp) (G4 : Grp) (v0 : Nat) : Option (Int32) :=
  if (G4.1 v0 9) ≤ (G4.1 v0 10) then some (-1) else om (G4.2.2 v0 8) (none) (fun t_12 => ck (G4.1 v0 10) ((G3.2.2 t_12 0).getD 0) (some (G3.1 t_12 (G4.1 v0 10).toNatClampNeg)))
def RM_X7_sign : Room := { frames := 0, cells := 0, slots := 0, locals := 0 }
abbrev B_X7_sign (HB : Heap) (D : va_G) (y : Nat → ClassId) (n : Nat) (κ : Nat → Nat) (σ : St) (q : Int32) : Heap → Prop := fun H => IV HB D y n n κ σ [] H
set_option maxRecDepth 100000 in
set_option maxHeartbeats 4000000 in
theorem c_X7_sign (l : Launch) (HB : Heap) (D : va_G) (y : Nat → ClassId) (F n : Nat) (κ : Nat → Nat) (σ : St) (hN : N0 ≤ n) (v0 : Nat) (ha_v0 : v0 < n) (hk_v0 : κ v0 = 7) (G3 : Grp) (e3 : σ 3 = G3) (G4 : Grp) (e4 : σ 4 = G4) (q : Int32) (h : f_X7_sign F G3 G4 v0 = some q) : MT l HB D y yX7_sign cX7_sign 1 (some .int) RM_X7_sign [.ref (HB.size + v0)] (IV HB D y n n κ σ []) (some (.int q)) (B_X7_sign HB D y n κ σ q) := by
  refine Met.ofW (cc := cX7_sign) (maxL := 1) (ret := (some .int)) (by decide) rfl ?_
  intro p e s m args below meth c s₁ BL hml hv
  obtain ⟨rfl, hI, hKK⟩ := hv
  have hx := BL.exec
  have hb := BL.bytes
  have hr := BL.returns
  have hts : ∀ w ∈ gtb, w.before _ s = true := fun w hw => atoms_spec BL.pre w (List.mem_cons_of_mem _ hw)
  have hml : c.maxLocals = 1 := hml
  have hown : s.vm.findClass RX7 = some m.cls := findClass_of_methodNamed BL.named
  have hlocks := BL.notSynchronized
  have hk0 := hI.1.2.2.2.2
  have hl := lv_entry ([.ref (HB.size + v0)]) (n := 1) (Nat.le_of_ble_eq_true rfl)
  rw [lg_entry_eq]
  generalize (lg_sl ([.ref (HB.size + v0)]) ++ List.replicate (1 - (lg_sl ([.ref (HB.size + v0)])).length) Slot.unset).toArray = ls at hl ⊢
  have hl : lv_has ls 1 [(0, .ref (HB.size + v0))] := hl
  generalize hargs : ([.ref (HB.size + v0)] : List Value).toArray = args at *
  show WX RM_X7_sign p l e s m args below meth c HB (some (.int q)) (B_X7_sign HB D y n κ σ q) s.heap [] (F0 m 0 ls [])
  generalize s.heap = H at hI ⊢
  unfold f_X7_sign at h
  obtain ⟨locs, hlocs⟩ : ∃ x : List Loc, x = [] := ⟨_, rfl⟩
  rw [← hlocs] at hI ⊢
  refine lv_aload_n hx hb dX7_sign_0 rfl (lv_at hl 0 rfl) ?_
  refine gt_X7_53 hx hb hts hown hKK hI e4 ha_v0 hk_v0 dX7_sign_1 ?_
  refine lv_aload_n hx hb dX7_sign_4 rfl (lv_at hl 0 rfl) ?_
  refine gt_X7_49 hx hb hts hown hKK hI e4 ha_v0 hk_v0 dX7_sign_5 ?_
  refine lv_icmp_ge (tgt := 23) hx hb dX7_sign_8 (by decide) (fun hc => ?_) (fun hc => ?_)
  · replace h := ite_t hc h
    refine lv_iconst (v := (-1)) hx hb dX7_sign_23 (by decide) ?_
    have hq := Option.some.inj h
    exact W.iret (v := (-1)) hx hb hr (fun t ht hW => qc_mk (congrArg (fun z => Outcome.returned (some (Value.int z))) hq) (by rw [ht]; exact hI.nil)) hI.2.2 dX7_sign_24 hlocks
  · replace h := ite_f hc h
    refine lv_aload_n hx hb dX7_sign_11 rfl (lv_at hl 0 rfl) ?_
    refine gt_X7_39 hx hb hts hown hKK hI e4 ha_v0 hk_v0 dX7_sign_12 ?_
    rcases om_e h with ⟨eo, h⟩ | ⟨t_12, eo, h⟩
    · refine topn eo ?_
      refine lv_aload_n hx hb dX7_sign_15 rfl (lv_at hl 0 rfl) ?_
      refine gt_X7_53 hx hb hts hown hKK hI e4 ha_v0 hk_v0 dX7_sign_16 ?_
      cases h
    · refine topr eo ?_
      obtain ⟨ha_12, hk_12⟩ := typF hI ha_v0 hk_v0 0 rfl e4 eo
      refine lv_aload_n hx hb dX7_sign_15 rfl (lv_at hl 0 rfl) ?_
      refine gt_X7_53 hx hb hts hown hKK hI e4 ha_v0 hk_v0 dX7_sign_16 ?_
      obtain ⟨hin_, h⟩ := ck_e h
      refine la_13 hx hb hKK hI e3 ha_12 hk_12 hin_ dX7_sign_19 ?_
      refine lv_goto (tgt := 24) hx hb dX7_sign_20 (by decide) ?_
      have hq := Option.some.inj h
      exact W.iret (v := (G3.1 t_12 (G4.1 v0 10).toNatClampNeg)) hx hb hr (fun t ht hW => qc_mk (congrArg (fun z => Outcome.returned (some (Value.int z))) hq) (by rw [ht]; exact hI.nil)) hI.2.2 dX7_sign_24 hlocks
noncomputable def f_X7_parseHead_b106 (F : Nat)  (G3 : Grp) (G4 : Grp) (v0 : Nat) (v1 : Int32) (v2 : Int32) : Option (Int32 × Grp) :=
  ob (f_X7_sign F G3 G4 v0) (fun q_107 => if q_107 = 58 then bn (gI G4 v0 10 ((G4.1 v0 10) + 1)) (fun G4_128 => ck (G4_128.1 v0 7) 12 (bn (gI G4_128 (v0 + 5) (G4_128.1 v0 7).toNatClampNeg v1) (fun G4_140 => ck (G4_140.1 v0 7) 12 (bn (gI G4_140 (v0 + 6) (G4_140.1 v0 7).toNatClampNeg v2) (fun G4_150 => some (1, G4_150)))))) else ob (f_X7_refuse F G4 v0 1) (fun q_117 => cb (q_117.1) (some (q_117.1, q_117.2))))
noncomputable def f_X7_parseHead_b35 (F : Nat)  (G3 : Grp) (G4 : Grp) (v0 : Nat) (v1 : Int32) : Option (Int32 × Grp) :=
  if (G4.1 v0 7) < 12 then bn (gI G4 v0 10 ((G4.1 v0 10) + 1)) (fun G4_57 => if v1 = 110 then ob (f_X7_sign F G3 G4_57 v0) (fun q_69 => bn ((q_69 - 48)) (fun v3_75 => ob (f_X11_within F v3_75 0 7) (fun q_80 => if q_80 = 0 then ob (f_X7_refuse F G4_57 v0 1) (fun q_88 => cb (q_88.1) (some (q_88.1, q_88.2))) else bn ((1 <<< (v3_75 &&& 31))) (fun v2_95 => bn (gI G4_57 v0 10 ((G4_57.1 v0 10) + 1)) (fun G4_103 => f_X7_parseHead_b106 F  G3 G4_103 v0 v1 v2_95))))) else f_X7_parseHead_b106 F  G3 G4_57 v0 v1 0) else ob (f_X7_refuse F G4 v0 2) (fun q_46 => cb (q_46.1) (some (q_46.1, q_46.2)))
noncomputable def f_X7_parseHead (F : Nat) (G3 : Grp) (G4 : Grp) (v0 : Nat) : Option (Int32 × Grp) :=
  ob (f_X7_sign F G3 G4 v0) (fun q_1 => if q_1 = 99 then f_X7_parseHead_b35 F  G3 G4 v0 q_1 else if q_1 = 104 then f_X7_parseHead_b35 F  G3 G4 v0 q_1 else if q_1 = 114 then f_X7_parseHead_b35 F  G3 G4 v0 q_1 else if q_1 = 110 then f_X7_parseHead_b35 F  G3 G4 v0 q_1 else ob (f_X7_refuse F G4 v0 1) (fun q_31 => cb (q_31.1) (some (q_31.1, q_31.2))))
def RM_X7_parseHead : Room := { frames := 1, cells := 0, slots := 0, locals := 22 }
abbrev W_X7_parseHead : List Nat := [4]
abbrev B_X7_parseHead (HB : Heap) (D : va_G) (y : Nat → ClassId) (n : Nat) (κ : Nat → Nat) (σ0 : St) (q : Int32 × Grp) : Heap → Prop := fun H => ∃ σ : St, IV HB D y n n κ σ [] H ∧ σ 4 = q.2 ∧ ∀ j, j ∉ W_X7_parseHead → σ j = σ0 j
set_option maxRecDepth 100000 in
set_option maxHeartbeats 4000000 in
theorem c_X7_parseHead (l : Launch) (HB : Heap) (D : va_G) (y : Nat → ClassId) (F n : Nat) (κ : Nat → Nat) (σ0 : St) (hN : N0 ≤ n) (v0 : Nat) (ha_v0 : v0 < n) (hk_v0 : κ v0 = 7) (G3 : Grp) (e3 : σ0 3 = G3) (G4 : Grp) (e4 : σ0 4 = G4) (q : Int32 × Grp) (h : f_X7_parseHead F G3 G4 v0 = some q) : MT l HB D y yX7_parseHead cX7_parseHead 4 (some .boolean) RM_X7_parseHead [.ref (HB.size + v0)] (IV HB D y n n κ σ0 []) (some (.int q.1)) (B_X7_parseHead HB D y n κ σ0 q) := by
  refine Met.ofW (cc := cX7_parseHead) (maxL := 4) (ret := (some .boolean)) (by decide) rfl ?_
  intro p e s m args below meth c s₁ BL hml hv
  obtain ⟨rfl, hI, hKK⟩ := hv
  have hx := BL.exec
  have hb := BL.bytes
  have hr := BL.returns
  have hts : ∀ w ∈ gtb, w.before _ s = true := fun w hw => atoms_spec BL.pre w (List.mem_cons_of_mem _ hw)
  have hml : c.maxLocals = 4 := hml
  have hown : s.vm.findClass RX7 = some m.cls := findClass_of_methodNamed BL.named
  have hlocks := BL.notSynchronized
  have hk0 := hI.1.2.2.2.2
  have hl := lv_entry ([.ref (HB.size + v0)]) (n := 4) (Nat.le_of_ble_eq_true rfl)
  rw [lg_entry_eq]
  generalize (lg_sl ([.ref (HB.size + v0)]) ++ List.replicate (4 - (lg_sl ([.ref (HB.size + v0)])).length) Slot.unset).toArray = ls at hl ⊢
  have hl : lv_has ls 4 [(0, .ref (HB.size + v0))] := hl
  generalize hargs : ([.ref (HB.size + v0)] : List Value).toArray = args at *
  have b106 : ∀ (σ : St) (H : Heap) (locs : List Loc) (ls : Array Slot) (G3 : Grp) (G4 : Grp) (v0 : Nat) (v1 : Int32) (v2 : Int32) (ha_v0 : v0 < n) (hk_v0 : κ v0 = 7), IV HB D y n n κ σ locs H → σ 3 = G3 → σ 4 = G4 → (∀ j, j ∉ W_X7_parseHead → σ j = σ0 j) → lv_has ls 4 [(0, .ref (HB.size + v0)), (1, .int v1), (2, .int v2)] → f_X7_parseHead_b106 F  G3 G4 v0 v1 v2 = some q → WX RM_X7_parseHead p l e s m args below meth c HB (some (.int q.1)) (B_X7_parseHead HB D y n κ σ0 q) H locs (F0 m 106 ls []) := by
    intro  σ H locs ls G3 G4 v0 v1 v2 ha_v0 hk_v0 hI e3 e4 fr hl h
    unfold f_X7_parseHead_b106 at h
    refine lv_aload_n hx hb dX7_parseHead_106 rfl (lv_at hl 0 rfl) ?_
    obtain ⟨q_107, hq_107, h⟩ := ob_e h
    refine r_callV (As := []) (rest := []) hx hb hml hts hown (c_X7_sign l HB D y F n κ σ hN v0 ha_v0 hk_v0 G3 e3 G4 e4 q_107 hq_107) cal_X7_sign im_X7_sign se_X7_sign lm_X7_72 ⟨Nat.le_of_ble_eq_true rfl, Nat.le_of_ble_eq_true rfl⟩ hI.nil hKK (r_recv hKK hI (hE7 HB.size y) rfl ha_v0 hk_v0) rfl hl.1 hI.2.2 rfl (Nat.le_of_ble_eq_true rfl) dX7_parseHead_107 ⟨Nat.le_of_ble_eq_true rfl, Nat.le_of_ble_eq_true rfl⟩ rfl rfl rfl (fun H locs hB hlo => ?_)
    have hI := hB.re hlo
    refine lv_bipush (v := 58) hx hb dX7_parseHead_110 (by decide) ?_
    refine lv_icmp_eq (tgt := 121) hx hb dX7_parseHead_112 (by decide) (fun hc => ?_) (fun hc => ?_)
    · replace h := ite_t hc h
      refine lv_aload_n hx hb dX7_parseHead_121 rfl (lv_at hl 0 rfl) ?_
      refine lv_dup hx hb dX7_parseHead_122 rfl ?_
      refine gt_X7_53 hx hb hts hown hKK hI e4 ha_v0 hk_v0 dX7_parseHead_123 ?_
      refine lv_iconst (v := 1) hx hb dX7_parseHead_126 (by decide) ?_
      refine lv_iadd hx hb dX7_parseHead_127 ?_
      obtain ⟨G4_128, qq, h⟩ := bn_e h
      refine pt_X7_53 hx hb hts hown hKK hI e4 ha_v0 hk_v0 dX7_parseHead_128 (fun σ H locs hI ew ho => ?_)
      have e4 := ew.trans qq.symm
      have e3 := (ho 3 (nn rfl)).trans e3
      have fr := frs fr ho (by decide)
      refine lv_aload_n hx hb dX7_parseHead_131 rfl (lv_at hl 0 rfl) ?_
      refine gf_X7_24 hx hb hts hown hKK hI ha_v0 hk_v0 dX7_parseHead_132 ?_
      refine lv_aload_n hx hb dX7_parseHead_135 rfl (lv_at hl 0 rfl) ?_
      refine gt_X7_62 hx hb hts hown hKK hI e4 ha_v0 hk_v0 dX7_parseHead_136 ?_
      refine lv_iload_n hx hb dX7_parseHead_139 rfl (lv_at hl 1 rfl) ?_
      obtain ⟨hin_, h⟩ := ck_e h
      obtain ⟨G4_140, qq, h⟩ := bn_e h
      refine sa_16 hx hb hKK hI e4 (ownF hI ha_v0 hk_v0 4 rfl).2.1 (ownF hI ha_v0 hk_v0 4 rfl).2.2 hin_ dX7_parseHead_140 (fun σ H locs hI ew ho => ?_)
      have e4 := ew.trans qq.symm
      have e3 := (ho 3 (nn rfl)).trans e3
      have fr := frs fr ho (by decide)
      refine lv_aload_n hx hb dX7_parseHead_141 rfl (lv_at hl 0 rfl) ?_
      refine gf_X7_27 hx hb hts hown hKK hI ha_v0 hk_v0 dX7_parseHead_142 ?_
      refine lv_aload_n hx hb dX7_parseHead_145 rfl (lv_at hl 0 rfl) ?_
      refine gt_X7_62 hx hb hts hown hKK hI e4 ha_v0 hk_v0 dX7_parseHead_146 ?_
      refine lv_iload_n hx hb dX7_parseHead_149 rfl (lv_at hl 2 rfl) ?_
      obtain ⟨hin_, h⟩ := ck_e h
      obtain ⟨G4_150, qq, h⟩ := bn_e h
      refine sa_16 hx hb hKK hI e4 (ownF hI ha_v0 hk_v0 5 rfl).2.1 (ownF hI ha_v0 hk_v0 5 rfl).2.2 hin_ dX7_parseHead_150 (fun σ H locs hI ew ho => ?_)
      have e4 := ew.trans qq.symm
      have e3 := (ho 3 (nn rfl)).trans e3
      have fr := frs fr ho (by decide)
      refine lv_iconst (v := 1) hx hb dX7_parseHead_151 (by decide) ?_
      have hq := Option.some.inj h
      exact W.zret (v := 1) (ty := .boolean) hx hb hr rfl (fun t ht hW => qc_mk (congrArg (fun z => Outcome.returned (some (Value.int z.1))) hq) (by rw [ht]; exact ⟨σ, hI.nil, e4.trans (congrArg (fun z => z.2) hq), fr⟩)) hI.2.2 dX7_parseHead_152 hlocks
    · replace h := ite_f hc h
      refine lv_aload_n hx hb dX7_parseHead_115 rfl (lv_at hl 0 rfl) ?_
      refine lv_iconst (v := 1) hx hb dX7_parseHead_116 (by decide) ?_
      obtain ⟨q_117, hq_117, h⟩ := ob_e h
      refine r_callV (As := [.int 1]) (rest := []) hx hb hml hts hown (c_X7_refuse l HB D y F n κ σ hN v0 ha_v0 hk_v0 1 G4 e4 q_117 hq_117) cal_X7_refuse im_X7_refuse se_X7_refuse lm_X7_76 ⟨Nat.le_of_ble_eq_true rfl, Nat.le_of_ble_eq_true rfl⟩ hI.nil hKK (r_recv hKK hI (hE7 HB.size y) rfl ha_v0 hk_v0) rfl hl.1 hI.2.2 rfl (Nat.le_of_ble_eq_true rfl) dX7_parseHead_117 ⟨Nat.le_of_ble_eq_true rfl, Nat.le_of_ble_eq_true rfl⟩ rfl rfl rfl (fun H locs hB hlo => ?_)
      obtain ⟨σ, hB, en4, ho⟩ := hB
      have hI := hB.re hlo
      have e4 := en4
      have e3 := (ho 3 (ni rfl)).trans e3
      have fr := frc fr ho (by decide)
      obtain ⟨hz, h⟩ := cb_e h
      have hq := Option.some.inj h
      exact W.zret (v := q_117.1) (ty := .boolean) hx hb hr hz (fun t ht hW => qc_mk (congrArg (fun z => Outcome.returned (some (Value.int z.1))) hq) (by rw [ht]; exact ⟨σ, hI.nil, e4.trans (congrArg (fun z => z.2) hq), fr⟩)) hI.2.2 dX7_parseHead_120 hlocks
  have b35 : ∀ (σ : St) (H : Heap) (locs : List Loc) (ls : Array Slot) (G3 : Grp) (G4 : Grp) (v0 : Nat) (v1 : Int32) (ha_v0 : v0 < n) (hk_v0 : κ v0 = 7), IV HB D y n n κ σ locs H → σ 3 = G3 → σ 4 = G4 → (∀ j, j ∉ W_X7_parseHead → σ j = σ0 j) → lv_has ls 4 [(0, .ref (HB.size + v0)), (1, .int v1)] → f_X7_parseHead_b35 F  G3 G4 v0 v1 = some q → WX RM_X7_parseHead p l e s m args below meth c HB (some (.int q.1)) (B_X7_parseHead HB D y n κ σ0 q) H locs (F0 m 35 ls []) := by
    intro  σ H locs ls G3 G4 v0 v1 ha_v0 hk_v0 hI e3 e4 fr hl h
    unfold f_X7_parseHead_b35 at h
    refine lv_aload_n hx hb dX7_parseHead_35 rfl (lv_at hl 0 rfl) ?_
    refine gt_X7_62 hx hb hts hown hKK hI e4 ha_v0 hk_v0 dX7_parseHead_36 ?_
    refine lv_bipush (v := 12) hx hb dX7_parseHead_39 (by decide) ?_
    refine lv_icmp_lt (tgt := 50) hx hb dX7_parseHead_41 (by decide) (fun hc => ?_) (fun hc => ?_)
    · replace h := ite_t hc h
      refine lv_aload_n hx hb dX7_parseHead_50 rfl (lv_at hl 0 rfl) ?_
      refine lv_dup hx hb dX7_parseHead_51 rfl ?_
      refine gt_X7_53 hx hb hts hown hKK hI e4 ha_v0 hk_v0 dX7_parseHead_52 ?_
      refine lv_iconst (v := 1) hx hb dX7_parseHead_55 (by decide) ?_
      refine lv_iadd hx hb dX7_parseHead_56 ?_
      obtain ⟨G4_57, qq, h⟩ := bn_e h
      refine pt_X7_53 hx hb hts hown hKK hI e4 ha_v0 hk_v0 dX7_parseHead_57 (fun σ H locs hI ew ho => ?_)
      have e4 := ew.trans qq.symm
      have e3 := (ho 3 (nn rfl)).trans e3
      have fr := frs fr ho (by decide)
      refine lv_iconst (v := 0) hx hb dX7_parseHead_60 (by decide) ?_
      refine lv_istore_n (lv' := [(2, .int 0), (0, .ref (HB.size + v0)), (1, .int v1)]) hx hb dX7_parseHead_61 rfl hl (by decide) rfl (fun ls hl => ?_)
      refine lv_iload_n hx hb dX7_parseHead_62 rfl (lv_at hl 2 rfl) ?_
      refine lv_bipush (v := 110) hx hb dX7_parseHead_63 (by decide) ?_
      refine lv_icmp_ne (tgt := 106) hx hb dX7_parseHead_65 (by decide) (fun hc => ?_) (fun hc => ?_)
      · replace h := ite_f hc h
        exact b106  σ H locs ls G3 G4_57 v0 v1 0 ha_v0 hk_v0 hI e3 e4 fr (lv_sub hl [1, 2, 0] rfl) h
      · replace h := ite_t hc h
        refine lv_aload_n hx hb dX7_parseHead_68 rfl (lv_at hl 1 rfl) ?_
        obtain ⟨q_69, hq_69, h⟩ := ob_e h
        refine r_callV (As := []) (rest := []) hx hb hml hts hown (c_X7_sign l HB D y F n κ σ hN v0 ha_v0 hk_v0 G3 e3 G4_57 e4 q_69 hq_69) cal_X7_sign im_X7_sign se_X7_sign lm_X7_72 ⟨Nat.le_of_ble_eq_true rfl, Nat.le_of_ble_eq_true rfl⟩ hI.nil hKK (r_recv hKK hI (hE7 HB.size y) rfl ha_v0 hk_v0) rfl hl.1 hI.2.2 rfl (Nat.le_of_ble_eq_true rfl) dX7_parseHead_69 ⟨Nat.le_of_ble_eq_true rfl, Nat.le_of_ble_eq_true rfl⟩ rfl rfl rfl (fun H locs hB hlo => ?_)
        have hI := hB.re hlo
        refine lv_bipush (v := 48) hx hb dX7_parseHead_72 (by decide) ?_
        refine lv_isub hx hb dX7_parseHead_74 ?_
        obtain ⟨v3_75, qq, h⟩ := bn_e h
        refine topi qq ?_
        refine lv_istore_n (lv' := [(3, .int v3_75), (2, .int 0), (0, .ref (HB.size + v0)), (1, .int v1)]) hx hb dX7_parseHead_75 rfl hl (by decide) rfl (fun ls hl => ?_)
        refine lv_iload_n hx hb dX7_parseHead_76 rfl (lv_at hl 0 rfl) ?_
        refine lv_iconst (v := 0) hx hb dX7_parseHead_77 (by decide) ?_
        refine lv_bipush (v := 7) hx hb dX7_parseHead_78 (by decide) ?_
        obtain ⟨q_80, hq_80, h⟩ := ob_e h
        refine r_callSN (As := [.int v3_75, .int 0, .int 7]) (rest := []) hx hb hml hts hown (c_X11_within l HB D y F n κ σ hN v3_75 0 7  q_80 hq_80) cal_X11_within st_X11_within (hKK.2.1 _ (List.mem_of_getElem? (i := 10) rfl)) ⟨Nat.le_of_ble_eq_true rfl, Nat.le_of_ble_eq_true rfl⟩ hI.nil hKK rfl hl.1 hI.2.2 rfl (Nat.le_of_ble_eq_true rfl) dX7_parseHead_80 ⟨Nat.le_of_ble_eq_true rfl, Nat.le_of_ble_eq_true rfl⟩ rfl rfl rfl (fun H locs hB hlo => ?_)
        have hI := hB.re hlo
        refine lv_if_ne (tgt := 92) hx hb dX7_parseHead_83 (by decide) (fun hc => ?_) (fun hc => ?_)
        · replace h := ite_f hc h
          refine lv_iconst (v := 1) hx hb dX7_parseHead_92 (by decide) ?_
          refine lv_iload_n hx hb dX7_parseHead_93 rfl (lv_at hl 0 rfl) ?_
          refine lv_ishl hx hb dX7_parseHead_94 ?_
          obtain ⟨v2_95, qq, h⟩ := bn_e h
          refine topi qq ?_
          refine lv_istore_n (lv' := [(2, .int v2_95), (3, .int v3_75), (0, .ref (HB.size + v0)), (1, .int v1)]) hx hb dX7_parseHead_95 rfl hl (by decide) rfl (fun ls hl => ?_)
          refine lv_aload_n hx hb dX7_parseHead_96 rfl (lv_at hl 2 rfl) ?_
          refine lv_dup hx hb dX7_parseHead_97 rfl ?_
          refine gt_X7_53 hx hb hts hown hKK hI e4 ha_v0 hk_v0 dX7_parseHead_98 ?_
          refine lv_iconst (v := 1) hx hb dX7_parseHead_101 (by decide) ?_
          refine lv_iadd hx hb dX7_parseHead_102 ?_
          obtain ⟨G4_103, qq, h⟩ := bn_e h
          refine pt_X7_53 hx hb hts hown hKK hI e4 ha_v0 hk_v0 dX7_parseHead_103 (fun σ H locs hI ew ho => ?_)
          have e4 := ew.trans qq.symm
          have e3 := (ho 3 (nn rfl)).trans e3
          have fr := frs fr ho (by decide)
          exact b106  σ H locs ls G3 G4_103 v0 v1 v2_95 ha_v0 hk_v0 hI e3 e4 fr (lv_sub hl [2, 3, 0] rfl) h
        · replace h := ite_t hc h
          refine lv_aload_n hx hb dX7_parseHead_86 rfl (lv_at hl 2 rfl) ?_
          refine lv_iconst (v := 1) hx hb dX7_parseHead_87 (by decide) ?_
          obtain ⟨q_88, hq_88, h⟩ := ob_e h
          refine r_callV (As := [.int 1]) (rest := []) hx hb hml hts hown (c_X7_refuse l HB D y F n κ σ hN v0 ha_v0 hk_v0 1 G4_57 e4 q_88 hq_88) cal_X7_refuse im_X7_refuse se_X7_refuse lm_X7_76 ⟨Nat.le_of_ble_eq_true rfl, Nat.le_of_ble_eq_true rfl⟩ hI.nil hKK (r_recv hKK hI (hE7 HB.size y) rfl ha_v0 hk_v0) rfl hl.1 hI.2.2 rfl (Nat.le_of_ble_eq_true rfl) dX7_parseHead_88 ⟨Nat.le_of_ble_eq_true rfl, Nat.le_of_ble_eq_true rfl⟩ rfl rfl rfl (fun H locs hB hlo => ?_)
          obtain ⟨σ, hB, en4, ho⟩ := hB
          have hI := hB.re hlo
          have e4 := en4
          have e3 := (ho 3 (ni rfl)).trans e3
          have fr := frc fr ho (by decide)
          obtain ⟨hz, h⟩ := cb_e h
          have hq := Option.some.inj h
          exact W.zret (v := q_88.1) (ty := .boolean) hx hb hr hz (fun t ht hW => qc_mk (congrArg (fun z => Outcome.returned (some (Value.int z.1))) hq) (by rw [ht]; exact ⟨σ, hI.nil, e4.trans (congrArg (fun z => z.2) hq), fr⟩)) hI.2.2 dX7_parseHead_91 hlocks
    · replace h := ite_f hc h
      refine lv_aload_n hx hb dX7_parseHead_44 rfl (lv_at hl 0 rfl) ?_
      refine lv_iconst (v := 2) hx hb dX7_parseHead_45 (by decide) ?_
      obtain ⟨q_46, hq_46, h⟩ := ob_e h
      refine r_callV (As := [.int 2]) (rest := []) hx hb hml hts hown (c_X7_refuse l HB D y F n κ σ hN v0 ha_v0 hk_v0 2 G4 e4 q_46 hq_46) cal_X7_refuse im_X7_refuse se_X7_refuse lm_X7_76 ⟨Nat.le_of_ble_eq_true rfl, Nat.le_of_ble_eq_true rfl⟩ hI.nil hKK (r_recv hKK hI (hE7 HB.size y) rfl ha_v0 hk_v0) rfl hl.1 hI.2.2 rfl (Nat.le_of_ble_eq_true rfl) dX7_parseHead_46 ⟨Nat.le_of_ble_eq_true rfl, Nat.le_of_ble_eq_true rfl⟩ rfl rfl rfl (fun H locs hB hlo => ?_)
      obtain ⟨σ, hB, en4, ho⟩ := hB
      have hI := hB.re hlo
      have e4 := en4
      have e3 := (ho 3 (ni rfl)).trans e3
      have fr := frc fr ho (by decide)
      obtain ⟨hz, h⟩ := cb_e h
      have hq := Option.some.inj h
      exact W.zret (v := q_46.1) (ty := .boolean) hx hb hr hz (fun t ht hW => qc_mk (congrArg (fun z => Outcome.returned (some (Value.int z.1))) hq) (by rw [ht]; exact ⟨σ, hI.nil, e4.trans (congrArg (fun z => z.2) hq), fr⟩)) hI.2.2 dX7_parseHead_49 hlocks
  obtain ⟨σ, hI, e3, e4, fr⟩ : ∃ σ : St, IV HB D y n n κ σ [] s.heap ∧ σ 3 = G3 ∧ σ 4 = G4 ∧ ∀ j, j ∉ W_X7_parseHead → σ j = σ0 j := ⟨σ0, hI, e3, e4, fun _ _ => rfl⟩
  show WX RM_X7_parseHead p l e s m args below meth c HB (some (.int q.1)) (B_X7_parseHead HB D y n κ σ0 q) s.heap [] (F0 m 0 ls [])
  generalize s.heap = H at hI ⊢
  unfold f_X7_parseHead at h
  obtain ⟨locs, hlocs⟩ : ∃ x : List Loc, x = [] := ⟨_, rfl⟩
  rw [← hlocs] at hI ⊢
  refine lv_aload_n hx hb dX7_parseHead_0 rfl (lv_at hl 0 rfl) ?_
  obtain ⟨q_1, hq_1, h⟩ := ob_e h
  refine r_callV (As := []) (rest := []) hx hb hml hts hown (c_X7_sign l HB D y F n κ σ hN v0 ha_v0 hk_v0 G3 e3 G4 e4 q_1 hq_1) cal_X7_sign im_X7_sign se_X7_sign lm_X7_72 ⟨Nat.le_of_ble_eq_true rfl, Nat.le_of_ble_eq_true rfl⟩ hI.nil hKK (r_recv hKK hI (hE7 HB.size y) rfl ha_v0 hk_v0) rfl hl.1 hI.2.2 rfl (Nat.le_of_ble_eq_true rfl) dX7_parseHead_1 ⟨Nat.le_of_ble_eq_true rfl, Nat.le_of_ble_eq_true rfl⟩ rfl rfl rfl (fun H locs hB hlo => ?_)
  have hI := hB.re hlo
  refine lv_istore_n (lv' := [(1, .int q_1), (0, .ref (HB.size + v0))]) hx hb dX7_parseHead_4 rfl hl (by decide) rfl (fun ls hl => ?_)
  refine lv_iload_n hx hb dX7_parseHead_5 rfl (lv_at hl 0 rfl) ?_
  refine lv_bipush (v := 99) hx hb dX7_parseHead_6 (by decide) ?_
  refine lv_icmp_eq (tgt := 35) hx hb dX7_parseHead_8 (by decide) (fun hc => ?_) (fun hc => ?_)
  · replace h := ite_t hc h
    exact b35  σ H locs ls G3 G4 v0 q_1 ha_v0 hk_v0 hI e3 e4 fr (lv_sub hl [1, 0] rfl) h
  · replace h := ite_f hc h
    refine lv_iload_n hx hb dX7_parseHead_11 rfl (lv_at hl 0 rfl) ?_
    refine lv_bipush (v := 104) hx hb dX7_parseHead_12 (by decide) ?_
    refine lv_icmp_eq (tgt := 35) hx hb dX7_parseHead_14 (by decide) (fun hc => ?_) (fun hc => ?_)
    · replace h := ite_t hc h
      exact b35  σ H locs ls G3 G4 v0 q_1 ha_v0 hk_v0 hI e3 e4 fr (lv_sub hl [1, 0] rfl) h
    · replace h := ite_f hc h
      refine lv_iload_n hx hb dX7_parseHead_17 rfl (lv_at hl 0 rfl) ?_
      refine lv_bipush (v := 114) hx hb dX7_parseHead_18 (by decide) ?_
      refine lv_icmp_eq (tgt := 35) hx hb dX7_parseHead_20 (by decide) (fun hc => ?_) (fun hc => ?_)
      · replace h := ite_t hc h
        exact b35  σ H locs ls G3 G4 v0 q_1 ha_v0 hk_v0 hI e3 e4 fr (lv_sub hl [1, 0] rfl) h
      · replace h := ite_f hc h
        refine lv_iload_n hx hb dX7_parseHead_23 rfl (lv_at hl 0 rfl) ?_
        refine lv_bipush (v := 110) hx hb dX7_parseHead_24 (by decide) ?_
        refine lv_icmp_eq (tgt := 35) hx hb dX7_parseHead_26 (by decide) (fun hc => ?_) (fun hc => ?_)
        · replace h := ite_t hc h
          exact b35  σ H locs ls G3 G4 v0 q_1 ha_v0 hk_v0 hI e3 e4 fr (lv_sub hl [1, 0] rfl) h
        · replace h := ite_f hc h
          refine lv_aload_n hx hb dX7_parseHead_29 rfl (lv_at hl 1 rfl) ?_
          refine lv_iconst (v := 1) hx hb dX7_parseHead_30 (by decide) ?_
          obtain ⟨q_31, hq_31, h⟩ := ob_e h
          refine r_callV (As := [.int 1]) (rest := []) hx hb hml hts hown (c_X7_refuse l HB D y F n κ σ hN v0 ha_v0 hk_v0 1 G4 e4 q_31 hq_31) cal_X7_refuse im_X7_refuse se_X7_refuse lm_X7_76 ⟨Nat.le_of_ble_eq_true rfl, Nat.le_of_ble_eq_true rfl⟩ hI.nil hKK (r_recv hKK hI (hE7 HB.size y) rfl ha_v0 hk_v0) rfl hl.1 hI.2.2 rfl (Nat.le_of_ble_eq_true rfl) dX7_parseHead_31 ⟨Nat.le_of_ble_eq_true rfl, Nat.le_of_ble_eq_true rfl⟩ rfl rfl rfl (fun H locs hB hlo => ?_)
          obtain ⟨σ, hB, en4, ho⟩ := hB
          have hI := hB.re hlo
          have e4 := en4
          have e3 := (ho 3 (ni rfl)).trans e3
          have fr := frc fr ho (by decide)
          obtain ⟨hz, h⟩ := cb_e h
          have hq := Option.some.inj h
          exact W.zret (v := q_31.1) (ty := .boolean) hx hb hr hz (fun t ht hW => qc_mk (congrArg (fun z => Outcome.returned (some (Value.int z.1))) hq) (by rw [ht]; exact ⟨σ, hI.nil, e4.trans (congrArg (fun z => z.2) hq), fr⟩)) hI.2.2 dX7_parseHead_34 hlocks
noncomputable def f_X7_addState (F : Nat) (G4 : Grp) (v0 : Nat) (v1 : Int32) : Option (Int32 × Grp) :=
  if (G4.1 v0 3) < 408 then ck (G4.1 v0 3) 408 (bn (gI G4 (v0 + 1) (G4.1 v0 3).toNatClampNeg v1) (fun G4_23 => ck (G4_23.1 v0 3) 408 (bn (gI G4_23 (v0 + 2) (G4_23.1 v0 3).toNatClampNeg (-1)) (fun G4_33 => ck (G4_33.1 v0 3) 408 (bn (gI G4_33 (v0 + 3) (G4_33.1 v0 3).toNatClampNeg (-1)) (fun G4_43 => bn (gI G4_43 v0 3 ((G4_43.1 v0 3) + 1)) (fun G4_51 => some (((G4_51.1 v0 3) - 1), G4_51)))))))) else some (407, G4)
def RM_X7_addState : Room := { frames := 0, cells := 0, slots := 0, locals := 0 }
abbrev W_X7_addState : List Nat := [4]
abbrev B_X7_addState (HB : Heap) (D : va_G) (y : Nat → ClassId) (n : Nat) (κ : Nat → Nat) (σ0 : St) (q : Int32 × Grp) : Heap → Prop := fun H => ∃ σ : St, IV HB D y n n κ σ [] H ∧ σ 4 = q.2 ∧ ∀ j, j ∉ W_X7_addState → σ j = σ0 j
set_option maxRecDepth 100000 in
set_option maxHeartbeats 4000000 in
theorem c_X7_addState (l : Launch) (HB : Heap) (D : va_G) (y : Nat → ClassId) (F n : Nat) (κ : Nat → Nat) (σ0 : St) (hN : N0 ≤ n) (v0 : Nat) (ha_v0 : v0 < n) (hk_v0 : κ v0 = 7) (v1 : Int32)  (G4 : Grp) (e4 : σ0 4 = G4) (q : Int32 × Grp) (h : f_X7_addState F G4 v0 v1 = some q) : MT l HB D y yX7_addState cX7_addState 2 (some .int) RM_X7_addState [.ref (HB.size + v0), .int v1] (IV HB D y n n κ σ0 []) (some (.int q.1)) (B_X7_addState HB D y n κ σ0 q) := by
  refine Met.ofW (cc := cX7_addState) (maxL := 2) (ret := (some .int)) (by decide) rfl ?_
  intro p e s m args below meth c s₁ BL hml hv
  obtain ⟨rfl, hI, hKK⟩ := hv
  have hx := BL.exec
  have hb := BL.bytes
  have hr := BL.returns
  have hts : ∀ w ∈ gtb, w.before _ s = true := fun w hw => atoms_spec BL.pre w (List.mem_cons_of_mem _ hw)
  have hml : c.maxLocals = 2 := hml
  have hown : s.vm.findClass RX7 = some m.cls := findClass_of_methodNamed BL.named
  have hlocks := BL.notSynchronized
  have hk0 := hI.1.2.2.2.2
  have hl := lv_entry ([.ref (HB.size + v0), .int v1]) (n := 2) (Nat.le_of_ble_eq_true rfl)
  rw [lg_entry_eq]
  generalize (lg_sl ([.ref (HB.size + v0), .int v1]) ++ List.replicate (2 - (lg_sl ([.ref (HB.size + v0), .int v1])).length) Slot.unset).toArray = ls at hl ⊢
  have hl : lv_has ls 2 [(0, .ref (HB.size + v0)), (1, .int v1)] := hl
  generalize hargs : ([.ref (HB.size + v0), .int v1] : List Value).toArray = args at *
  obtain ⟨σ, hI, e4, fr⟩ : ∃ σ : St, IV HB D y n n κ σ [] s.heap ∧ σ 4 = G4 ∧ ∀ j, j ∉ W_X7_addState → σ j = σ0 j := ⟨σ0, hI, e4, fun _ _ => rfl⟩
  show WX RM_X7_addState p l e s m args below meth c HB (some (.int q.1)) (B_X7_addState HB D y n κ σ0 q) s.heap [] (F0 m 0 ls [])
  generalize s.heap = H at hI ⊢
  unfold f_X7_addState at h
  obtain ⟨locs, hlocs⟩ : ∃ x : List Loc, x = [] := ⟨_, rfl⟩
  rw [← hlocs] at hI ⊢
  refine lv_aload_n hx hb dX7_addState_0 rfl (lv_at hl 0 rfl) ?_
  refine gt_X7_59 hx hb hts hown hKK hI e4 ha_v0 hk_v0 dX7_addState_1 ?_
  refine lv_sipush (v := 408) hx hb dX7_addState_4 (by decide) ?_
  refine lv_icmp_lt (tgt := 14) hx hb dX7_addState_7 (by decide) (fun hc => ?_) (fun hc => ?_)
  · replace h := ite_t hc h
    refine lv_aload_n hx hb dX7_addState_14 rfl (lv_at hl 0 rfl) ?_
    refine gf_X7_11 hx hb hts hown hKK hI ha_v0 hk_v0 dX7_addState_15 ?_
    refine lv_aload_n hx hb dX7_addState_18 rfl (lv_at hl 0 rfl) ?_
    refine gt_X7_59 hx hb hts hown hKK hI e4 ha_v0 hk_v0 dX7_addState_19 ?_
    refine lv_iload_n hx hb dX7_addState_22 rfl (lv_at hl 1 rfl) ?_
    obtain ⟨hin_, h⟩ := ck_e h
    obtain ⟨G4_23, qq, h⟩ := bn_e h
    refine sa_15 hx hb hKK hI e4 (ownF hI ha_v0 hk_v0 0 rfl).2.1 (ownF hI ha_v0 hk_v0 0 rfl).2.2 hin_ dX7_addState_23 (fun σ H locs hI ew ho => ?_)
    have e4 := ew.trans qq.symm
    have fr := frs fr ho (by decide)
    refine lv_aload_n hx hb dX7_addState_24 rfl (lv_at hl 0 rfl) ?_
    refine gf_X7_15 hx hb hts hown hKK hI ha_v0 hk_v0 dX7_addState_25 ?_
    refine lv_aload_n hx hb dX7_addState_28 rfl (lv_at hl 0 rfl) ?_
    refine gt_X7_59 hx hb hts hown hKK hI e4 ha_v0 hk_v0 dX7_addState_29 ?_
    refine lv_iconst (v := (-1)) hx hb dX7_addState_32 (by decide) ?_
    obtain ⟨hin_, h⟩ := ck_e h
    obtain ⟨G4_33, qq, h⟩ := bn_e h
    refine sa_15 hx hb hKK hI e4 (ownF hI ha_v0 hk_v0 1 rfl).2.1 (ownF hI ha_v0 hk_v0 1 rfl).2.2 hin_ dX7_addState_33 (fun σ H locs hI ew ho => ?_)
    have e4 := ew.trans qq.symm
    have fr := frs fr ho (by decide)
    refine lv_aload_n hx hb dX7_addState_34 rfl (lv_at hl 0 rfl) ?_
    refine gf_X7_18 hx hb hts hown hKK hI ha_v0 hk_v0 dX7_addState_35 ?_
    refine lv_aload_n hx hb dX7_addState_38 rfl (lv_at hl 0 rfl) ?_
    refine gt_X7_59 hx hb hts hown hKK hI e4 ha_v0 hk_v0 dX7_addState_39 ?_
    refine lv_iconst (v := (-1)) hx hb dX7_addState_42 (by decide) ?_
    obtain ⟨hin_, h⟩ := ck_e h
    obtain ⟨G4_43, qq, h⟩ := bn_e h
    refine sa_15 hx hb hKK hI e4 (ownF hI ha_v0 hk_v0 2 rfl).2.1 (ownF hI ha_v0 hk_v0 2 rfl).2.2 hin_ dX7_addState_43 (fun σ H locs hI ew ho => ?_)
    have e4 := ew.trans qq.symm
    have fr := frs fr ho (by decide)
    refine lv_aload_n hx hb dX7_addState_44 rfl (lv_at hl 0 rfl) ?_
    refine lv_dup hx hb dX7_addState_45 rfl ?_
    refine gt_X7_59 hx hb hts hown hKK hI e4 ha_v0 hk_v0 dX7_addState_46 ?_
    refine lv_iconst (v := 1) hx hb dX7_addState_49 (by decide) ?_
    refine lv_iadd hx hb dX7_addState_50 ?_
    obtain ⟨G4_51, qq, h⟩ := bn_e h
    refine pt_X7_59 hx hb hts hown hKK hI e4 ha_v0 hk_v0 dX7_addState_51 (fun σ H locs hI ew ho => ?_)
    have e4 := ew.trans qq.symm
    have fr := frs fr ho (by decide)
    refine lv_aload_n hx hb dX7_addState_54 rfl (lv_at hl 0 rfl) ?_
    refine gt_X7_59 hx hb hts hown hKK hI e4 ha_v0 hk_v0 dX7_addState_55 ?_
    refine lv_iconst (v := 1) hx hb dX7_addState_58 (by decide) ?_
    refine lv_isub hx hb dX7_addState_59 ?_
    have hq := Option.some.inj h
    exact W.iret (v := ((G4_51.1 v0 3) - 1)) hx hb hr (fun t ht hW => qc_mk (congrArg (fun z => Outcome.returned (some (Value.int z.1))) hq) (by rw [ht]; exact ⟨σ, hI.nil, e4.trans (congrArg (fun z => z.2) hq), fr⟩)) hI.2.2 dX7_addState_60 hlocks
  · replace h := ite_f hc h
    refine lv_sipush (v := 407) hx hb dX7_addState_10 (by decide) ?_
    have hq := Option.some.inj h
    exact W.iret (v := 407) hx hb hr (fun t ht hW => qc_mk (congrArg (fun z => Outcome.returned (some (Value.int z.1))) hq) (by rw [ht]; exact ⟨σ, hI.nil, e4.trans (congrArg (fun z => z.2) hq), fr⟩)) hI.2.2 dX7_addState_13 hlocks
noncomputable def f_X7_openRow (F : Nat) (G4 : Grp) (v0 : Nat) : Option (Grp) :=
  ob (f_X7_addState F G4 v0 0) (fun q_10 => ck (G4.1 v0 12) 7 (bn (gI (q_10.2) (v0 + 9) (G4.1 v0 12).toNatClampNeg (q_10.1)) (fun G4_13 => ck (G4_13.1 v0 12) 7 (bn (gI G4_13 v0 13 (G4_13.1 (v0 + 9) (G4_13.1 v0 12).toNatClampNeg)) (fun G4_24 => bn (gI G4_24 v0 14 (-1)) (fun G4_29 => some G4_29))))))
def RM_X7_openRow : Room := { frames := 1, cells := 0, slots := 0, locals := 21 }
abbrev W_X7_openRow : List Nat := [4]
abbrev B_X7_openRow (HB : Heap) (D : va_G) (y : Nat → ClassId) (n : Nat) (κ : Nat → Nat) (σ0 : St) (q : Grp) : Heap → Prop := fun H => ∃ σ : St, IV HB D y n n κ σ [] H ∧ σ 4 = q ∧ ∀ j, j ∉ W_X7_openRow → σ j = σ0 j
set_option maxRecDepth 100000 in
set_option maxHeartbeats 4000000 in
theorem c_X7_openRow (l : Launch) (HB : Heap) (D : va_G) (y : Nat → ClassId) (F n : Nat) (κ : Nat → Nat) (σ0 : St) (hN : N0 ≤ n) (v0 : Nat) (ha_v0 : v0 < n) (hk_v0 : κ v0 = 7) (G4 : Grp) (e4 : σ0 4 = G4) (q : Grp) (h : f_X7_openRow F G4 v0 = some q) : MT l HB D y yX7_openRow cX7_openRow 1 none RM_X7_openRow [.ref (HB.size + v0)] (IV HB D y n n κ σ0 []) none (B_X7_openRow HB D y n κ σ0 q) := by
  refine Met.ofW (cc := cX7_openRow) (maxL := 1) (ret := none) (by decide) rfl ?_
  intro p e s m args below meth c s₁ BL hml hv
  obtain ⟨rfl, hI, hKK⟩ := hv
  have hx := BL.exec
  have hb := BL.bytes
  have hr := BL.returns
  have hts : ∀ w ∈ gtb, w.before _ s = true := fun w hw => atoms_spec BL.pre w (List.mem_cons_of_mem _ hw)
  have hml : c.maxLocals = 1 := hml
  have hown : s.vm.findClass RX7 = some m.cls := findClass_of_methodNamed BL.named
  have hlocks := BL.notSynchronized
  have hk0 := hI.1.2.2.2.2
  have hl := lv_entry ([.ref (HB.size + v0)]) (n := 1) (Nat.le_of_ble_eq_true rfl)
  rw [lg_entry_eq]
  generalize (lg_sl ([.ref (HB.size + v0)]) ++ List.replicate (1 - (lg_sl ([.ref (HB.size + v0)])).length) Slot.unset).toArray = ls at hl ⊢
  have hl : lv_has ls 1 [(0, .ref (HB.size + v0))] := hl
  generalize hargs : ([.ref (HB.size + v0)] : List Value).toArray = args at *
  obtain ⟨σ, hI, e4, fr⟩ : ∃ σ : St, IV HB D y n n κ σ [] s.heap ∧ σ 4 = G4 ∧ ∀ j, j ∉ W_X7_openRow → σ j = σ0 j := ⟨σ0, hI, e4, fun _ _ => rfl⟩
  show WX RM_X7_openRow p l e s m args below meth c HB none (B_X7_openRow HB D y n κ σ0 q) s.heap [] (F0 m 0 ls [])
  generalize s.heap = H at hI ⊢
  unfold f_X7_openRow at h
  obtain ⟨locs, hlocs⟩ : ∃ x : List Loc, x = [] := ⟨_, rfl⟩
  rw [← hlocs] at hI ⊢
  refine lv_aload_n hx hb dX7_openRow_0 rfl (lv_at hl 0 rfl) ?_
  refine gf_X7_36 hx hb hts hown hKK hI ha_v0 hk_v0 dX7_openRow_1 ?_
  refine lv_aload_n hx hb dX7_openRow_4 rfl (lv_at hl 0 rfl) ?_
  refine gt_X7_87 hx hb hts hown hKK hI e4 ha_v0 hk_v0 dX7_openRow_5 ?_
  refine lv_aload_n hx hb dX7_openRow_8 rfl (lv_at hl 0 rfl) ?_
  refine lv_iconst (v := 0) hx hb dX7_openRow_9 (by decide) ?_
  obtain ⟨q_10, hq_10, h⟩ := ob_e h
  refine r_callV (As := [.int 0]) (rest := [.int (G4.1 v0 12), .ref (HB.size + (v0 + 9))]) hx hb hml hts hown (c_X7_addState l HB D y F n κ σ hN v0 ha_v0 hk_v0 0 G4 e4 q_10 hq_10) cal_X7_addState im_X7_addState se_X7_addState lm_X7_99 ⟨Nat.le_of_ble_eq_true rfl, Nat.le_of_ble_eq_true rfl⟩ hI.nil hKK (r_recv hKK hI (hE7 HB.size y) rfl ha_v0 hk_v0) rfl hl.1 hI.2.2 rfl (Nat.le_of_ble_eq_true rfl) dX7_openRow_10 ⟨Nat.le_of_ble_eq_true rfl, Nat.le_of_ble_eq_true rfl⟩ rfl rfl rfl (fun H locs hB hlo => ?_)
  obtain ⟨σ, hB, en4, ho⟩ := hB
  have hI := hB.re hlo
  have e4 := en4
  have fr := frc fr ho (by decide)
  obtain ⟨hin_, h⟩ := ck_e h
  obtain ⟨G4_13, qq, h⟩ := bn_e h
  refine sa_17 hx hb hKK hI e4 (ownF hI ha_v0 hk_v0 8 rfl).2.1 (ownF hI ha_v0 hk_v0 8 rfl).2.2 hin_ dX7_openRow_13 (fun σ H locs hI ew ho => ?_)
  have e4 := ew.trans qq.symm
  have fr := frs fr ho (by decide)
  refine lv_aload_n hx hb dX7_openRow_14 rfl (lv_at hl 0 rfl) ?_
  refine lv_aload_n hx hb dX7_openRow_15 rfl (lv_at hl 0 rfl) ?_
  refine gf_X7_36 hx hb hts hown hKK hI ha_v0 hk_v0 dX7_openRow_16 ?_
  refine lv_aload_n hx hb dX7_openRow_19 rfl (lv_at hl 0 rfl) ?_
  refine gt_X7_87 hx hb hts hown hKK hI e4 ha_v0 hk_v0 dX7_openRow_20 ?_
  obtain ⟨hin_, h⟩ := ck_e h
  refine la_17 hx hb hKK hI e4 (ownF hI ha_v0 hk_v0 8 rfl).2.1 (ownF hI ha_v0 hk_v0 8 rfl).2.2 hin_ dX7_openRow_23 ?_
  obtain ⟨G4_24, qq, h⟩ := bn_e h
  refine pt_X7_93 hx hb hts hown hKK hI e4 ha_v0 hk_v0 dX7_openRow_24 (fun σ H locs hI ew ho => ?_)
  have e4 := ew.trans qq.symm
  have fr := frs fr ho (by decide)
  refine lv_aload_n hx hb dX7_openRow_27 rfl (lv_at hl 0 rfl) ?_
  refine lv_iconst (v := (-1)) hx hb dX7_openRow_28 (by decide) ?_
  obtain ⟨G4_29, qq, h⟩ := bn_e h
  refine pt_X7_90 hx hb hts hown hKK hI e4 ha_v0 hk_v0 dX7_openRow_29 (fun σ H locs hI ew ho => ?_)
  have e4 := ew.trans qq.symm
  have fr := frs fr ho (by decide)
  have hq := Option.some.inj h
  exact W.vret hx hb hr (fun t ht hW => qc_mk (rfl) (by rw [ht]; exact ⟨σ, hI.nil, e4.trans (congrArg (fun z => z) hq), fr⟩)) hI.2.2 dX7_openRow_32 hlocks
