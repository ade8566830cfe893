noncomputable def f_X11_amiss (F : Nat) (G8 : Grp) (G9 : Grp) (G10 : Grp) (G13 : Grp) (v1 : Int32) : Option (Int32) :=
  ob (f_X11_within F v1 0 3599) (fun q_5 => if q_5 = 0 then some (-1) else ob (f_X6_cameAmiss F G8 G9 G10 G13 v1) (fun q_16 => some q_16))
def RM_X11_amiss : Room := { frames := 2, cells := 0, slots := 0, locals := 47 }
abbrev B_X11_amiss (HB : Heap) (D : va_G) (y : Nat → ClassId) (n : Nat) (κ : Nat → Nat) (σ : St) (q : Int32) : Heap → Prop := fun H => IV HB D y n n κ σ [] H
set_option maxRecDepth 100000 in
set_option maxHeartbeats 4000000 in
theorem c_X11_amiss (l : Launch) (HB : Heap) (D : va_G) (y : Nat → ClassId) (F n : Nat) (κ : Nat → Nat) (σ : St) (hN : N0 ≤ n) (v1 : Int32)  (G8 : Grp) (e8 : σ 8 = G8) (G9 : Grp) (e9 : σ 9 = G9) (G10 : Grp) (e10 : σ 10 = G10) (G13 : Grp) (e13 : σ 13 = G13) (q : Int32) (h : f_X11_amiss F G8 G9 G10 G13 v1 = some q) : MT l HB D y yX11_amiss cX11_amiss 2 (some .int) RM_X11_amiss [.ref (HB.size + 0), .int v1] (IV HB D y n n κ σ []) (some (.int q)) (B_X11_amiss HB D y n κ σ q) := by
  refine Met.ofW (cc := cX11_amiss) (maxL := 2) (ret := (some .int)) (by decide) rfl ?_
  intro p e s m args below meth c s₁ BL hml hv
  obtain ⟨rfl, hI, hKK⟩ := hv
  have hx := BL.exec
  have hb := BL.bytes
  have hr := BL.returns
  have hts : ∀ w ∈ gtb, w.before _ s = true := fun w hw => atoms_spec BL.pre w (List.mem_cons_of_mem _ hw)
  have hml : c.maxLocals = 2 := hml
  have hown : s.vm.findClass RX11 = some m.cls := findClass_of_methodNamed BL.named
  have hlocks := BL.notSynchronized
  have hk0 := hI.1.2.2.2.2
  have hl := lv_entry ([.ref (HB.size + 0), .int v1]) (n := 2) (Nat.le_of_ble_eq_true rfl)
  rw [lg_entry_eq]
  generalize (lg_sl ([.ref (HB.size + 0), .int v1]) ++ List.replicate (2 - (lg_sl ([.ref (HB.size + 0), .int v1])).length) Slot.unset).toArray = ls at hl ⊢
  have hl : lv_has ls 2 [(0, .ref (HB.size + 0)), (1, .int v1)] := hl
  generalize hargs : ([.ref (HB.size + 0), .int v1] : List Value).toArray = args at *
  show WX RM_X11_amiss p l e s m args below meth c HB (some (.int q)) (B_X11_amiss HB D y n κ σ q) s.heap [] (F0 m 0 ls [])
  generalize s.heap = H at hI ⊢
  unfold f_X11_amiss at h
  obtain ⟨locs, hlocs⟩ : ∃ x : List Loc, x = [] := ⟨_, rfl⟩
  rw [← hlocs] at hI ⊢
  refine lv_iload_n hx hb dX11_amiss_0 rfl (lv_at hl 1 rfl) ?_
  refine lv_iconst (v := 0) hx hb dX11_amiss_1 (by decide) ?_
  refine lv_sipush (v := 3599) hx hb dX11_amiss_2 (by decide) ?_
  obtain ⟨q_5, hq_5, h⟩ := ob_e h
  refine r_callS (As := [.int v1, .int 0, .int 3599]) (rest := []) hx hb hml hts hown (c_X11_within l HB D y F n κ σ hN v1 0 3599  q_5 hq_5) cal_X11_within st_X11_within lm_X11_80 ⟨Nat.le_of_ble_eq_true rfl, Nat.le_of_ble_eq_true rfl⟩ hI.nil hKK rfl hl.1 hI.2.2 rfl (Nat.le_of_ble_eq_true rfl) dX11_amiss_5 ⟨Nat.le_of_ble_eq_true rfl, Nat.le_of_ble_eq_true rfl⟩ rfl rfl rfl (fun H locs hB hlo => ?_)
  have hI := hB.re hlo
  refine lv_if_eq (tgt := 22) hx hb dX11_amiss_8 (by decide) (fun hc => ?_) (fun hc => ?_)
  · replace h := ite_t hc h
    refine lv_iconst (v := (-1)) hx hb dX11_amiss_22 (by decide) ?_
    have hq := Option.some.inj h
    exact W.iret (v := (-1)) hx hb hr (fun t ht hW => qc_mk (congrArg (fun z => Outcome.returned (some (Value.int z))) hq) (by rw [ht]; exact hI.nil)) hI.2.2 dX11_amiss_23 hlocks
  · replace h := ite_f hc h
    refine lv_aload_n hx hb dX11_amiss_11 rfl (lv_at hl 0 rfl) ?_
    refine gf_X11_46 hx hb hts hown hKK hI hN dX11_amiss_12 ?_
    refine lv_iload_n hx hb dX11_amiss_15 rfl (lv_at hl 1 rfl) ?_
    obtain ⟨q_16, hq_16, h⟩ := ob_e h
    refine r_callV (As := [.int v1]) (rest := []) hx hb hml hts hown (c_X6_cameAmiss l HB D y F n κ σ hN v1 G8 e8 G9 e9 G10 e10 G13 e13 q_16 hq_16) cal_X6_cameAmiss im_X6_cameAmiss se_X6_cameAmiss lm_X11_278 ⟨Nat.le_of_ble_eq_true rfl, Nat.le_of_ble_eq_true rfl⟩ hI.nil hKK (r_recv hKK hI (hE6 HB.size y) rfl (lc44 hN) (kc44 hk0)) rfl hl.1 hI.2.2 rfl (Nat.le_of_ble_eq_true rfl) dX11_amiss_16 ⟨Nat.le_of_ble_eq_true rfl, Nat.le_of_ble_eq_true rfl⟩ rfl rfl rfl (fun H locs hB hlo => ?_)
    have hI := hB.re hlo
    refine lv_goto (tgt := 23) hx hb dX11_amiss_19 (by decide) ?_
    have hq := Option.some.inj h
    exact W.iret (v := q_16) hx hb hr (fun t ht hW => qc_mk (congrArg (fun z => Outcome.returned (some (Value.int z))) hq) (by rw [ht]; exact hI.nil)) hI.2.2 dX11_amiss_23 hlocks
noncomputable def f_X11_silent_b34 (F : Nat)  (G1 : Grp) (G7 : Grp) (G9 : Grp) (s0 : Int32) : Option (Int32) :=
  some (((G1.1 0 0) / 30) - (s0 / 30))
noncomputable def f_X11_silent (F : Nat) (G1 : Grp) (G7 : Grp) (G9 : Grp) (v1 : Int32) : Option (Int32) :=
  ob (f_X3_openPairAt F G7 G9 v1) (fun q_5 => om q_5 (some (-1)) (fun t_5 => if (G9.1 t_5 8) = (-1) then f_X11_silent_b34 F  G1 G7 G9 (G9.1 t_5 3) else f_X11_silent_b34 F  G1 G7 G9 (G9.1 t_5 8)))
def RM_X11_silent : Room := { frames := 3, cells := 0, slots := 0, locals := 65 }
abbrev B_X11_silent (HB : Heap) (D : va_G) (y : Nat → ClassId) (n : Nat) (κ : Nat → Nat) (σ : St) (q : Int32) : Heap → Prop := fun H => IV HB D y n n κ σ [] H
set_option maxRecDepth 100000 in
set_option maxHeartbeats 4000000 in
theorem c_X11_silent (l : Launch) (HB : Heap) (D : va_G) (y : Nat → ClassId) (F n : Nat) (κ : Nat → Nat) (σ : St) (hN : N0 ≤ n) (v1 : Int32)  (G1 : Grp) (e1 : σ 1 = G1) (G7 : Grp) (e7 : σ 7 = G7) (G9 : Grp) (e9 : σ 9 = G9) (q : Int32) (h : f_X11_silent F G1 G7 G9 v1 = some q) : MT l HB D y yX11_silent cX11_silent 4 (some .int) RM_X11_silent [.ref (HB.size + 0), .int v1] (IV HB D y n n κ σ []) (some (.int q)) (B_X11_silent HB D y n κ σ q) := by
  refine Met.ofW (cc := cX11_silent) (maxL := 4) (ret := (some .int)) (by decide) rfl ?_
  intro p e s m args below meth c s₁ BL hml hv
  obtain ⟨rfl, hI, hKK⟩ := hv
  have hx := BL.exec
  have hb := BL.bytes
  have hr := BL.returns
  have hts : ∀ w ∈ gtb, w.before _ s = true := fun w hw => atoms_spec BL.pre w (List.mem_cons_of_mem _ hw)
  have hml : c.maxLocals = 4 := hml
  have hown : s.vm.findClass RX11 = some m.cls := findClass_of_methodNamed BL.named
  have hlocks := BL.notSynchronized
  have hk0 := hI.1.2.2.2.2
  have hl := lv_entry ([.ref (HB.size + 0), .int v1]) (n := 4) (Nat.le_of_ble_eq_true rfl)
  rw [lg_entry_eq]
  generalize (lg_sl ([.ref (HB.size + 0), .int v1]) ++ List.replicate (4 - (lg_sl ([.ref (HB.size + 0), .int v1])).length) Slot.unset).toArray = ls at hl ⊢
  have hl : lv_has ls 4 [(0, .ref (HB.size + 0)), (1, .int v1)] := hl
  generalize hargs : ([.ref (HB.size + 0), .int v1] : List Value).toArray = args at *
  have b34 : ∀ (H : Heap) (locs : List Loc) (ls : Array Slot) (G1 : Grp) (G7 : Grp) (G9 : Grp) (s0 : Int32) , IV HB D y n n κ σ locs H → σ 1 = G1 → σ 7 = G7 → σ 9 = G9 → lv_has ls 4 [(0, .ref (HB.size + 0))] → f_X11_silent_b34 F  G1 G7 G9 s0 = some q → WX RM_X11_silent p l e s m args below meth c HB (some (.int q)) (B_X11_silent HB D y n κ σ q) H locs (F0 m 34 ls [.int s0]) := by
    intro  H locs ls G1 G7 G9 s0 hI e1 e7 e9 hl h
    unfold f_X11_silent_b34 at h
    refine lv_istore_n (lv' := [(3, .int s0), (0, .ref (HB.size + 0))]) hx hb dX11_silent_34 rfl hl (by decide) rfl (fun ls hl => ?_)
    refine lv_aload_n hx hb dX11_silent_35 rfl (lv_at hl 1 rfl) ?_
    refine gt_X11_106 hx hb hts hown hKK hI e1 (lc0 hN) (kc0 hk0) dX11_silent_36 ?_
    refine lv_bipush (v := 30) hx hb dX11_silent_39 (by decide) ?_
    refine lv_idiv hx hb dX11_silent_41 (by decide) ?_
    refine lv_iload_n hx hb dX11_silent_42 rfl (lv_at hl 0 rfl) ?_
    refine lv_bipush (v := 30) hx hb dX11_silent_43 (by decide) ?_
    refine lv_idiv hx hb dX11_silent_45 (by decide) ?_
    refine lv_isub hx hb dX11_silent_46 ?_
    have hq := Option.some.inj h
    exact W.iret (v := (((G1.1 0 0) / 30) - (s0 / 30))) hx hb hr (fun t ht hW => qc_mk (congrArg (fun z => Outcome.returned (some (Value.int z))) hq) (by rw [ht]; exact hI.nil)) hI.2.2 dX11_silent_47 hlocks
  show WX RM_X11_silent p l e s m args below meth c HB (some (.int q)) (B_X11_silent HB D y n κ σ q) s.heap [] (F0 m 0 ls [])
  generalize s.heap = H at hI ⊢
  unfold f_X11_silent at h
  obtain ⟨locs, hlocs⟩ : ∃ x : List Loc, x = [] := ⟨_, rfl⟩
  rw [← hlocs] at hI ⊢
  refine lv_aload_n hx hb dX11_silent_0 rfl (lv_at hl 0 rfl) ?_
  refine gf_X11_37 hx hb hts hown hKK hI hN dX11_silent_1 ?_
  refine lv_iload_n hx hb dX11_silent_4 rfl (lv_at hl 1 rfl) ?_
  obtain ⟨q_5, hq_5, h⟩ := ob_e h
  refine r_callV (As := [.int v1]) (rest := []) hx hb hml hts hown (c_X3_openPairAt l HB D y F n κ σ hN v1 G7 e7 G9 e9 q_5 hq_5) cal_X3_openPairAt im_X3_openPairAt se_X3_openPairAt lm_X11_121 ⟨Nat.le_of_ble_eq_true rfl, Nat.le_of_ble_eq_true rfl⟩ hI.nil hKK (r_recv hKK hI (hE3 HB.size y) rfl (lc32 hN) (kc32 hk0)) rfl hl.1 hI.2.2 rfl (Nat.le_of_ble_eq_true rfl) dX11_silent_5 ⟨Nat.le_of_ble_eq_true rfl, Nat.le_of_ble_eq_true rfl⟩ rfl rfl rfl (fun H locs hB hlo => ?_)
  obtain ⟨hB, hf_5⟩ := hB
  have hI := hB.re hlo
  rcases om_e h with ⟨eo, h⟩ | ⟨t_5, eo, h⟩
  · refine topn eo ?_
    refine lv_astore_nN (lv' := [(2, .null), (0, .ref (HB.size + 0)), (1, .int v1)]) hx hb dX11_silent_8 rfl hl (by decide) rfl (fun ls hl => ?_)
    refine lv_aload_nN hx hb dX11_silent_9 rfl (lv_at hl 0 rfl) ?_
    refine lv_ifnonnullN hx hb dX11_silent_10 ?_
    refine lv_iconst (v := (-1)) hx hb dX11_silent_13 (by decide) ?_
    have hq := Option.some.inj h
    exact W.iret (v := (-1)) hx hb hr (fun t ht hW => qc_mk (congrArg (fun z => Outcome.returned (some (Value.int z))) hq) (by rw [ht]; exact hI.nil)) hI.2.2 dX11_silent_14 hlocks
  · refine topr eo ?_
    obtain ⟨ha_5, hk_5⟩ := hf_5 _ eo
    refine lv_astore_n (lv' := [(2, .ref (HB.size + t_5)), (0, .ref (HB.size + 0)), (1, .int v1)]) hx hb dX11_silent_8 rfl hl (by decide) rfl (fun ls hl => ?_)
    refine lv_aload_n hx hb dX11_silent_9 rfl (lv_at hl 0 rfl) ?_
    refine lv_ifnonnull (tgt := 15) hx hb dX11_silent_10 (by decide) ?_
    refine lv_aload_n hx hb dX11_silent_15 rfl (lv_at hl 0 rfl) ?_
    refine gt_X11_281 hx hb hts hown hKK hI e9 ha_5 hk_5 dX11_silent_16 ?_
    refine lv_iconst (v := (-1)) hx hb dX11_silent_19 (by decide) ?_
    refine lv_icmp_ne (tgt := 30) hx hb dX11_silent_20 (by decide) (fun hc => ?_) (fun hc => ?_)
    · replace h := ite_f hc h
      refine lv_aload_n hx hb dX11_silent_30 rfl (lv_at hl 0 rfl) ?_
      refine gt_X11_281 hx hb hts hown hKK hI e9 ha_5 hk_5 dX11_silent_31 ?_
      exact b34  H locs ls G1 G7 G9 (G9.1 t_5 8)  hI e1 e7 e9 (lv_sub hl [1] rfl) h
    · replace h := ite_t hc h
      refine lv_aload_n hx hb dX11_silent_23 rfl (lv_at hl 0 rfl) ?_
      refine gt_X11_284 hx hb hts hown hKK hI e9 ha_5 hk_5 dX11_silent_24 ?_
      refine lv_goto (tgt := 34) hx hb dX11_silent_27 (by decide) ?_
      exact b34  H locs ls G1 G7 G9 (G9.1 t_5 3)  hI e1 e7 e9 (lv_sub hl [1] rfl) h
noncomputable def f_X11_wish (F : Nat) (G6 : Grp) (G20 : Grp) (v1 : Int32) (v2 : Int32) (v3 : Int32) : Option (Int32 × Grp) :=
  ob (f_X3_hasGiver F G6 v1) (fun q_5 => if q_5 = 0 then some (0, G20) else ob (f_X11_within F v2 0 31) (fun q_15 => if q_15 = 0 then some (0, G20) else ob (f_X11_within F v3 0 63) (fun q_25 => if q_25 = 0 then some (0, G20) else ob (f_X10_tell F G20 v1 v2 v3) (fun q_40 => some (1, q_40)))))
def RM_X11_wish : Room := { frames := 2, cells := 0, slots := 0, locals := 43 }
abbrev W_X11_wish : List Nat := [20]
abbrev B_X11_wish (HB : Heap) (D : va_G) (y : Nat → ClassId) (n : Nat) (κ : Nat → Nat) (σ0 : St) (q : Int32 × Grp) : Heap → Prop := fun H => ∃ σ : St, IV HB D y n n κ σ [] H ∧ σ 20 = q.2 ∧ ∀ j, j ∉ W_X11_wish → σ j = σ0 j
set_option maxRecDepth 100000 in
set_option maxHeartbeats 4000000 in
theorem c_X11_wish (l : Launch) (HB : Heap) (D : va_G) (y : Nat → ClassId) (F n : Nat) (κ : Nat → Nat) (σ0 : St) (hN : N0 ≤ n) (v1 : Int32)  (v2 : Int32)  (v3 : Int32)  (G6 : Grp) (e6 : σ0 6 = G6) (G20 : Grp) (e20 : σ0 20 = G20) (q : Int32 × Grp) (h : f_X11_wish F G6 G20 v1 v2 v3 = some q) : MT l HB D y yX11_wish cX11_wish 4 (some .boolean) RM_X11_wish [.ref (HB.size + 0), .int v1, .int v2, .int v3] (IV HB D y n n κ σ0 []) (some (.int q.1)) (B_X11_wish HB D y n κ σ0 q) := by
  refine Met.ofW (cc := cX11_wish) (maxL := 4) (ret := (some .boolean)) (by decide) rfl ?_
  intro p e s m args below meth c s₁ BL hml hv
  obtain ⟨rfl, hI, hKK⟩ := hv
  have hx := BL.exec
  have hb := BL.bytes
  have hr := BL.returns
  have hts : ∀ w ∈ gtb, w.before _ s = true := fun w hw => atoms_spec BL.pre w (List.mem_cons_of_mem _ hw)
  have hml : c.maxLocals = 4 := hml
  have hown : s.vm.findClass RX11 = some m.cls := findClass_of_methodNamed BL.named
  have hlocks := BL.notSynchronized
  have hk0 := hI.1.2.2.2.2
  have hl := lv_entry ([.ref (HB.size + 0), .int v1, .int v2, .int v3]) (n := 4) (Nat.le_of_ble_eq_true rfl)
  rw [lg_entry_eq]
  generalize (lg_sl ([.ref (HB.size + 0), .int v1, .int v2, .int v3]) ++ List.replicate (4 - (lg_sl ([.ref (HB.size + 0), .int v1, .int v2, .int v3])).length) Slot.unset).toArray = ls at hl ⊢
  have hl : lv_has ls 4 [(0, .ref (HB.size + 0)), (1, .int v1), (2, .int v2), (3, .int v3)] := hl
  generalize hargs : ([.ref (HB.size + 0), .int v1, .int v2, .int v3] : List Value).toArray = args at *
  obtain ⟨σ, hI, e6, e20, fr⟩ : ∃ σ : St, IV HB D y n n κ σ [] s.heap ∧ σ 6 = G6 ∧ σ 20 = G20 ∧ ∀ j, j ∉ W_X11_wish → σ j = σ0 j := ⟨σ0, hI, e6, e20, fun _ _ => rfl⟩
  show WX RM_X11_wish p l e s m args below meth c HB (some (.int q.1)) (B_X11_wish HB D y n κ σ0 q) s.heap [] (F0 m 0 ls [])
  generalize s.heap = H at hI ⊢
  unfold f_X11_wish at h
  obtain ⟨locs, hlocs⟩ : ∃ x : List Loc, x = [] := ⟨_, rfl⟩
  rw [← hlocs] at hI ⊢
  refine lv_aload_n hx hb dX11_wish_0 rfl (lv_at hl 0 rfl) ?_
  refine gf_X11_37 hx hb hts hown hKK hI hN dX11_wish_1 ?_
  refine lv_iload_n hx hb dX11_wish_4 rfl (lv_at hl 1 rfl) ?_
  obtain ⟨q_5, hq_5, h⟩ := ob_e h
  refine r_callV (As := [.int v1]) (rest := []) hx hb hml hts hown (c_X3_hasGiver l HB D y F n κ σ hN v1 G6 e6 q_5 hq_5) cal_X3_hasGiver im_X3_hasGiver se_X3_hasGiver lm_X11_103 ⟨Nat.le_of_ble_eq_true rfl, Nat.le_of_ble_eq_true rfl⟩ hI.nil hKK (r_recv hKK hI (hE3 HB.size y) rfl (lc32 hN) (kc32 hk0)) rfl hl.1 hI.2.2 rfl (Nat.le_of_ble_eq_true rfl) dX11_wish_5 ⟨Nat.le_of_ble_eq_true rfl, Nat.le_of_ble_eq_true rfl⟩ rfl rfl rfl (fun H locs hB hlo => ?_)
  have hI := hB.re hlo
  refine lv_if_eq (tgt := 31) hx hb dX11_wish_8 (by decide) (fun hc => ?_) (fun hc => ?_)
  · replace h := ite_t hc h
    refine lv_iconst (v := 0) hx hb dX11_wish_31 (by decide) ?_
    have hq := Option.some.inj h
    exact W.zret (v := 0) (ty := .boolean) hx hb hr rfl (fun t ht hW => qc_mk (congrArg (fun z => Outcome.returned (some (Value.int z.1))) hq) (by rw [ht]; exact ⟨σ, hI.nil, e20.trans (congrArg (fun z => z.2) hq), fr⟩)) hI.2.2 dX11_wish_32 hlocks
  · replace h := ite_f hc h
    refine lv_iload_n hx hb dX11_wish_11 rfl (lv_at hl 2 rfl) ?_
    refine lv_iconst (v := 0) hx hb dX11_wish_12 (by decide) ?_
    refine lv_bipush (v := 31) hx hb dX11_wish_13 (by decide) ?_
    obtain ⟨q_15, hq_15, h⟩ := ob_e h
    refine r_callS (As := [.int v2, .int 0, .int 31]) (rest := []) hx hb hml hts hown (c_X11_within l HB D y F n κ σ hN v2 0 31  q_15 hq_15) cal_X11_within st_X11_within lm_X11_80 ⟨Nat.le_of_ble_eq_true rfl, Nat.le_of_ble_eq_true rfl⟩ hI.nil hKK rfl hl.1 hI.2.2 rfl (Nat.le_of_ble_eq_true rfl) dX11_wish_15 ⟨Nat.le_of_ble_eq_true rfl, Nat.le_of_ble_eq_true rfl⟩ rfl rfl rfl (fun H locs hB hlo => ?_)
    have hI := hB.re hlo
    refine lv_if_eq (tgt := 31) hx hb dX11_wish_18 (by decide) (fun hc => ?_) (fun hc => ?_)
    · replace h := ite_t hc h
      refine lv_iconst (v := 0) hx hb dX11_wish_31 (by decide) ?_
      have hq := Option.some.inj h
      exact W.zret (v := 0) (ty := .boolean) hx hb hr rfl (fun t ht hW => qc_mk (congrArg (fun z => Outcome.returned (some (Value.int z.1))) hq) (by rw [ht]; exact ⟨σ, hI.nil, e20.trans (congrArg (fun z => z.2) hq), fr⟩)) hI.2.2 dX11_wish_32 hlocks
    · replace h := ite_f hc h
      refine lv_iload_n hx hb dX11_wish_21 rfl (lv_at hl 3 rfl) ?_
      refine lv_iconst (v := 0) hx hb dX11_wish_22 (by decide) ?_
      refine lv_bipush (v := 63) hx hb dX11_wish_23 (by decide) ?_
      obtain ⟨q_25, hq_25, h⟩ := ob_e h
      refine r_callS (As := [.int v3, .int 0, .int 63]) (rest := []) hx hb hml hts hown (c_X11_within l HB D y F n κ σ hN v3 0 63  q_25 hq_25) cal_X11_within st_X11_within lm_X11_80 ⟨Nat.le_of_ble_eq_true rfl, Nat.le_of_ble_eq_true rfl⟩ hI.nil hKK rfl hl.1 hI.2.2 rfl (Nat.le_of_ble_eq_true rfl) dX11_wish_25 ⟨Nat.le_of_ble_eq_true rfl, Nat.le_of_ble_eq_true rfl⟩ rfl rfl rfl (fun H locs hB hlo => ?_)
      have hI := hB.re hlo
      refine lv_if_ne (tgt := 33) hx hb dX11_wish_28 (by decide) (fun hc => ?_) (fun hc => ?_)
      · replace h := ite_f hc h
        refine lv_aload_n hx hb dX11_wish_33 rfl (lv_at hl 0 rfl) ?_
        refine gf_X11_69 hx hb hts hown hKK hI hN dX11_wish_34 ?_
        refine lv_iload_n hx hb dX11_wish_37 rfl (lv_at hl 1 rfl) ?_
        refine lv_iload_n hx hb dX11_wish_38 rfl (lv_at hl 2 rfl) ?_
        refine lv_iload_n hx hb dX11_wish_39 rfl (lv_at hl 3 rfl) ?_
        obtain ⟨q_40, hq_40, h⟩ := ob_e h
        refine r_callV (As := [.int v1, .int v2, .int v3]) (rest := []) hx hb hml hts hown (c_X10_tell l HB D y F n κ σ hN v1 v2 v3 G20 e20 q_40 hq_40) cal_X10_tell im_X10_tell se_X10_tell lm_X11_287 ⟨Nat.le_of_ble_eq_true rfl, Nat.le_of_ble_eq_true rfl⟩ hI.nil hKK (r_recv hKK hI (hE10 HB.size y) rfl (lc78 hN) (kc78 hk0)) rfl hl.1 hI.2.2 rfl (Nat.le_of_ble_eq_true rfl) dX11_wish_40 ⟨Nat.le_of_ble_eq_true rfl, Nat.le_of_ble_eq_true rfl⟩ rfl rfl rfl (fun H locs hB hlo => ?_)
        obtain ⟨σ, hB, en20, ho⟩ := hB
        have hI := hB.re hlo
        have e20 := en20
        have e6 := (ho 6 (ni rfl)).trans e6
        have fr := frc fr ho (by decide)
        refine lv_iconst (v := 1) hx hb dX11_wish_43 (by decide) ?_
        have hq := Option.some.inj h
        exact W.zret (v := 1) (ty := .boolean) hx hb hr rfl (fun t ht hW => qc_mk (congrArg (fun z => Outcome.returned (some (Value.int z.1))) hq) (by rw [ht]; exact ⟨σ, hI.nil, e20.trans (congrArg (fun z => z.2) hq), fr⟩)) hI.2.2 dX11_wish_44 hlocks
      · replace h := ite_t hc h
        refine lv_iconst (v := 0) hx hb dX11_wish_31 (by decide) ?_
        have hq := Option.some.inj h
        exact W.zret (v := 0) (ty := .boolean) hx hb hr rfl (fun t ht hW => qc_mk (congrArg (fun z => Outcome.returned (some (Value.int z.1))) hq) (by rw [ht]; exact ⟨σ, hI.nil, e20.trans (congrArg (fun z => z.2) hq), fr⟩)) hI.2.2 dX11_wish_32 hlocks
noncomputable def f_X11_trial (F : Nat) (G6 : Grp) (G22 : Grp) (v1 : Int32) (v2 : Int32) : Option (Int32 × Grp) :=
  ob (f_X11_within F v1 0 ((1 <<< ((G6.1 32 5) &&& 31)) - 1)) (fun q_13 => if q_13 = 0 then some (0, G22) else if (v2 &&& (v1 ^^^ (-1))) = 0 then ob (f_X8_begin F G22 v1 v2) (fun q_37 => some (1, q_37)) else some (0, G22))
def RM_X11_trial : Room := { frames := 1, cells := 0, slots := 0, locals := 23 }
abbrev W_X11_trial : List Nat := [22]
abbrev B_X11_trial (HB : Heap) (D : va_G) (y : Nat → ClassId) (n : Nat) (κ : Nat → Nat) (σ0 : St) (q : Int32 × Grp) : Heap → Prop := fun H => ∃ σ : St, IV HB D y n n κ σ [] H ∧ σ 22 = q.2 ∧ ∀ j, j ∉ W_X11_trial → σ j = σ0 j
set_option maxRecDepth 100000 in
set_option maxHeartbeats 4000000 in
theorem c_X11_trial (l : Launch) (HB : Heap) (D : va_G) (y : Nat → ClassId) (F n : Nat) (κ : Nat → Nat) (σ0 : St) (hN : N0 ≤ n) (v1 : Int32)  (v2 : Int32)  (G6 : Grp) (e6 : σ0 6 = G6) (G22 : Grp) (e22 : σ0 22 = G22) (q : Int32 × Grp) (h : f_X11_trial F G6 G22 v1 v2 = some q) : MT l HB D y yX11_trial cX11_trial 4 (some .boolean) RM_X11_trial [.ref (HB.size + 0), .int v1, .int v2] (IV HB D y n n κ σ0 []) (some (.int q.1)) (B_X11_trial HB D y n κ σ0 q) := by
  refine Met.ofW (cc := cX11_trial) (maxL := 4) (ret := (some .boolean)) (by decide) rfl ?_
  intro p e s m args below meth c s₁ BL hml hv
  obtain ⟨rfl, hI, hKK⟩ := hv
  have hx := BL.exec
  have hb := BL.bytes
  have hr := BL.returns
  have hts : ∀ w ∈ gtb, w.before _ s = true := fun w hw => atoms_spec BL.pre w (List.mem_cons_of_mem _ hw)
  have hml : c.maxLocals = 4 := hml
  have hown : s.vm.findClass RX11 = some m.cls := findClass_of_methodNamed BL.named
  have hlocks := BL.notSynchronized
  have hk0 := hI.1.2.2.2.2
  have hl := lv_entry ([.ref (HB.size + 0), .int v1, .int v2]) (n := 4) (Nat.le_of_ble_eq_true rfl)
  rw [lg_entry_eq]
  generalize (lg_sl ([.ref (HB.size + 0), .int v1, .int v2]) ++ List.replicate (4 - (lg_sl ([.ref (HB.size + 0), .int v1, .int v2])).length) Slot.unset).toArray = ls at hl ⊢
  have hl : lv_has ls 4 [(0, .ref (HB.size + 0)), (1, .int v1), (2, .int v2)] := hl
  generalize hargs : ([.ref (HB.size + 0), .int v1, .int v2] : List Value).toArray = args at *
  obtain ⟨σ, hI, e6, e22, fr⟩ : ∃ σ : St, IV HB D y n n κ σ [] s.heap ∧ σ 6 = G6 ∧ σ 22 = G22 ∧ ∀ j, j ∉ W_X11_trial → σ j = σ0 j := ⟨σ0, hI, e6, e22, fun _ _ => rfl⟩
  show WX RM_X11_trial p l e s m args below meth c HB (some (.int q.1)) (B_X11_trial HB D y n κ σ0 q) s.heap [] (F0 m 0 ls [])
  generalize s.heap = H at hI ⊢
  unfold f_X11_trial at h
  obtain ⟨locs, hlocs⟩ : ∃ x : List Loc, x = [] := ⟨_, rfl⟩
  rw [← hlocs] at hI ⊢
  refine lv_iload_n hx hb dX11_trial_0 rfl (lv_at hl 1 rfl) ?_
  refine lv_iconst (v := 0) hx hb dX11_trial_1 (by decide) ?_
  refine lv_iconst (v := 1) hx hb dX11_trial_2 (by decide) ?_
  refine lv_aload_n hx hb dX11_trial_3 rfl (lv_at hl 0 rfl) ?_
  refine gf_X11_37 hx hb hts hown hKK hI hN dX11_trial_4 ?_
  refine gt_X11_293 hx hb hts hown hKK hI e6 (lc32 hN) (kc32 hk0) dX11_trial_7 ?_
  refine lv_ishl hx hb dX11_trial_10 ?_
  refine lv_iconst (v := 1) hx hb dX11_trial_11 (by decide) ?_
  refine lv_isub hx hb dX11_trial_12 ?_
  obtain ⟨q_13, hq_13, h⟩ := ob_e h
  refine r_callS (As := [.int v1, .int 0, .int ((1 <<< ((G6.1 32 5) &&& 31)) - 1)]) (rest := []) hx hb hml hts hown (c_X11_within l HB D y F n κ σ hN v1 0 ((1 <<< ((G6.1 32 5) &&& 31)) - 1)  q_13 hq_13) cal_X11_within st_X11_within lm_X11_80 ⟨Nat.le_of_ble_eq_true rfl, Nat.le_of_ble_eq_true rfl⟩ hI.nil hKK rfl hl.1 hI.2.2 rfl (Nat.le_of_ble_eq_true rfl) dX11_trial_13 ⟨Nat.le_of_ble_eq_true rfl, Nat.le_of_ble_eq_true rfl⟩ rfl rfl rfl (fun H locs hB hlo => ?_)
  have hI := hB.re hlo
  refine lv_istore_n (lv' := [(3, .int q_13), (0, .ref (HB.size + 0)), (1, .int v1), (2, .int v2)]) hx hb dX11_trial_16 rfl hl (by decide) rfl (fun ls hl => ?_)
  refine lv_iload_n hx hb dX11_trial_17 rfl (lv_at hl 0 rfl) ?_
  refine lv_if_eq (tgt := 29) hx hb dX11_trial_18 (by decide) (fun hc => ?_) (fun hc => ?_)
  · replace h := ite_t hc h
    refine lv_iconst (v := 0) hx hb dX11_trial_29 (by decide) ?_
    have hq := Option.some.inj h
    exact W.zret (v := 0) (ty := .boolean) hx hb hr rfl (fun t ht hW => qc_mk (congrArg (fun z => Outcome.returned (some (Value.int z.1))) hq) (by rw [ht]; exact ⟨σ, hI.nil, e22.trans (congrArg (fun z => z.2) hq), fr⟩)) hI.2.2 dX11_trial_30 hlocks
  · replace h := ite_f hc h
    refine lv_iload_n hx hb dX11_trial_21 rfl (lv_at hl 3 rfl) ?_
    refine lv_iload_n hx hb dX11_trial_22 rfl (lv_at hl 2 rfl) ?_
    refine lv_iconst (v := (-1)) hx hb dX11_trial_23 (by decide) ?_
    refine lv_ixor hx hb dX11_trial_24 ?_
    refine lv_iand hx hb dX11_trial_25 ?_
    refine lv_if_eq (tgt := 31) hx hb dX11_trial_26 (by decide) (fun hc => ?_) (fun hc => ?_)
    · replace h := ite_t hc h
      refine lv_aload_n hx hb dX11_trial_31 rfl (lv_at hl 1 rfl) ?_
      refine gf_X11_76 hx hb hts hown hKK hI hN dX11_trial_32 ?_
      refine lv_iload_n hx hb dX11_trial_35 rfl (lv_at hl 2 rfl) ?_
      refine lv_iload_n hx hb dX11_trial_36 rfl (lv_at hl 3 rfl) ?_
      obtain ⟨q_37, hq_37, h⟩ := ob_e h
      refine r_callV (As := [.int v1, .int v2]) (rest := []) hx hb hml hts hown (c_X8_begin l HB D y F n κ σ hN v1 v2 G22 e22 q_37 hq_37) cal_X8_begin im_X8_begin se_X8_begin lm_X11_296 ⟨Nat.le_of_ble_eq_true rfl, Nat.le_of_ble_eq_true rfl⟩ hI.nil hKK (r_recv hKK hI (hE8 HB.size y) rfl (lc89 hN) (kc89 hk0)) rfl hl.1 hI.2.2 rfl (Nat.le_of_ble_eq_true rfl) dX11_trial_37 ⟨Nat.le_of_ble_eq_true rfl, Nat.le_of_ble_eq_true rfl⟩ rfl rfl rfl (fun H locs hB hlo => ?_)
      obtain ⟨σ, hB, en22, ho⟩ := hB
      have hI := hB.re hlo
      have e22 := en22
      have e6 := (ho 6 (ni rfl)).trans e6
      have fr := frc fr ho (by decide)
      refine lv_iconst (v := 1) hx hb dX11_trial_40 (by decide) ?_
      have hq := Option.some.inj h
      exact W.zret (v := 1) (ty := .boolean) hx hb hr rfl (fun t ht hW => qc_mk (congrArg (fun z => Outcome.returned (some (Value.int z.1))) hq) (by rw [ht]; exact ⟨σ, hI.nil, e22.trans (congrArg (fun z => z.2) hq), fr⟩)) hI.2.2 dX11_trial_41 hlocks
    · replace h := ite_f hc h
      refine lv_iconst (v := 0) hx hb dX11_trial_29 (by decide) ?_
      have hq := Option.some.inj h
      exact W.zret (v := 0) (ty := .boolean) hx hb hr rfl (fun t ht hW => qc_mk (congrArg (fun z => Outcome.returned (some (Value.int z.1))) hq) (by rw [ht]; exact ⟨σ, hI.nil, e22.trans (congrArg (fun z => z.2) hq), fr⟩)) hI.2.2 dX11_trial_30 hlocks
noncomputable def f_X11_outcome (F : Nat) (G22 : Grp) (v1 : Int32) (v2 : Int32) : Option (Int32 × Grp) :=
  ob (f_X11_within F v2 (-1) 999) (fun q_5 => if q_5 = 0 then some (0, G22) else ob (f_X8_isOf F G22 v1) (fun q_16 => if q_16 = 0 then some (0, G22) else ck v1 16 (bn (gI G22 90 v1.toNatClampNeg v2) (fun G22_33 => some (1, G22_33)))))
def RM_X11_outcome : Room := { frames := 2, cells := 0, slots := 0, locals := 43 }
abbrev W_X11_outcome : List Nat := [22]
abbrev B_X11_outcome (HB : Heap) (D : va_G) (y : Nat → ClassId) (n : Nat) (κ : Nat → Nat) (σ0 : St) (q : Int32 × Grp) : Heap → Prop := fun H => ∃ σ : St, IV HB D y n n κ σ [] H ∧ σ 22 = q.2 ∧ ∀ j, j ∉ W_X11_outcome → σ j = σ0 j
set_option maxRecDepth 100000 in
set_option maxHeartbeats 4000000 in
theorem c_X11_outcome (l : Launch) (HB : Heap) (D : va_G) (y : Nat → ClassId) (F n : Nat) (κ : Nat → Nat) (σ0 : St) (hN : N0 ≤ n) (v1 : Int32)  (v2 : Int32)  (G22 : Grp) (e22 : σ0 22 = G22) (q : Int32 × Grp) (h : f_X11_outcome F G22 v1 v2 = some q) : MT l HB D y yX11_outcome cX11_outcome 3 (some .boolean) RM_X11_outcome [.ref (HB.size + 0), .int v1, .int v2] (IV HB D y n n κ σ0 []) (some (.int q.1)) (B_X11_outcome HB D y n κ σ0 q) := by
  refine Met.ofW (cc := cX11_outcome) (maxL := 3) (ret := (some .boolean)) (by decide) rfl ?_
  intro p e s m args below meth c s₁ BL hml hv
  obtain ⟨rfl, hI, hKK⟩ := hv
  have hx := BL.exec
  have hb := BL.bytes
  have hr := BL.returns
  have hts : ∀ w ∈ gtb, w.before _ s = true := fun w hw => atoms_spec BL.pre w (List.mem_cons_of_mem _ hw)
  have hml : c.maxLocals = 3 := hml
  have hown : s.vm.findClass RX11 = some m.cls := findClass_of_methodNamed BL.named
  have hlocks := BL.notSynchronized
  have hk0 := hI.1.2.2.2.2
  have hl := lv_entry ([.ref (HB.size + 0), .int v1, .int v2]) (n := 3) (Nat.le_of_ble_eq_true rfl)
  rw [lg_entry_eq]
  generalize (lg_sl ([.ref (HB.size + 0), .int v1, .int v2]) ++ List.replicate (3 - (lg_sl ([.ref (HB.size + 0), .int v1, .int v2])).length) Slot.unset).toArray = ls at hl ⊢
  have hl : lv_has ls 3 [(0, .ref (HB.size + 0)), (1, .int v1), (2, .int v2)] := hl
  generalize hargs : ([.ref (HB.size + 0), .int v1, .int v2] : List Value).toArray = args at *
  obtain ⟨σ, hI, e22, fr⟩ : ∃ σ : St, IV HB D y n n κ σ [] s.heap ∧ σ 22 = G22 ∧ ∀ j, j ∉ W_X11_outcome → σ j = σ0 j := ⟨σ0, hI, e22, fun _ _ => rfl⟩
  show WX RM_X11_outcome p l e s m args below meth c HB (some (.int q.1)) (B_X11_outcome HB D y n κ σ0 q) s.heap [] (F0 m 0 ls [])
  generalize s.heap = H at hI ⊢
  unfold f_X11_outcome at h
  obtain ⟨locs, hlocs⟩ : ∃ x : List Loc, x = [] := ⟨_, rfl⟩
  rw [← hlocs] at hI ⊢
  refine lv_iload_n hx hb dX11_outcome_0 rfl (lv_at hl 2 rfl) ?_
  refine lv_iconst (v := (-1)) hx hb dX11_outcome_1 (by decide) ?_
  refine lv_sipush (v := 999) hx hb dX11_outcome_2 (by decide) ?_
  obtain ⟨q_5, hq_5, h⟩ := ob_e h
  refine r_callS (As := [.int v2, .int (-1), .int 999]) (rest := []) hx hb hml hts hown (c_X11_within l HB D y F n κ σ hN v2 (-1) 999  q_5 hq_5) cal_X11_within st_X11_within lm_X11_80 ⟨Nat.le_of_ble_eq_true rfl, Nat.le_of_ble_eq_true rfl⟩ hI.nil hKK rfl hl.1 hI.2.2 rfl (Nat.le_of_ble_eq_true rfl) dX11_outcome_5 ⟨Nat.le_of_ble_eq_true rfl, Nat.le_of_ble_eq_true rfl⟩ rfl rfl rfl (fun H locs hB hlo => ?_)
  have hI := hB.re hlo
  refine lv_if_eq (tgt := 22) hx hb dX11_outcome_8 (by decide) (fun hc => ?_) (fun hc => ?_)
  · replace h := ite_t hc h
    refine lv_iconst (v := 0) hx hb dX11_outcome_22 (by decide) ?_
    have hq := Option.some.inj h
    exact W.zret (v := 0) (ty := .boolean) hx hb hr rfl (fun t ht hW => qc_mk (congrArg (fun z => Outcome.returned (some (Value.int z.1))) hq) (by rw [ht]; exact ⟨σ, hI.nil, e22.trans (congrArg (fun z => z.2) hq), fr⟩)) hI.2.2 dX11_outcome_23 hlocks
  · replace h := ite_f hc h
    refine lv_aload_n hx hb dX11_outcome_11 rfl (lv_at hl 0 rfl) ?_
    refine gf_X11_76 hx hb hts hown hKK hI hN dX11_outcome_12 ?_
    refine lv_iload_n hx hb dX11_outcome_15 rfl (lv_at hl 1 rfl) ?_
    obtain ⟨q_16, hq_16, h⟩ := ob_e h
    refine r_callV (As := [.int v1]) (rest := []) hx hb hml hts hown (c_X8_isOf l HB D y F n κ σ hN v1 G22 e22 q_16 hq_16) cal_X8_isOf im_X8_isOf se_X8_isOf lm_X11_299 ⟨Nat.le_of_ble_eq_true rfl, Nat.le_of_ble_eq_true rfl⟩ hI.nil hKK (r_recv hKK hI (hE8 HB.size y) rfl (lc89 hN) (kc89 hk0)) rfl hl.1 hI.2.2 rfl (Nat.le_of_ble_eq_true rfl) dX11_outcome_16 ⟨Nat.le_of_ble_eq_true rfl, Nat.le_of_ble_eq_true rfl⟩ rfl rfl rfl (fun H locs hB hlo => ?_)
    have hI := hB.re hlo
    refine lv_if_ne (tgt := 24) hx hb dX11_outcome_19 (by decide) (fun hc => ?_) (fun hc => ?_)
    · replace h := ite_f hc h
      refine lv_aload_n hx hb dX11_outcome_24 rfl (lv_at hl 0 rfl) ?_
      refine gf_X11_76 hx hb hts hown hKK hI hN dX11_outcome_25 ?_
      refine gf_X11_302 hx hb hts hown hKK hI hN dX11_outcome_28 ?_
      refine lv_iload_n hx hb dX11_outcome_31 rfl (lv_at hl 1 rfl) ?_
      refine lv_iload_n hx hb dX11_outcome_32 rfl (lv_at hl 2 rfl) ?_
      obtain ⟨hin_, h⟩ := ck_e h
      obtain ⟨G22_33, qq, h⟩ := bn_e h
      refine sa_41 hx hb hKK hI e22 (lc90 hN) (kc90 hk0) hin_ dX11_outcome_33 (fun σ H locs hI ew ho => ?_)
      have e22 := ew.trans qq.symm
      have fr := frs fr ho (by decide)
      refine lv_iconst (v := 1) hx hb dX11_outcome_34 (by decide) ?_
      have hq := Option.some.inj h
      exact W.zret (v := 1) (ty := .boolean) hx hb hr rfl (fun t ht hW => qc_mk (congrArg (fun z => Outcome.returned (some (Value.int z.1))) hq) (by rw [ht]; exact ⟨σ, hI.nil, e22.trans (congrArg (fun z => z.2) hq), fr⟩)) hI.2.2 dX11_outcome_35 hlocks
    · replace h := ite_t hc h
      refine lv_iconst (v := 0) hx hb dX11_outcome_22 (by decide) ?_
      have hq := Option.some.inj h
      exact W.zret (v := 0) (ty := .boolean) hx hb hr rfl (fun t ht hW => qc_mk (congrArg (fun z => Outcome.returned (some (Value.int z.1))) hq) (by rw [ht]; exact ⟨σ, hI.nil, e22.trans (congrArg (fun z => z.2) hq), fr⟩)) hI.2.2 dX11_outcome_23 hlocks
noncomputable def f_X11_doubt (F : Nat) (G22 : Grp) (v1 : Int32) : Option (Int32) :=
  if v1 = 0 then ob (f_X8_ways F G22 1) (fun q_33 => some q_33) else if v1 = 1 then ob (f_X8_ways F G22 0) (fun q_42 => some q_42) else if v1 = 2 then ob (f_X8_ways F G22 1) (fun q_53 => ob (f_X8_ways F G22 0) (fun q_62 => if q_62 < (20 * q_53) then some 0 else some 1)) else some (-1)
def RM_X11_doubt : Room := { frames := 4, cells := 0, slots := 0, locals := 91 }
abbrev B_X11_doubt (HB : Heap) (D : va_G) (y : Nat → ClassId) (n : Nat) (κ : Nat → Nat) (σ : St) (q : Int32) : Heap → Prop := fun H => IV HB D y n n κ σ [] H
set_option maxRecDepth 100000 in
set_option maxHeartbeats 4000000 in
theorem c_X11_doubt (l : Launch) (HB : Heap) (D : va_G) (y : Nat → ClassId) (F n : Nat) (κ : Nat → Nat) (σ : St) (hN : N0 ≤ n) (v1 : Int32)  (G22 : Grp) (e22 : σ 22 = G22) (q : Int32) (h : f_X11_doubt F G22 v1 = some q) : MT l HB D y yX11_doubt cX11_doubt 2 (some .int) RM_X11_doubt [.ref (HB.size + 0), .int v1] (IV HB D y n n κ σ []) (some (.int q)) (B_X11_doubt HB D y n κ σ q) := by
  refine Met.ofW (cc := cX11_doubt) (maxL := 2) (ret := (some .int)) (by decide) rfl ?_
  intro p e s m args below meth c s₁ BL hml hv
  obtain ⟨rfl, hI, hKK⟩ := hv
  have hx := BL.exec
  have hb := BL.bytes
  have hr := BL.returns
  have hts : ∀ w ∈ gtb, w.before _ s = true := fun w hw => atoms_spec BL.pre w (List.mem_cons_of_mem _ hw)
  have hml : c.maxLocals = 2 := hml
  have hown : s.vm.findClass RX11 = some m.cls := findClass_of_methodNamed BL.named
  have hlocks := BL.notSynchronized
  have hk0 := hI.1.2.2.2.2
  have hl := lv_entry ([.ref (HB.size + 0), .int v1]) (n := 2) (Nat.le_of_ble_eq_true rfl)
  rw [lg_entry_eq]
  generalize (lg_sl ([.ref (HB.size + 0), .int v1]) ++ List.replicate (2 - (lg_sl ([.ref (HB.size + 0), .int v1])).length) Slot.unset).toArray = ls at hl ⊢
  have hl : lv_has ls 2 [(0, .ref (HB.size + 0)), (1, .int v1)] := hl
  generalize hargs : ([.ref (HB.size + 0), .int v1] : List Value).toArray = args at *
  show WX RM_X11_doubt p l e s m args below meth c HB (some (.int q)) (B_X11_doubt HB D y n κ σ q) s.heap [] (F0 m 0 ls [])
  generalize s.heap = H at hI ⊢
  unfold f_X11_doubt at h
  obtain ⟨locs, hlocs⟩ : ∃ x : List Loc, x = [] := ⟨_, rfl⟩
  rw [← hlocs] at hI ⊢
  refine lv_iload_n hx hb dX11_doubt_0 rfl (lv_at hl 1 rfl) ?_
  by_cases hc0 : v1 = 0
  · replace h := ite_t hc0 h
    refine lv_tableIn (off := 27) (tgt := 28) hx hb dX11_doubt_1 (by rw [hc0]; decide) (by rw [hc0]; decide) (by rw [hc0]; decide) (by decide) ?_
    refine lv_aload_n hx hb dX11_doubt_28 rfl (lv_at hl 0 rfl) ?_
    refine gf_X11_76 hx hb hts hown hKK hI hN dX11_doubt_29 ?_
    refine lv_iconst (v := 1) hx hb dX11_doubt_32 (by decide) ?_
    obtain ⟨q_33, hq_33, h⟩ := ob_e h
    refine r_callV (As := [.int 1]) (rest := []) hx hb hml hts hown (c_X8_ways l HB D y F n κ σ hN 1 G22 e22 q_33 hq_33) cal_X8_ways im_X8_ways se_X8_ways lm_X11_305 ⟨Nat.le_of_ble_eq_true rfl, Nat.le_of_ble_eq_true rfl⟩ hI.nil hKK (r_recv hKK hI (hE8 HB.size y) rfl (lc89 hN) (kc89 hk0)) rfl hl.1 hI.2.2 rfl (Nat.le_of_ble_eq_true rfl) dX11_doubt_33 ⟨Nat.le_of_ble_eq_true rfl, Nat.le_of_ble_eq_true rfl⟩ rfl rfl rfl (fun H locs hB hlo => ?_)
    have hI := hB.re hlo
    have hq := Option.some.inj h
    exact W.iret (v := q_33) hx hb hr (fun t ht hW => qc_mk (congrArg (fun z => Outcome.returned (some (Value.int z))) hq) (by rw [ht]; exact hI.nil)) hI.2.2 dX11_doubt_36 hlocks
  · replace h := ite_f hc0 h
    by_cases hc1 : v1 = 1
    · replace h := ite_t hc1 h
      refine lv_tableIn (off := 36) (tgt := 37) hx hb dX11_doubt_1 (by rw [hc1]; decide) (by rw [hc1]; decide) (by rw [hc1]; decide) (by decide) ?_
      refine lv_aload_n hx hb dX11_doubt_37 rfl (lv_at hl 0 rfl) ?_
      refine gf_X11_76 hx hb hts hown hKK hI hN dX11_doubt_38 ?_
      refine lv_iconst (v := 0) hx hb dX11_doubt_41 (by decide) ?_
      obtain ⟨q_42, hq_42, h⟩ := ob_e h
      refine r_callV (As := [.int 0]) (rest := []) hx hb hml hts hown (c_X8_ways l HB D y F n κ σ hN 0 G22 e22 q_42 hq_42) cal_X8_ways im_X8_ways se_X8_ways lm_X11_305 ⟨Nat.le_of_ble_eq_true rfl, Nat.le_of_ble_eq_true rfl⟩ hI.nil hKK (r_recv hKK hI (hE8 HB.size y) rfl (lc89 hN) (kc89 hk0)) rfl hl.1 hI.2.2 rfl (Nat.le_of_ble_eq_true rfl) dX11_doubt_42 ⟨Nat.le_of_ble_eq_true rfl, Nat.le_of_ble_eq_true rfl⟩ rfl rfl rfl (fun H locs hB hlo => ?_)
      have hI := hB.re hlo
      have hq := Option.some.inj h
      exact W.iret (v := q_42) hx hb hr (fun t ht hW => qc_mk (congrArg (fun z => Outcome.returned (some (Value.int z))) hq) (by rw [ht]; exact hI.nil)) hI.2.2 dX11_doubt_45 hlocks
    · replace h := ite_f hc1 h
      by_cases hc2 : v1 = 2
      · replace h := ite_t hc2 h
        refine lv_tableIn (off := 45) (tgt := 46) hx hb dX11_doubt_1 (by rw [hc2]; decide) (by rw [hc2]; decide) (by rw [hc2]; decide) (by decide) ?_
        refine lv_bipush (v := 20) hx hb dX11_doubt_46 (by decide) ?_
        refine lv_aload_n hx hb dX11_doubt_48 rfl (lv_at hl 0 rfl) ?_
        refine gf_X11_76 hx hb hts hown hKK hI hN dX11_doubt_49 ?_
        refine lv_iconst (v := 1) hx hb dX11_doubt_52 (by decide) ?_
        obtain ⟨q_53, hq_53, h⟩ := ob_e h
        refine r_callV (As := [.int 1]) (rest := [.int 20]) hx hb hml hts hown (c_X8_ways l HB D y F n κ σ hN 1 G22 e22 q_53 hq_53) cal_X8_ways im_X8_ways se_X8_ways lm_X11_305 ⟨Nat.le_of_ble_eq_true rfl, Nat.le_of_ble_eq_true rfl⟩ hI.nil hKK (r_recv hKK hI (hE8 HB.size y) rfl (lc89 hN) (kc89 hk0)) rfl hl.1 hI.2.2 rfl (Nat.le_of_ble_eq_true rfl) dX11_doubt_53 ⟨Nat.le_of_ble_eq_true rfl, Nat.le_of_ble_eq_true rfl⟩ rfl rfl rfl (fun H locs hB hlo => ?_)
        have hI := hB.re hlo
        refine lv_imul hx hb dX11_doubt_56 ?_
        refine lv_aload_n hx hb dX11_doubt_57 rfl (lv_at hl 0 rfl) ?_
        refine gf_X11_76 hx hb hts hown hKK hI hN dX11_doubt_58 ?_
        refine lv_iconst (v := 0) hx hb dX11_doubt_61 (by decide) ?_
        obtain ⟨q_62, hq_62, h⟩ := ob_e h
        refine r_callV (As := [.int 0]) (rest := [.int (20 * q_53)]) hx hb hml hts hown (c_X8_ways l HB D y F n κ σ hN 0 G22 e22 q_62 hq_62) cal_X8_ways im_X8_ways se_X8_ways lm_X11_305 ⟨Nat.le_of_ble_eq_true rfl, Nat.le_of_ble_eq_true rfl⟩ hI.nil hKK (r_recv hKK hI (hE8 HB.size y) rfl (lc89 hN) (kc89 hk0)) rfl hl.1 hI.2.2 rfl (Nat.le_of_ble_eq_true rfl) dX11_doubt_62 ⟨Nat.le_of_ble_eq_true rfl, Nat.le_of_ble_eq_true rfl⟩ rfl rfl rfl (fun H locs hB hlo => ?_)
        have hI := hB.re hlo
        refine lv_icmp_gt (tgt := 72) hx hb dX11_doubt_65 (by decide) (fun hc => ?_) (fun hc => ?_)
        · replace h := ite_t hc h
          refine lv_iconst (v := 0) hx hb dX11_doubt_72 (by decide) ?_
          have hq := Option.some.inj h
          exact W.iret (v := 0) hx hb hr (fun t ht hW => qc_mk (congrArg (fun z => Outcome.returned (some (Value.int z))) hq) (by rw [ht]; exact hI.nil)) hI.2.2 dX11_doubt_73 hlocks
        · replace h := ite_f hc h
          refine lv_iconst (v := 1) hx hb dX11_doubt_68 (by decide) ?_
          refine lv_goto (tgt := 73) hx hb dX11_doubt_69 (by decide) ?_
          have hq := Option.some.inj h
          exact W.iret (v := 1) hx hb hr (fun t ht hW => qc_mk (congrArg (fun z => Outcome.returned (some (Value.int z))) hq) (by rw [ht]; exact hI.nil)) hI.2.2 dX11_doubt_73 hlocks
      · replace h := ite_f hc2 h
        refine lv_tableOut (tgt := 74) hx hb dX11_doubt_1 (swo (fun j h1 h2 => ?_)) (by decide) ?_
        · have hj : j = 0 ∨ j = 1 ∨ j = 2 := by omega
          rcases hj with rfl | rfl | rfl
          · exact lv_neT hc0 (by decide)
          · exact lv_neT hc1 (by decide)
          · exact lv_neT hc2 (by decide)
        · refine lv_iconst (v := (-1)) hx hb dX11_doubt_74 (by decide) ?_
          have hq := Option.some.inj h
          exact W.iret (v := (-1)) hx hb hr (fun t ht hW => qc_mk (congrArg (fun z => Outcome.returned (some (Value.int z))) hq) (by rw [ht]; exact hI.nil)) hI.2.2 dX11_doubt_75 hlocks
noncomputable def f_X11_of (F : Nat) (G7 : Grp) (G9 : Grp) (v1 : Int32) (v2 : Int32) : Option (Int32) :=
  ob (f_X3_pairAt F G7 v1) (fun q_5 => om q_5 (some (-1)) (fun t_5 => ob (f_X5_tell F G9 t_5 v2) (fun q_19 => some q_19)))
def RM_X11_of : Room := { frames := 2, cells := 0, slots := 0, locals := 43 }
abbrev B_X11_of (HB : Heap) (D : va_G) (y : Nat → ClassId) (n : Nat) (κ : Nat → Nat) (σ : St) (q : Int32) : Heap → Prop := fun H => IV HB D y n n κ σ [] H
set_option maxRecDepth 100000 in
set_option maxHeartbeats 4000000 in
theorem c_X11_of (l : Launch) (HB : Heap) (D : va_G) (y : Nat → ClassId) (F n : Nat) (κ : Nat → Nat) (σ : St) (hN : N0 ≤ n) (v1 : Int32)  (v2 : Int32)  (G7 : Grp) (e7 : σ 7 = G7) (G9 : Grp) (e9 : σ 9 = G9) (q : Int32) (h : f_X11_of F G7 G9 v1 v2 = some q) : MT l HB D y yX11_of cX11_of 4 (some .int) RM_X11_of [.ref (HB.size + 0), .int v1, .int v2] (IV HB D y n n κ σ []) (some (.int q)) (B_X11_of HB D y n κ σ q) := by
  refine Met.ofW (cc := cX11_of) (maxL := 4) (ret := (some .int)) (by decide) rfl ?_
  intro p e s m args below meth c s₁ BL hml hv
  obtain ⟨rfl, hI, hKK⟩ := hv
  have hx := BL.exec
  have hb := BL.bytes
  have hr := BL.returns
  have hts : ∀ w ∈ gtb, w.before _ s = true := fun w hw => atoms_spec BL.pre w (List.mem_cons_of_mem _ hw)
  have hml : c.maxLocals = 4 := hml
  have hown : s.vm.findClass RX11 = some m.cls := findClass_of_methodNamed BL.named
  have hlocks := BL.notSynchronized
  have hk0 := hI.1.2.2.2.2
  have hl := lv_entry ([.ref (HB.size + 0), .int v1, .int v2]) (n := 4) (Nat.le_of_ble_eq_true rfl)
  rw [lg_entry_eq]
  generalize (lg_sl ([.ref (HB.size + 0), .int v1, .int v2]) ++ List.replicate (4 - (lg_sl ([.ref (HB.size + 0), .int v1, .int v2])).length) Slot.unset).toArray = ls at hl ⊢
  have hl : lv_has ls 4 [(0, .ref (HB.size + 0)), (1, .int v1), (2, .int v2)] := hl
  generalize hargs : ([.ref (HB.size + 0), .int v1, .int v2] : List Value).toArray = args at *
  show WX RM_X11_of p l e s m args below meth c HB (some (.int q)) (B_X11_of HB D y n κ σ q) s.heap [] (F0 m 0 ls [])
  generalize s.heap = H at hI ⊢
  unfold f_X11_of at h
  obtain ⟨locs, hlocs⟩ : ∃ x : List Loc, x = [] := ⟨_, rfl⟩
  rw [← hlocs] at hI ⊢
  refine lv_aload_n hx hb dX11_of_0 rfl (lv_at hl 0 rfl) ?_
  refine gf_X11_37 hx hb hts hown hKK hI hN dX11_of_1 ?_
  refine lv_iload_n hx hb dX11_of_4 rfl (lv_at hl 1 rfl) ?_
  obtain ⟨q_5, hq_5, h⟩ := ob_e h
  refine r_callV (As := [.int v1]) (rest := []) hx hb hml hts hown (c_X3_pairAt l HB D y F n κ σ hN v1 G7 e7 q_5 hq_5) cal_X3_pairAt im_X3_pairAt se_X3_pairAt lm_X11_233 ⟨Nat.le_of_ble_eq_true rfl, Nat.le_of_ble_eq_true rfl⟩ hI.nil hKK (r_recv hKK hI (hE3 HB.size y) rfl (lc32 hN) (kc32 hk0)) rfl hl.1 hI.2.2 rfl (Nat.le_of_ble_eq_true rfl) dX11_of_5 ⟨Nat.le_of_ble_eq_true rfl, Nat.le_of_ble_eq_true rfl⟩ rfl rfl rfl (fun H locs hB hlo => ?_)
  obtain ⟨hB, hf_5⟩ := hB
  have hI := hB.re hlo
  rcases om_e h with ⟨eo, h⟩ | ⟨t_5, eo, h⟩
  · refine topn eo ?_
    refine lv_astore_nN (lv' := [(3, .null), (0, .ref (HB.size + 0)), (1, .int v1), (2, .int v2)]) hx hb dX11_of_8 rfl hl (by decide) rfl (fun ls hl => ?_)
    refine lv_aload_nN hx hb dX11_of_9 rfl (lv_at hl 0 rfl) ?_
    refine lv_ifnonnullN hx hb dX11_of_10 ?_
    refine lv_iconst (v := (-1)) hx hb dX11_of_13 (by decide) ?_
    refine lv_goto (tgt := 22) hx hb dX11_of_14 (by decide) ?_
    have hq := Option.some.inj h
    exact W.iret (v := (-1)) hx hb hr (fun t ht hW => qc_mk (congrArg (fun z => Outcome.returned (some (Value.int z))) hq) (by rw [ht]; exact hI.nil)) hI.2.2 dX11_of_22 hlocks
  · refine topr eo ?_
    obtain ⟨ha_5, hk_5⟩ := hf_5 _ eo
    refine lv_astore_n (lv' := [(3, .ref (HB.size + t_5)), (0, .ref (HB.size + 0)), (1, .int v1), (2, .int v2)]) hx hb dX11_of_8 rfl hl (by decide) rfl (fun ls hl => ?_)
    refine lv_aload_n hx hb dX11_of_9 rfl (lv_at hl 0 rfl) ?_
    refine lv_ifnonnull (tgt := 17) hx hb dX11_of_10 (by decide) ?_
    refine lv_aload_n hx hb dX11_of_17 rfl (lv_at hl 0 rfl) ?_
    refine lv_iload_n hx hb dX11_of_18 rfl (lv_at hl 3 rfl) ?_
    obtain ⟨q_19, hq_19, h⟩ := ob_e h
    refine r_callV (As := [.int v2]) (rest := []) hx hb hml hts hown (c_X5_tell l HB D y F n κ σ hN t_5 ha_5 hk_5 v2 G9 e9 q_19 hq_19) cal_X5_tell im_X5_tell se_X5_tell lm_X11_309 ⟨Nat.le_of_ble_eq_true rfl, Nat.le_of_ble_eq_true rfl⟩ hI.nil hKK (r_recv hKK hI (hE5 HB.size y) rfl ha_5 hk_5) rfl hl.1 hI.2.2 rfl (Nat.le_of_ble_eq_true rfl) dX11_of_19 ⟨Nat.le_of_ble_eq_true rfl, Nat.le_of_ble_eq_true rfl⟩ rfl rfl rfl (fun H locs hB hlo => ?_)
    have hI := hB.re hlo
    have hq := Option.some.inj h
    exact W.iret (v := q_19) hx hb hr (fun t ht hW => qc_mk (congrArg (fun z => Outcome.returned (some (Value.int z))) hq) (by rw [ht]; exact hI.nil)) hI.2.2 dX11_of_22 hlocks
noncomputable def f_X11_count (F : Nat) (G1 : Grp) (G2 : Grp) (G4 : Grp) (G6 : Grp) (G7 : Grp) (G8 : Grp) (G9 : Grp) (G10 : Grp) (G11 : Grp) (G13 : Grp) (G16 : Grp) (G19 : Grp) (G20 : Grp) (v1 : Int32) : Option (Int32) :=
  ob (f_X11_within F v1 20 28) (fun q_5 => if q_5 = 0 then ob (f_X11_within F v1 30 37) (fun q_28 => if q_28 = 0 then if v1 = 0 then some (G1.1 0 0) else if v1 = 1 then some (G6.1 32 0) else if v1 = 2 then some (G6.1 32 3) else if v1 = 3 then some (G6.1 32 5) else if v1 = 4 then some (G7.1 32 10) else if v1 = 5 then ob (f_X3_openPairs F G7 G9) (fun q_165 => some q_165) else if v1 = 6 then some (G10.1 44 1) else if v1 = 7 then some (G11.1 44 2) else if v1 = 8 then ob (f_X6_sacksOnWay F G11) (fun q_189 => some q_189) else if v1 = 9 then some (G16.1 60 0) else if v1 = 10 then om (G1.2.2 0 4) (none) (fun t_202 => some (G4.1 t_202 7)) else if v1 = 11 then some (G1.1 0 2) else if v1 = 12 then some (G19.1 70 7) else if v1 = 13 then ob (f_J6_bitCount_0f7a4 F (G19.1 70 8)) (fun q_229 => some q_229) else if v1 = 14 then ob (f_X10_wishing F G20) (fun q_237 => some q_237) else if v1 = 15 then some (G8.1 32 12) else some (-1) else ck (v1 - 30) 8 (some (G2.1 2 (v1 - 30).toNatClampNeg))) else ob (f_X6_inState F G10 G13 (v1 - 20)) (fun q_19 => some q_19))
def RM_X11_count : Room := { frames := 2, cells := 0, slots := 0, locals := 42 }
abbrev B_X11_count (HB : Heap) (D : va_G) (y : Nat → ClassId) (n : Nat) (κ : Nat → Nat) (σ : St) (q : Int32) : Heap → Prop := fun H => IV HB D y n n κ σ [] H
set_option maxRecDepth 100000 in
set_option maxHeartbeats 4000000 in
theorem c_X11_count (l : Launch) (HB : Heap) (D : va_G) (y : Nat → ClassId) (F n : Nat) (κ : Nat → Nat) (σ : St) (hN : N0 ≤ n) (v1 : Int32)  (G1 : Grp) (e1 : σ 1 = G1) (G2 : Grp) (e2 : σ 2 = G2) (G4 : Grp) (e4 : σ 4 = G4) (G6 : Grp) (e6 : σ 6 = G6) (G7 : Grp) (e7 : σ 7 = G7) (G8 : Grp) (e8 : σ 8 = G8) (G9 : Grp) (e9 : σ 9 = G9) (G10 : Grp) (e10 : σ 10 = G10) (G11 : Grp) (e11 : σ 11 = G11) (G13 : Grp) (e13 : σ 13 = G13) (G16 : Grp) (e16 : σ 16 = G16) (G19 : Grp) (e19 : σ 19 = G19) (G20 : Grp) (e20 : σ 20 = G20) (q : Int32) (h : f_X11_count F G1 G2 G4 G6 G7 G8 G9 G10 G11 G13 G16 G19 G20 v1 = some q) : MT l HB D y yX11_count cX11_count 2 (some .int) RM_X11_count [.ref (HB.size + 0), .int v1] (IV HB D y n n κ σ []) (some (.int q)) (B_X11_count HB D y n κ σ q) := by
  refine Met.ofW (cc := cX11_count) (maxL := 2) (ret := (some .int)) (by decide) rfl ?_
  intro p e s m args below meth c s₁ BL hml hv
  obtain ⟨rfl, hI, hKK⟩ := hv
  have hx := BL.exec
  have hb := BL.bytes
  have hr := BL.returns
  have hts : ∀ w ∈ gtb, w.before _ s = true := fun w hw => atoms_spec BL.pre w (List.mem_cons_of_mem _ hw)
  have hml : c.maxLocals = 2 := hml
  have hown : s.vm.findClass RX11 = some m.cls := findClass_of_methodNamed BL.named
  have hlocks := BL.notSynchronized
  have hk0 := hI.1.2.2.2.2
  have hl := lv_entry ([.ref (HB.size + 0), .int v1]) (n := 2) (Nat.le_of_ble_eq_true rfl)
  rw [lg_entry_eq]
  generalize (lg_sl ([.ref (HB.size + 0), .int v1]) ++ List.replicate (2 - (lg_sl ([.ref (HB.size + 0), .int v1])).length) Slot.unset).toArray = ls at hl ⊢
  have hl : lv_has ls 2 [(0, .ref (HB.size + 0)), (1, .int v1)] := hl
  generalize hargs : ([.ref (HB.size + 0), .int v1] : List Value).toArray = args at *
  show WX RM_X11_count p l e s m args below meth c HB (some (.int q)) (B_X11_count HB D y n κ σ q) s.heap [] (F0 m 0 ls [])
  generalize s.heap = H at hI ⊢
  unfold f_X11_count at h
  obtain ⟨locs, hlocs⟩ : ∃ x : List Loc, x = [] := ⟨_, rfl⟩
  rw [← hlocs] at hI ⊢
  refine lv_iload_n hx hb dX11_count_0 rfl (lv_at hl 1 rfl) ?_
  refine lv_bipush (v := 20) hx hb dX11_count_1 (by decide) ?_
  refine lv_bipush (v := 28) hx hb dX11_count_3 (by decide) ?_
  obtain ⟨q_5, hq_5, h⟩ := ob_e h
  refine r_callS (As := [.int v1, .int 20, .int 28]) (rest := []) hx hb hml hts hown (c_X11_within l HB D y F n κ σ hN v1 20 28  q_5 hq_5) cal_X11_within st_X11_within lm_X11_80 ⟨Nat.le_of_ble_eq_true rfl, Nat.le_of_ble_eq_true rfl⟩ hI.nil hKK rfl hl.1 hI.2.2 rfl (Nat.le_of_ble_eq_true rfl) dX11_count_5 ⟨Nat.le_of_ble_eq_true rfl, Nat.le_of_ble_eq_true rfl⟩ rfl rfl rfl (fun H locs hB hlo => ?_)
  have hI := hB.re hlo
  refine lv_if_eq (tgt := 23) hx hb dX11_count_8 (by decide) (fun hc => ?_) (fun hc => ?_)
  · replace h := ite_t hc h
    refine lv_iload_n hx hb dX11_count_23 rfl (lv_at hl 1 rfl) ?_
    refine lv_bipush (v := 30) hx hb dX11_count_24 (by decide) ?_
    refine lv_bipush (v := 37) hx hb dX11_count_26 (by decide) ?_
    obtain ⟨q_28, hq_28, h⟩ := ob_e h
    refine r_callS (As := [.int v1, .int 30, .int 37]) (rest := []) hx hb hml hts hown (c_X11_within l HB D y F n κ σ hN v1 30 37  q_28 hq_28) cal_X11_within st_X11_within lm_X11_80 ⟨Nat.le_of_ble_eq_true rfl, Nat.le_of_ble_eq_true rfl⟩ hI.nil hKK rfl hl.1 hI.2.2 rfl (Nat.le_of_ble_eq_true rfl) dX11_count_28 ⟨Nat.le_of_ble_eq_true rfl, Nat.le_of_ble_eq_true rfl⟩ rfl rfl rfl (fun H locs hB hlo => ?_)
    have hI := hB.re hlo
    refine lv_if_eq (tgt := 44) hx hb dX11_count_31 (by decide) (fun hc => ?_) (fun hc => ?_)
    · replace h := ite_t hc h
      refine lv_iload_n hx hb dX11_count_44 rfl (lv_at hl 1 rfl) ?_
      by_cases hc0 : v1 = 0
      · replace h := ite_t hc0 h
        refine lv_tableIn (off := 79) (tgt := 124) hx hb dX11_count_45 (by rw [hc0]; decide) (by rw [hc0]; decide) (by rw [hc0]; decide) (by decide) ?_
        refine lv_aload_n hx hb dX11_count_124 rfl (lv_at hl 0 rfl) ?_
        refine gt_X11_106 hx hb hts hown hKK hI e1 (lc0 hN) (kc0 hk0) dX11_count_125 ?_
        have hq := Option.some.inj h
        exact W.iret (v := (G1.1 0 0)) hx hb hr (fun t ht hW => qc_mk (congrArg (fun z => Outcome.returned (some (Value.int z))) hq) (by rw [ht]; exact hI.nil)) hI.2.2 dX11_count_128 hlocks
      · replace h := ite_f hc0 h
        by_cases hc1 : v1 = 1
        · replace h := ite_t hc1 h
          refine lv_tableIn (off := 84) (tgt := 129) hx hb dX11_count_45 (by rw [hc1]; decide) (by rw [hc1]; decide) (by rw [hc1]; decide) (by decide) ?_
          refine lv_aload_n hx hb dX11_count_129 rfl (lv_at hl 0 rfl) ?_
          refine gf_X11_37 hx hb hts hown hKK hI hN dX11_count_130 ?_
          refine gt_X11_313 hx hb hts hown hKK hI e6 (lc32 hN) (kc32 hk0) dX11_count_133 ?_
          have hq := Option.some.inj h
          exact W.iret (v := (G6.1 32 0)) hx hb hr (fun t ht hW => qc_mk (congrArg (fun z => Outcome.returned (some (Value.int z))) hq) (by rw [ht]; exact hI.nil)) hI.2.2 dX11_count_136 hlocks
        · replace h := ite_f hc1 h
          by_cases hc2 : v1 = 2
          · replace h := ite_t hc2 h
            refine lv_tableIn (off := 92) (tgt := 137) hx hb dX11_count_45 (by rw [hc2]; decide) (by rw [hc2]; decide) (by rw [hc2]; decide) (by decide) ?_
            refine lv_aload_n hx hb dX11_count_137 rfl (lv_at hl 0 rfl) ?_
            refine gf_X11_37 hx hb hts hown hKK hI hN dX11_count_138 ?_
            refine gt_X11_316 hx hb hts hown hKK hI e6 (lc32 hN) (kc32 hk0) dX11_count_141 ?_
            have hq := Option.some.inj h
            exact W.iret (v := (G6.1 32 3)) hx hb hr (fun t ht hW => qc_mk (congrArg (fun z => Outcome.returned (some (Value.int z))) hq) (by rw [ht]; exact hI.nil)) hI.2.2 dX11_count_144 hlocks
          · replace h := ite_f hc2 h
            by_cases hc3 : v1 = 3
            · replace h := ite_t hc3 h
              refine lv_tableIn (off := 100) (tgt := 145) hx hb dX11_count_45 (by rw [hc3]; decide) (by rw [hc3]; decide) (by rw [hc3]; decide) (by decide) ?_
              refine lv_aload_n hx hb dX11_count_145 rfl (lv_at hl 0 rfl) ?_
              refine gf_X11_37 hx hb hts hown hKK hI hN dX11_count_146 ?_
              refine gt_X11_293 hx hb hts hown hKK hI e6 (lc32 hN) (kc32 hk0) dX11_count_149 ?_
              have hq := Option.some.inj h
              exact W.iret (v := (G6.1 32 5)) hx hb hr (fun t ht hW => qc_mk (congrArg (fun z => Outcome.returned (some (Value.int z))) hq) (by rw [ht]; exact hI.nil)) hI.2.2 dX11_count_152 hlocks
            · replace h := ite_f hc3 h
              by_cases hc4 : v1 = 4
              · replace h := ite_t hc4 h
                refine lv_tableIn (off := 108) (tgt := 153) hx hb dX11_count_45 (by rw [hc4]; decide) (by rw [hc4]; decide) (by rw [hc4]; decide) (by decide) ?_
                refine lv_aload_n hx hb dX11_count_153 rfl (lv_at hl 0 rfl) ?_
                refine gf_X11_37 hx hb hts hown hKK hI hN dX11_count_154 ?_
                refine gt_X11_319 hx hb hts hown hKK hI e7 (lc32 hN) (kc32 hk0) dX11_count_157 ?_
                have hq := Option.some.inj h
                exact W.iret (v := (G7.1 32 10)) hx hb hr (fun t ht hW => qc_mk (congrArg (fun z => Outcome.returned (some (Value.int z))) hq) (by rw [ht]; exact hI.nil)) hI.2.2 dX11_count_160 hlocks
              · replace h := ite_f hc4 h
                by_cases hc5 : v1 = 5
                · replace h := ite_t hc5 h
                  refine lv_tableIn (off := 116) (tgt := 161) hx hb dX11_count_45 (by rw [hc5]; decide) (by rw [hc5]; decide) (by rw [hc5]; decide) (by decide) ?_
                  refine lv_aload_n hx hb dX11_count_161 rfl (lv_at hl 0 rfl) ?_
                  refine gf_X11_37 hx hb hts hown hKK hI hN dX11_count_162 ?_
                  obtain ⟨q_165, hq_165, h⟩ := ob_e h
                  refine r_callV (As := []) (rest := []) hx hb hml hts hown (c_X3_openPairs l HB D y F n κ σ hN  G7 e7 G9 e9 q_165 hq_165) cal_X3_openPairs im_X3_openPairs se_X3_openPairs lm_X11_322 ⟨Nat.le_of_ble_eq_true rfl, Nat.le_of_ble_eq_true rfl⟩ hI.nil hKK (r_recv hKK hI (hE3 HB.size y) rfl (lc32 hN) (kc32 hk0)) rfl hl.1 hI.2.2 rfl (Nat.le_of_ble_eq_true rfl) dX11_count_165 ⟨Nat.le_of_ble_eq_true rfl, Nat.le_of_ble_eq_true rfl⟩ rfl rfl rfl (fun H locs hB hlo => ?_)
                  have hI := hB.re hlo
                  have hq := Option.some.inj h
                  exact W.iret (v := q_165) hx hb hr (fun t ht hW => qc_mk (congrArg (fun z => Outcome.returned (some (Value.int z))) hq) (by rw [ht]; exact hI.nil)) hI.2.2 dX11_count_168 hlocks
                · replace h := ite_f hc5 h
                  by_cases hc6 : v1 = 6
                  · replace h := ite_t hc6 h
                    refine lv_tableIn (off := 124) (tgt := 169) hx hb dX11_count_45 (by rw [hc6]; decide) (by rw [hc6]; decide) (by rw [hc6]; decide) (by decide) ?_
                    refine lv_aload_n hx hb dX11_count_169 rfl (lv_at hl 0 rfl) ?_
                    refine gf_X11_46 hx hb hts hown hKK hI hN dX11_count_170 ?_
                    refine gt_X11_169 hx hb hts hown hKK hI e10 (lc44 hN) (kc44 hk0) dX11_count_173 ?_
                    have hq := Option.some.inj h
                    exact W.iret (v := (G10.1 44 1)) hx hb hr (fun t ht hW => qc_mk (congrArg (fun z => Outcome.returned (some (Value.int z))) hq) (by rw [ht]; exact hI.nil)) hI.2.2 dX11_count_176 hlocks
                  · replace h := ite_f hc6 h
                    by_cases hc7 : v1 = 7
                    · replace h := ite_t hc7 h
                      refine lv_tableIn (off := 132) (tgt := 177) hx hb dX11_count_45 (by rw [hc7]; decide) (by rw [hc7]; decide) (by rw [hc7]; decide) (by decide) ?_
                      refine lv_aload_n hx hb dX11_count_177 rfl (lv_at hl 0 rfl) ?_
                      refine gf_X11_46 hx hb hts hown hKK hI hN dX11_count_178 ?_
                      refine gt_X11_326 hx hb hts hown hKK hI e11 (lc44 hN) (kc44 hk0) dX11_count_181 ?_
                      have hq := Option.some.inj h
                      exact W.iret (v := (G11.1 44 2)) hx hb hr (fun t ht hW => qc_mk (congrArg (fun z => Outcome.returned (some (Value.int z))) hq) (by rw [ht]; exact hI.nil)) hI.2.2 dX11_count_184 hlocks
                    · replace h := ite_f hc7 h
                      by_cases hc8 : v1 = 8
                      · replace h := ite_t hc8 h
                        refine lv_tableIn (off := 140) (tgt := 185) hx hb dX11_count_45 (by rw [hc8]; decide) (by rw [hc8]; decide) (by rw [hc8]; decide) (by decide) ?_
                        refine lv_aload_n hx hb dX11_count_185 rfl (lv_at hl 0 rfl) ?_
                        refine gf_X11_46 hx hb hts hown hKK hI hN dX11_count_186 ?_
                        obtain ⟨q_189, hq_189, h⟩ := ob_e h
                        refine r_callV (As := []) (rest := []) hx hb hml hts hown (c_X6_sacksOnWay l HB D y F n κ σ hN  G11 e11 q_189 hq_189) cal_X6_sacksOnWay im_X6_sacksOnWay se_X6_sacksOnWay lm_X11_329 ⟨Nat.le_of_ble_eq_true rfl, Nat.le_of_ble_eq_true rfl⟩ hI.nil hKK (r_recv hKK hI (hE6 HB.size y) rfl (lc44 hN) (kc44 hk0)) rfl hl.1 hI.2.2 rfl (Nat.le_of_ble_eq_true rfl) dX11_count_189 ⟨Nat.le_of_ble_eq_true rfl, Nat.le_of_ble_eq_true rfl⟩ rfl rfl rfl (fun H locs hB hlo => ?_)
                        have hI := hB.re hlo
                        have hq := Option.some.inj h
                        exact W.iret (v := q_189) hx hb hr (fun t ht hW => qc_mk (congrArg (fun z => Outcome.returned (some (Value.int z))) hq) (by rw [ht]; exact hI.nil)) hI.2.2 dX11_count_192 hlocks
                      · replace h := ite_f hc8 h
                        by_cases hc9 : v1 = 9
                        · replace h := ite_t hc9 h
                          refine lv_tableIn (off := 148) (tgt := 193) hx hb dX11_count_45 (by rw [hc9]; decide) (by rw [hc9]; decide) (by rw [hc9]; decide) (by decide) ?_
                          refine lv_aload_n hx hb dX11_count_193 rfl (lv_at hl 0 rfl) ?_
                          refine gf_X11_53 hx hb hts hown hKK hI hN dX11_count_194 ?_
                          refine gt_X11_332 hx hb hts hown hKK hI e16 (lc60 hN) (kc60 hk0) dX11_count_197 ?_
                          have hq := Option.some.inj h
                          exact W.iret (v := (G16.1 60 0)) hx hb hr (fun t ht hW => qc_mk (congrArg (fun z => Outcome.returned (some (Value.int z))) hq) (by rw [ht]; exact hI.nil)) hI.2.2 dX11_count_200 hlocks
                        · replace h := ite_f hc9 h
                          by_cases hc10 : v1 = 10
                          · replace h := ite_t hc10 h
                            refine lv_tableIn (off := 156) (tgt := 201) hx hb dX11_count_45 (by rw [hc10]; decide) (by rw [hc10]; decide) (by rw [hc10]; decide) (by decide) ?_
                            refine lv_aload_n hx hb dX11_count_201 rfl (lv_at hl 0 rfl) ?_
                            refine gt_X11_20 hx hb hts hown hKK hI e1 (lc0 hN) (kc0 hk0) dX11_count_202 ?_
                            rcases om_e h with ⟨eo, h⟩ | ⟨t_202, eo, h⟩
                            · cases h
                            · refine topr eo ?_
                              obtain ⟨ha_202, hk_202⟩ := typF hI (lc0 hN) (kc0 hk0) 0 rfl e1 eo
                              refine gt_X11_333 hx hb hts hown hKK hI e4 ha_202 hk_202 dX11_count_205 ?_
                              have hq := Option.some.inj h
                              exact W.iret (v := (G4.1 t_202 7)) hx hb hr (fun t ht hW => qc_mk (congrArg (fun z => Outcome.returned (some (Value.int z))) hq) (by rw [ht]; exact hI.nil)) hI.2.2 dX11_count_208 hlocks
                          · replace h := ite_f hc10 h
                            by_cases hc11 : v1 = 11
                            · replace h := ite_t hc11 h
                              refine lv_tableIn (off := 164) (tgt := 209) hx hb dX11_count_45 (by rw [hc11]; decide) (by rw [hc11]; decide) (by rw [hc11]; decide) (by decide) ?_
                              refine lv_aload_n hx hb dX11_count_209 rfl (lv_at hl 0 rfl) ?_
                              refine gt_X11_136 hx hb hts hown hKK hI e1 (lc0 hN) (kc0 hk0) dX11_count_210 ?_
                              have hq := Option.some.inj h
                              exact W.iret (v := (G1.1 0 2)) hx hb hr (fun t ht hW => qc_mk (congrArg (fun z => Outcome.returned (some (Value.int z))) hq) (by rw [ht]; exact hI.nil)) hI.2.2 dX11_count_213 hlocks
                            · replace h := ite_f hc11 h
                              by_cases hc12 : v1 = 12
                              · replace h := ite_t hc12 h
                                refine lv_tableIn (off := 169) (tgt := 214) hx hb dX11_count_45 (by rw [hc12]; decide) (by rw [hc12]; decide) (by rw [hc12]; decide) (by decide) ?_
                                refine lv_aload_n hx hb dX11_count_214 rfl (lv_at hl 0 rfl) ?_
                                refine gf_X11_62 hx hb hts hown hKK hI hN dX11_count_215 ?_
                                refine gt_X11_334 hx hb hts hown hKK hI e19 (lc70 hN) (kc70 hk0) dX11_count_218 ?_
                                have hq := Option.some.inj h
                                exact W.iret (v := (G19.1 70 7)) hx hb hr (fun t ht hW => qc_mk (congrArg (fun z => Outcome.returned (some (Value.int z))) hq) (by rw [ht]; exact hI.nil)) hI.2.2 dX11_count_221 hlocks
                              · replace h := ite_f hc12 h
                                by_cases hc13 : v1 = 13
                                · replace h := ite_t hc13 h
                                  refine lv_tableIn (off := 177) (tgt := 222) hx hb dX11_count_45 (by rw [hc13]; decide) (by rw [hc13]; decide) (by rw [hc13]; decide) (by decide) ?_
                                  refine lv_aload_n hx hb dX11_count_222 rfl (lv_at hl 0 rfl) ?_
                                  refine gf_X11_62 hx hb hts hown hKK hI hN dX11_count_223 ?_
                                  refine gt_X11_337 hx hb hts hown hKK hI e19 (lc70 hN) (kc70 hk0) dX11_count_226 ?_
                                  obtain ⟨q_229, hq_229, h⟩ := ob_e h
                                  refine r_callS (As := [.int (G19.1 70 8)]) (rest := []) hx hb hml hts hown (c_J6_bitCount_0f7a4 l HB D y F n κ σ hN (G19.1 70 8)  q_229 hq_229) cal_J6_bitCount_0f7a4 st_J6_bitCount_0f7a4 lm_X11_340 ⟨Nat.le_of_ble_eq_true rfl, Nat.le_of_ble_eq_true rfl⟩ hI.nil hKK rfl hl.1 hI.2.2 rfl (Nat.le_of_ble_eq_true rfl) dX11_count_229 ⟨Nat.le_of_ble_eq_true rfl, Nat.le_of_ble_eq_true rfl⟩ rfl rfl rfl (fun H locs hB hlo => ?_)
                                  have hI := hB.re hlo
                                  have hq := Option.some.inj h
                                  exact W.iret (v := q_229) hx hb hr (fun t ht hW => qc_mk (congrArg (fun z => Outcome.returned (some (Value.int z))) hq) (by rw [ht]; exact hI.nil)) hI.2.2 dX11_count_232 hlocks
                                · replace h := ite_f hc13 h
                                  by_cases hc14 : v1 = 14
                                  · replace h := ite_t hc14 h
                                    refine lv_tableIn (off := 188) (tgt := 233) hx hb dX11_count_45 (by rw [hc14]; decide) (by rw [hc14]; decide) (by rw [hc14]; decide) (by decide) ?_
                                    refine lv_aload_n hx hb dX11_count_233 rfl (lv_at hl 0 rfl) ?_
                                    refine gf_X11_69 hx hb hts hown hKK hI hN dX11_count_234 ?_
                                    obtain ⟨q_237, hq_237, h⟩ := ob_e h
                                    refine r_callV (As := []) (rest := []) hx hb hml hts hown (c_X10_wishing l HB D y F n κ σ hN  G20 e20 q_237 hq_237) cal_X10_wishing im_X10_wishing se_X10_wishing lm_X11_345 ⟨Nat.le_of_ble_eq_true rfl, Nat.le_of_ble_eq_true rfl⟩ hI.nil hKK (r_recv hKK hI (hE10 HB.size y) rfl (lc78 hN) (kc78 hk0)) rfl hl.1 hI.2.2 rfl (Nat.le_of_ble_eq_true rfl) dX11_count_237 ⟨Nat.le_of_ble_eq_true rfl, Nat.le_of_ble_eq_true rfl⟩ rfl rfl rfl (fun H locs hB hlo => ?_)
                                    have hI := hB.re hlo
                                    have hq := Option.some.inj h
                                    exact W.iret (v := q_237) hx hb hr (fun t ht hW => qc_mk (congrArg (fun z => Outcome.returned (some (Value.int z))) hq) (by rw [ht]; exact hI.nil)) hI.2.2 dX11_count_240 hlocks
                                  · replace h := ite_f hc14 h
                                    by_cases hc15 : v1 = 15
                                    · replace h := ite_t hc15 h
                                      refine lv_tableIn (off := 196) (tgt := 241) hx hb dX11_count_45 (by rw [hc15]; decide) (by rw [hc15]; decide) (by rw [hc15]; decide) (by decide) ?_
                                      refine lv_aload_n hx hb dX11_count_241 rfl (lv_at hl 0 rfl) ?_
                                      refine gf_X11_37 hx hb hts hown hKK hI hN dX11_count_242 ?_
                                      refine gt_X11_268 hx hb hts hown hKK hI e8 (lc32 hN) (kc32 hk0) dX11_count_245 ?_
                                      have hq := Option.some.inj h
                                      exact W.iret (v := (G8.1 32 12)) hx hb hr (fun t ht hW => qc_mk (congrArg (fun z => Outcome.returned (some (Value.int z))) hq) (by rw [ht]; exact hI.nil)) hI.2.2 dX11_count_248 hlocks
                                    · replace h := ite_f hc15 h
                                      refine lv_tableOut (tgt := 249) hx hb dX11_count_45 (swo (fun j h1 h2 => ?_)) (by decide) ?_
                                      · have hj : j = 0 ∨ j = 1 ∨ j = 2 ∨ j = 3 ∨ j = 4 ∨ j = 5 ∨ j = 6 ∨ j = 7 ∨ j = 8 ∨ j = 9 ∨ j = 10 ∨ j = 11 ∨ j = 12 ∨ j = 13 ∨ j = 14 ∨ j = 15 := by omega
                                        rcases hj with rfl | rfl | rfl | rfl | rfl | rfl | rfl | rfl | rfl | rfl | rfl | rfl | rfl | rfl | rfl | rfl
                                        · exact lv_neT hc0 (by decide)
                                        · exact lv_neT hc1 (by decide)
                                        · exact lv_neT hc2 (by decide)
                                        · exact lv_neT hc3 (by decide)
                                        · exact lv_neT hc4 (by decide)
                                        · exact lv_neT hc5 (by decide)
                                        · exact lv_neT hc6 (by decide)
                                        · exact lv_neT hc7 (by decide)
                                        · exact lv_neT hc8 (by decide)
                                        · exact lv_neT hc9 (by decide)
                                        · exact lv_neT hc10 (by decide)
                                        · exact lv_neT hc11 (by decide)
                                        · exact lv_neT hc12 (by decide)
                                        · exact lv_neT hc13 (by decide)
                                        · exact lv_neT hc14 (by decide)
                                        · exact lv_neT hc15 (by decide)
                                      · refine lv_iconst (v := (-1)) hx hb dX11_count_249 (by decide) ?_
                                        have hq := Option.some.inj h
                                        exact W.iret (v := (-1)) hx hb hr (fun t ht hW => qc_mk (congrArg (fun z => Outcome.returned (some (Value.int z))) hq) (by rw [ht]; exact hI.nil)) hI.2.2 dX11_count_250 hlocks
    · replace h := ite_f hc h
      refine lv_aload_n hx hb dX11_count_34 rfl (lv_at hl 0 rfl) ?_
      refine gf_X11_13 hx hb hts hown hKK hI hN dX11_count_35 ?_
      refine lv_iload_n hx hb dX11_count_38 rfl (lv_at hl 1 rfl) ?_
      refine lv_bipush (v := 30) hx hb dX11_count_39 (by decide) ?_
      refine lv_isub hx hb dX11_count_41 ?_
      obtain ⟨hin_, h⟩ := ck_e h
      refine la_14 hx hb hKK hI e2 (lc2 hN) (kc2 hk0) hin_ dX11_count_42 ?_
      have hq := Option.some.inj h
      exact W.iret (v := (G2.1 2 (v1 - 30).toNatClampNeg)) hx hb hr (fun t ht hW => qc_mk (congrArg (fun z => Outcome.returned (some (Value.int z))) hq) (by rw [ht]; exact hI.nil)) hI.2.2 dX11_count_43 hlocks
  · replace h := ite_f hc h
    refine lv_aload_n hx hb dX11_count_11 rfl (lv_at hl 0 rfl) ?_
    refine gf_X11_46 hx hb hts hown hKK hI hN dX11_count_12 ?_
    refine lv_iload_n hx hb dX11_count_15 rfl (lv_at hl 1 rfl) ?_
    refine lv_bipush (v := 20) hx hb dX11_count_16 (by decide) ?_
    refine lv_isub hx hb dX11_count_18 ?_
    obtain ⟨q_19, hq_19, h⟩ := ob_e h
    refine r_callV (As := [.int (v1 - 20)]) (rest := []) hx hb hml hts hown (c_X6_inState l HB D y F n κ σ hN (v1 - 20) G10 e10 G13 e13 q_19 hq_19) cal_X6_inState im_X6_inState se_X6_inState lm_X11_310 ⟨Nat.le_of_ble_eq_true rfl, Nat.le_of_ble_eq_true rfl⟩ hI.nil hKK (r_recv hKK hI (hE6 HB.size y) rfl (lc44 hN) (kc44 hk0)) rfl hl.1 hI.2.2 rfl (Nat.le_of_ble_eq_true rfl) dX11_count_19 ⟨Nat.le_of_ble_eq_true rfl, Nat.le_of_ble_eq_true rfl⟩ rfl rfl rfl (fun H locs hB hlo => ?_)
    have hI := hB.re hlo
    have hq := Option.some.inj h
    exact W.iret (v := q_19) hx hb hr (fun t ht hW => qc_mk (congrArg (fun z => Outcome.returned (some (Value.int z))) hq) (by rw [ht]; exact hI.nil)) hI.2.2 dX11_count_22 hlocks
noncomputable def f_X11_isMark (F : Nat)  (v0 : Int32) : Option (Int32) :=
  ob (f_X11_within F v0 0 99) (fun q_4 => cb q_4 (some q_4))
def RM_X11_isMark : Room := { frames := 1, cells := 0, slots := 0, locals := 22 }
abbrev B_X11_isMark (HB : Heap) (D : va_G) (y : Nat → ClassId) (n : Nat) (κ : Nat → Nat) (σ : St) (q : Int32) : Heap → Prop := fun H => IV HB D y n n κ σ [] H
set_option maxRecDepth 100000 in
set_option maxHeartbeats 4000000 in
theorem c_X11_isMark (l : Launch) (HB : Heap) (D : va_G) (y : Nat → ClassId) (F n : Nat) (κ : Nat → Nat) (σ : St) (hN : N0 ≤ n) (v0 : Int32)   (q : Int32) (h : f_X11_isMark F v0 = some q) : MT l HB D y yX11_isMark cX11_isMark 1 (some .boolean) RM_X11_isMark [.int v0] (IV HB D y n n κ σ []) (some (.int q)) (B_X11_isMark HB D y n κ σ q) := by
  refine Met.ofW (cc := cX11_isMark) (maxL := 1) (ret := (some .boolean)) (by decide) rfl ?_
  intro p e s m args below meth c s₁ BL hml hv
  obtain ⟨rfl, hI, hKK⟩ := hv
  have hx := BL.exec
  have hb := BL.bytes
  have hr := BL.returns
  have hts : ∀ w ∈ gtb, w.before _ s = true := fun w hw => atoms_spec BL.pre w (List.mem_cons_of_mem _ hw)
  have hml : c.maxLocals = 1 := hml
  have hown : s.vm.findClass RX11 = some m.cls := findClass_of_methodNamed BL.named
  have hlocks := BL.notSynchronized
  have hk0 := hI.1.2.2.2.2
  have hl := lv_entry ([.int v0]) (n := 1) (Nat.le_of_ble_eq_true rfl)
  rw [lg_entry_eq]
  generalize (lg_sl ([.int v0]) ++ List.replicate (1 - (lg_sl ([.int v0])).length) Slot.unset).toArray = ls at hl ⊢
  have hl : lv_has ls 1 [(0, .int v0)] := hl
  generalize hargs : ([.int v0] : List Value).toArray = args at *
  show WX RM_X11_isMark p l e s m args below meth c HB (some (.int q)) (B_X11_isMark HB D y n κ σ q) s.heap [] (F0 m 0 ls [])
  generalize s.heap = H at hI ⊢
  unfold f_X11_isMark at h
  obtain ⟨locs, hlocs⟩ : ∃ x : List Loc, x = [] := ⟨_, rfl⟩
  rw [← hlocs] at hI ⊢
  refine lv_iload_n hx hb dX11_isMark_0 rfl (lv_at hl 0 rfl) ?_
  refine lv_iconst (v := 0) hx hb dX11_isMark_1 (by decide) ?_
  refine lv_bipush (v := 99) hx hb dX11_isMark_2 (by decide) ?_
  obtain ⟨q_4, hq_4, h⟩ := ob_e h
  refine r_callS (As := [.int v0, .int 0, .int 99]) (rest := []) hx hb hml hts hown (c_X11_within l HB D y F n κ σ hN v0 0 99  q_4 hq_4) cal_X11_within st_X11_within lm_X11_80 ⟨Nat.le_of_ble_eq_true rfl, Nat.le_of_ble_eq_true rfl⟩ hI.nil hKK rfl hl.1 hI.2.2 rfl (Nat.le_of_ble_eq_true rfl) dX11_isMark_4 ⟨Nat.le_of_ble_eq_true rfl, Nat.le_of_ble_eq_true rfl⟩ rfl rfl rfl (fun H locs hB hlo => ?_)
  have hI := hB.re hlo
  obtain ⟨hz, h⟩ := cb_e h
  have hq := Option.some.inj h
  exact W.zret (v := q_4) (ty := .boolean) hx hb hr hz (fun t ht hW => qc_mk (congrArg (fun z => Outcome.returned (some (Value.int z))) hq) (by rw [ht]; exact hI.nil)) hI.2.2 dX11_isMark_7 hlocks
noncomputable def f_X12_in (F : Nat)  (v0 : Int32) (v1 : Int32) (v2 : Int32) : Option (Int32) :=
  if v0 < v1 then some 0 else if v2 < v0 then some 0 else some 1
def RM_X12_in : Room := { frames := 0, cells := 0, slots := 0, locals := 0 }
abbrev B_X12_in (HB : Heap) (D : va_G) (y : Nat → ClassId) (n : Nat) (κ : Nat → Nat) (σ : St) (q : Int32) : Heap → Prop := fun H => IV HB D y n n κ σ [] H
set_option maxRecDepth 100000 in
set_option maxHeartbeats 4000000 in
theorem c_X12_in (l : Launch) (HB : Heap) (D : va_G) (y : Nat → ClassId) (F n : Nat) (κ : Nat → Nat) (σ : St) (hN : N0 ≤ n) (v0 : Int32)  (v1 : Int32)  (v2 : Int32)   (q : Int32) (h : f_X12_in F v0 v1 v2 = some q) : MT l HB D y yX12_in cX12_in 3 (some .boolean) RM_X12_in [.int v0, .int v1, .int v2] (IV HB D y n n κ σ []) (some (.int q)) (B_X12_in HB D y n κ σ q) := by
  refine Met.ofW (cc := cX12_in) (maxL := 3) (ret := (some .boolean)) (by decide) rfl ?_
  intro p e s m args below meth c s₁ BL hml hv
  obtain ⟨rfl, hI, hKK⟩ := hv
  have hx := BL.exec
  have hb := BL.bytes
  have hr := BL.returns
  have hts : ∀ w ∈ gtb, w.before _ s = true := fun w hw => atoms_spec BL.pre w (List.mem_cons_of_mem _ hw)
  have hml : c.maxLocals = 3 := hml
  have hown : s.vm.findClass RX12 = some m.cls := findClass_of_methodNamed BL.named
  have hlocks := BL.notSynchronized
  have hk0 := hI.1.2.2.2.2
  have hl := lv_entry ([.int v0, .int v1, .int v2]) (n := 3) (Nat.le_of_ble_eq_true rfl)
  rw [lg_entry_eq]
  generalize (lg_sl ([.int v0, .int v1, .int v2]) ++ List.replicate (3 - (lg_sl ([.int v0, .int v1, .int v2])).length) Slot.unset).toArray = ls at hl ⊢
  have hl : lv_has ls 3 [(0, .int v0), (1, .int v1), (2, .int v2)] := hl
  generalize hargs : ([.int v0, .int v1, .int v2] : List Value).toArray = args at *
  show WX RM_X12_in p l e s m args below meth c HB (some (.int q)) (B_X12_in HB D y n κ σ q) s.heap [] (F0 m 0 ls [])
  generalize s.heap = H at hI ⊢
  unfold f_X12_in at h
  obtain ⟨locs, hlocs⟩ : ∃ x : List Loc, x = [] := ⟨_, rfl⟩
  rw [← hlocs] at hI ⊢
  refine lv_iload_n hx hb dX12_in_0 rfl (lv_at hl 0 rfl) ?_
  refine lv_iload_n hx hb dX12_in_1 rfl (lv_at hl 1 rfl) ?_
  refine lv_icmp_lt (tgt := 14) hx hb dX12_in_2 (by decide) (fun hc => ?_) (fun hc => ?_)
  · replace h := ite_t hc h
    refine lv_iconst (v := 0) hx hb dX12_in_14 (by decide) ?_
    have hq := Option.some.inj h
    exact W.zret (v := 0) (ty := .boolean) hx hb hr rfl (fun t ht hW => qc_mk (congrArg (fun z => Outcome.returned (some (Value.int z))) hq) (by rw [ht]; exact hI.nil)) hI.2.2 dX12_in_15 hlocks
  · replace h := ite_f hc h
    refine lv_iload_n hx hb dX12_in_5 rfl (lv_at hl 0 rfl) ?_
    refine lv_iload_n hx hb dX12_in_6 rfl (lv_at hl 2 rfl) ?_
    refine lv_icmp_gt (tgt := 14) hx hb dX12_in_7 (by decide) (fun hc => ?_) (fun hc => ?_)
    · replace h := ite_t hc h
      refine lv_iconst (v := 0) hx hb dX12_in_14 (by decide) ?_
      have hq := Option.some.inj h
      exact W.zret (v := 0) (ty := .boolean) hx hb hr rfl (fun t ht hW => qc_mk (congrArg (fun z => Outcome.returned (some (Value.int z))) hq) (by rw [ht]; exact hI.nil)) hI.2.2 dX12_in_15 hlocks
    · replace h := ite_f hc h
      refine lv_iconst (v := 1) hx hb dX12_in_10 (by decide) ?_
      refine lv_goto (tgt := 15) hx hb dX12_in_11 (by decide) ?_
      have hq := Option.some.inj h
      exact W.zret (v := 1) (ty := .boolean) hx hb hr rfl (fun t ht hW => qc_mk (congrArg (fun z => Outcome.returned (some (Value.int z))) hq) (by rw [ht]; exact hI.nil)) hI.2.2 dX12_in_15 hlocks
noncomputable def f_X12_isDay (F : Nat)  (v0 : Int32) : Option (Int32) :=
  if v0 < 0 then some 0 else if 3599 < v0 then some 0 else some 1
def RM_X12_isDay : Room := { frames := 0, cells := 0, slots := 0, locals := 0 }
abbrev B_X12_isDay (HB : Heap) (D : va_G) (y : Nat → ClassId) (n : Nat) (κ : Nat → Nat) (σ : St) (q : Int32) : Heap → Prop := fun H => IV HB D y n n κ σ [] H
set_option maxRecDepth 100000 in
set_option maxHeartbeats 4000000 in
theorem c_X12_isDay (l : Launch) (HB : Heap) (D : va_G) (y : Nat → ClassId) (F n : Nat) (κ : Nat → Nat) (σ : St) (hN : N0 ≤ n) (v0 : Int32)   (q : Int32) (h : f_X12_isDay F v0 = some q) : MT l HB D y yX12_isDay cX12_isDay 1 (some .boolean) RM_X12_isDay [.int v0] (IV HB D y n n κ σ []) (some (.int q)) (B_X12_isDay HB D y n κ σ q) := by
  refine Met.ofW (cc := cX12_isDay) (maxL := 1) (ret := (some .boolean)) (by decide) rfl ?_
  intro p e s m args below meth c s₁ BL hml hv
  obtain ⟨rfl, hI, hKK⟩ := hv
  have hx := BL.exec
  have hb := BL.bytes
  have hr := BL.returns
  have hts : ∀ w ∈ gtb, w.before _ s = true := fun w hw => atoms_spec BL.pre w (List.mem_cons_of_mem _ hw)
  have hml : c.maxLocals = 1 := hml
  have hown : s.vm.findClass RX12 = some m.cls := findClass_of_methodNamed BL.named
  have hlocks := BL.notSynchronized
  have hk0 := hI.1.2.2.2.2
  have hl := lv_entry ([.int v0]) (n := 1) (Nat.le_of_ble_eq_true rfl)
  rw [lg_entry_eq]
  generalize (lg_sl ([.int v0]) ++ List.replicate (1 - (lg_sl ([.int v0])).length) Slot.unset).toArray = ls at hl ⊢
  have hl : lv_has ls 1 [(0, .int v0)] := hl
  generalize hargs : ([.int v0] : List Value).toArray = args at *
  show WX RM_X12_isDay p l e s m args below meth c HB (some (.int q)) (B_X12_isDay HB D y n κ σ q) s.heap [] (F0 m 0 ls [])
  generalize s.heap = H at hI ⊢
  unfold f_X12_isDay at h
  obtain ⟨locs, hlocs⟩ : ∃ x : List Loc, x = [] := ⟨_, rfl⟩
  rw [← hlocs] at hI ⊢
  refine lv_iload_n hx hb dX12_isDay_0 rfl (lv_at hl 0 rfl) ?_
  refine lv_if_lt (tgt := 15) hx hb dX12_isDay_1 (by decide) (fun hc => ?_) (fun hc => ?_)
  · replace h := ite_t hc h
    refine lv_iconst (v := 0) hx hb dX12_isDay_15 (by decide) ?_
    have hq := Option.some.inj h
    exact W.zret (v := 0) (ty := .boolean) hx hb hr rfl (fun t ht hW => qc_mk (congrArg (fun z => Outcome.returned (some (Value.int z))) hq) (by rw [ht]; exact hI.nil)) hI.2.2 dX12_isDay_16 hlocks
  · replace h := ite_f hc h
    refine lv_iload_n hx hb dX12_isDay_4 rfl (lv_at hl 0 rfl) ?_
    refine lv_sipush (v := 3599) hx hb dX12_isDay_5 (by decide) ?_
    refine lv_icmp_gt (tgt := 15) hx hb dX12_isDay_8 (by decide) (fun hc => ?_) (fun hc => ?_)
    · replace h := ite_t hc h
      refine lv_iconst (v := 0) hx hb dX12_isDay_15 (by decide) ?_
      have hq := Option.some.inj h
      exact W.zret (v := 0) (ty := .boolean) hx hb hr rfl (fun t ht hW => qc_mk (congrArg (fun z => Outcome.returned (some (Value.int z))) hq) (by rw [ht]; exact hI.nil)) hI.2.2 dX12_isDay_16 hlocks
    · replace h := ite_f hc h
      refine lv_iconst (v := 1) hx hb dX12_isDay_11 (by decide) ?_
      refine lv_goto (tgt := 16) hx hb dX12_isDay_12 (by decide) ?_
      have hq := Option.some.inj h
      exact W.zret (v := 1) (ty := .boolean) hx hb hr rfl (fun t ht hW => qc_mk (congrArg (fun z => Outcome.returned (some (Value.int z))) hq) (by rw [ht]; exact hI.nil)) hI.2.2 dX12_isDay_16 hlocks
noncomputable def f_X12_village (F : Nat) (G24 : Grp) (v1 : Int32) (v2 : Int32) : Option (Int32 × Grp) :=
  ob (f_X12_in F v1 1 60) (fun q_4 => if q_4 = 0 then some ((-1), G24) else ob (f_X12_in F v2 0 4095) (fun q_15 => if q_15 = 0 then some ((-1), G24) else if (G24.1 91 1) = 6 then some ((-1), G24) else ck (G24.1 91 1) 6 (bn (gI G24 92 (G24.1 91 1).toNatClampNeg v1) (fun G24_41 => ck (G24_41.1 91 1) 6 (bn (gI G24_41 93 (G24_41.1 91 1).toNatClampNeg v2) (fun G24_51 => bn (gI G24_51 91 1 ((G24_51.1 91 1) + 1)) (fun G24_59 => some (((G24_59.1 91 1) - 1), G24_59))))))))
def RM_X12_village : Room := { frames := 1, cells := 0, slots := 0, locals := 22 }
abbrev W_X12_village : List Nat := [24]
abbrev B_X12_village (HB : Heap) (D : va_G) (y : Nat → ClassId) (n : Nat) (κ : Nat → Nat) (σ0 : St) (q : Int32 × Grp) : Heap → Prop := fun H => ∃ σ : St, IV HB D y n n κ σ [] H ∧ σ 24 = q.2 ∧ ∀ j, j ∉ W_X12_village → σ j = σ0 j
set_option maxRecDepth 100000 in
set_option maxHeartbeats 4000000 in
theorem c_X12_village (l : Launch) (HB : Heap) (D : va_G) (y : Nat → ClassId) (F n : Nat) (κ : Nat → Nat) (σ0 : St) (hN : N0 ≤ n) (v1 : Int32)  (v2 : Int32)  (G24 : Grp) (e24 : σ0 24 = G24) (q : Int32 × Grp) (h : f_X12_village F G24 v1 v2 = some q) : MT l HB D y yX12_village cX12_village 3 (some .int) RM_X12_village [.ref (HB.size + 91), .int v1, .int v2] (IV HB D y n n κ σ0 []) (some (.int q.1)) (B_X12_village HB D y n κ σ0 q) := by
  refine Met.ofW (cc := cX12_village) (maxL := 3) (ret := (some .int)) (by decide) rfl ?_
  intro p e s m args below meth c s₁ BL hml hv
  obtain ⟨rfl, hI, hKK⟩ := hv
  have hx := BL.exec
  have hb := BL.bytes
  have hr := BL.returns
  have hts : ∀ w ∈ gtb, w.before _ s = true := fun w hw => atoms_spec BL.pre w (List.mem_cons_of_mem _ hw)
  have hml : c.maxLocals = 3 := hml
  have hown : s.vm.findClass RX12 = some m.cls := findClass_of_methodNamed BL.named
  have hlocks := BL.notSynchronized
  have hk0 := hI.1.2.2.2.2
  have hl := lv_entry ([.ref (HB.size + 91), .int v1, .int v2]) (n := 3) (Nat.le_of_ble_eq_true rfl)
  rw [lg_entry_eq]
  generalize (lg_sl ([.ref (HB.size + 91), .int v1, .int v2]) ++ List.replicate (3 - (lg_sl ([.ref (HB.size + 91), .int v1, .int v2])).length) Slot.unset).toArray = ls at hl ⊢
  have hl : lv_has ls 3 [(0, .ref (HB.size + 91)), (1, .int v1), (2, .int v2)] := hl
  generalize hargs : ([.ref (HB.size + 91), .int v1, .int v2] : List Value).toArray = args at *
  obtain ⟨σ, hI, e24, fr⟩ : ∃ σ : St, IV HB D y n n κ σ [] s.heap ∧ σ 24 = G24 ∧ ∀ j, j ∉ W_X12_village → σ j = σ0 j := ⟨σ0, hI, e24, fun _ _ => rfl⟩
  show WX RM_X12_village p l e s m args below meth c HB (some (.int q.1)) (B_X12_village HB D y n κ σ0 q) s.heap [] (F0 m 0 ls [])
  generalize s.heap = H at hI ⊢
  unfold f_X12_village at h
  obtain ⟨locs, hlocs⟩ : ∃ x : List Loc, x = [] := ⟨_, rfl⟩
  rw [← hlocs] at hI ⊢
  refine lv_iload_n hx hb dX12_village_0 rfl (lv_at hl 1 rfl) ?_
  refine lv_iconst (v := 1) hx hb dX12_village_1 (by decide) ?_
  refine lv_bipush (v := 60) hx hb dX12_village_2 (by decide) ?_
  obtain ⟨q_4, hq_4, h⟩ := ob_e h
  refine r_callS (As := [.int v1, .int 1, .int 60]) (rest := []) hx hb hml hts hown (c_X12_in l HB D y F n κ σ hN v1 1 60  q_4 hq_4) cal_X12_in st_X12_in lm_X12_260 ⟨Nat.le_of_ble_eq_true rfl, Nat.le_of_ble_eq_true rfl⟩ hI.nil hKK rfl hl.1 hI.2.2 rfl (Nat.le_of_ble_eq_true rfl) dX12_village_4 ⟨Nat.le_of_ble_eq_true rfl, Nat.le_of_ble_eq_true rfl⟩ rfl rfl rfl (fun H locs hB hlo => ?_)
  have hI := hB.re hlo
  refine lv_if_eq (tgt := 30) hx hb dX12_village_7 (by decide) (fun hc => ?_) (fun hc => ?_)
  · replace h := ite_t hc h
    refine lv_iconst (v := (-1)) hx hb dX12_village_30 (by decide) ?_
    have hq := Option.some.inj h
    exact W.iret (v := (-1)) hx hb hr (fun t ht hW => qc_mk (congrArg (fun z => Outcome.returned (some (Value.int z.1))) hq) (by rw [ht]; exact ⟨σ, hI.nil, e24.trans (congrArg (fun z => z.2) hq), fr⟩)) hI.2.2 dX12_village_31 hlocks
  · replace h := ite_f hc h
    refine lv_iload_n hx hb dX12_village_10 rfl (lv_at hl 2 rfl) ?_
    refine lv_iconst (v := 0) hx hb dX12_village_11 (by decide) ?_
    refine lv_sipush (v := 4095) hx hb dX12_village_12 (by decide) ?_
    obtain ⟨q_15, hq_15, h⟩ := ob_e h
    refine r_callS (As := [.int v2, .int 0, .int 4095]) (rest := []) hx hb hml hts hown (c_X12_in l HB D y F n κ σ hN v2 0 4095  q_15 hq_15) cal_X12_in st_X12_in lm_X12_260 ⟨Nat.le_of_ble_eq_true rfl, Nat.le_of_ble_eq_true rfl⟩ hI.nil hKK rfl hl.1 hI.2.2 rfl (Nat.le_of_ble_eq_true rfl) dX12_village_15 ⟨Nat.le_of_ble_eq_true rfl, Nat.le_of_ble_eq_true rfl⟩ rfl rfl rfl (fun H locs hB hlo => ?_)
    have hI := hB.re hlo
    refine lv_if_eq (tgt := 30) hx hb dX12_village_18 (by decide) (fun hc => ?_) (fun hc => ?_)
    · replace h := ite_t hc h
      refine lv_iconst (v := (-1)) hx hb dX12_village_30 (by decide) ?_
      have hq := Option.some.inj h
      exact W.iret (v := (-1)) hx hb hr (fun t ht hW => qc_mk (congrArg (fun z => Outcome.returned (some (Value.int z.1))) hq) (by rw [ht]; exact ⟨σ, hI.nil, e24.trans (congrArg (fun z => z.2) hq), fr⟩)) hI.2.2 dX12_village_31 hlocks
    · replace h := ite_f hc h
      refine lv_aload_n hx hb dX12_village_21 rfl (lv_at hl 0 rfl) ?_
      refine gt_X12_264 hx hb hts hown hKK hI e24 (lc91 hN) (kc91 hk0) dX12_village_22 ?_
      refine lv_bipush (v := 6) hx hb dX12_village_25 (by decide) ?_
      refine lv_icmp_ne (tgt := 32) hx hb dX12_village_27 (by decide) (fun hc => ?_) (fun hc => ?_)
      · replace h := ite_f hc h
        refine lv_aload_n hx hb dX12_village_32 rfl (lv_at hl 0 rfl) ?_
        refine gf_X12_7 hx hb hts hown hKK hI hN dX12_village_33 ?_
        refine lv_aload_n hx hb dX12_village_36 rfl (lv_at hl 0 rfl) ?_
        refine gt_X12_264 hx hb hts hown hKK hI e24 (lc91 hN) (kc91 hk0) dX12_village_37 ?_
        refine lv_iload_n hx hb dX12_village_40 rfl (lv_at hl 1 rfl) ?_
        obtain ⟨hin_, h⟩ := ck_e h
        obtain ⟨G24_41, qq, h⟩ := bn_e h
        refine sa_42 hx hb hKK hI e24 (lc92 hN) (kc92 hk0) hin_ dX12_village_41 (fun σ H locs hI ew ho => ?_)
        have e24 := ew.trans qq.symm
        have fr := frs fr ho (by decide)
        refine lv_aload_n hx hb dX12_village_42 rfl (lv_at hl 0 rfl) ?_
        refine gf_X12_13 hx hb hts hown hKK hI hN dX12_village_43 ?_
        refine lv_aload_n hx hb dX12_village_46 rfl (lv_at hl 0 rfl) ?_
        refine gt_X12_264 hx hb hts hown hKK hI e24 (lc91 hN) (kc91 hk0) dX12_village_47 ?_
        refine lv_iload_n hx hb dX12_village_50 rfl (lv_at hl 2 rfl) ?_
        obtain ⟨hin_, h⟩ := ck_e h
        obtain ⟨G24_51, qq, h⟩ := bn_e h
        refine sa_42 hx hb hKK hI e24 (lc93 hN) (kc93 hk0) hin_ dX12_village_51 (fun σ H locs hI ew ho => ?_)
        have e24 := ew.trans qq.symm
        have fr := frs fr ho (by decide)
        refine lv_aload_n hx hb dX12_village_52 rfl (lv_at hl 0 rfl) ?_
        refine lv_aload_n hx hb dX12_village_53 rfl (lv_at hl 0 rfl) ?_
        refine gt_X12_264 hx hb hts hown hKK hI e24 (lc91 hN) (kc91 hk0) dX12_village_54 ?_
        refine lv_iconst (v := 1) hx hb dX12_village_57 (by decide) ?_
        refine lv_iadd hx hb dX12_village_58 ?_
        obtain ⟨G24_59, qq, h⟩ := bn_e h
        refine pt_X12_264 hx hb hts hown hKK hI e24 (lc91 hN) (kc91 hk0) dX12_village_59 (fun σ H locs hI ew ho => ?_)
        have e24 := ew.trans qq.symm
        have fr := frs fr ho (by decide)
        refine lv_aload_n hx hb dX12_village_62 rfl (lv_at hl 0 rfl) ?_
        refine gt_X12_264 hx hb hts hown hKK hI e24 (lc91 hN) (kc91 hk0) dX12_village_63 ?_
        refine lv_iconst (v := 1) hx hb dX12_village_66 (by decide) ?_
        refine lv_isub hx hb dX12_village_67 ?_
        have hq := Option.some.inj h
        exact W.iret (v := ((G24_59.1 91 1) - 1)) hx hb hr (fun t ht hW => qc_mk (congrArg (fun z => Outcome.returned (some (Value.int z.1))) hq) (by rw [ht]; exact ⟨σ, hI.nil, e24.trans (congrArg (fun z => z.2) hq), fr⟩)) hI.2.2 dX12_village_68 hlocks
      · replace h := ite_t hc h
        refine lv_iconst (v := (-1)) hx hb dX12_village_30 (by decide) ?_
        have hq := Option.some.inj h
        exact W.iret (v := (-1)) hx hb hr (fun t ht hW => qc_mk (congrArg (fun z => Outcome.returned (some (Value.int z.1))) hq) (by rw [ht]; exact ⟨σ, hI.nil, e24.trans (congrArg (fun z => z.2) hq), fr⟩)) hI.2.2 dX12_village_31 hlocks
noncomputable def f_X12_giver (F : Nat) (G24 : Grp) (v1 : Int32) : Option (Int32 × Grp) :=
  ob (f_X12_in F v1 0 5) (fun q_3 => if q_3 = 0 then some ((-1), G24) else if (G24.1 91 2) = 16 then some ((-1), G24) else ck (G24.1 91 2) 16 (bn (gI G24 94 (G24.1 91 2).toNatClampNeg v1) (fun G24_29 => bn (gI G24_29 91 2 ((G24_29.1 91 2) + 1)) (fun G24_37 => some (((G24_37.1 91 2) - 1), G24_37)))))
def RM_X12_giver : Room := { frames := 1, cells := 0, slots := 0, locals := 22 }
abbrev W_X12_giver : List Nat := [24]
abbrev B_X12_giver (HB : Heap) (D : va_G) (y : Nat → ClassId) (n : Nat) (κ : Nat → Nat) (σ0 : St) (q : Int32 × Grp) : Heap → Prop := fun H => ∃ σ : St, IV HB D y n n κ σ [] H ∧ σ 24 = q.2 ∧ ∀ j, j ∉ W_X12_giver → σ j = σ0 j
set_option maxRecDepth 100000 in
set_option maxHeartbeats 4000000 in
theorem c_X12_giver (l : Launch) (HB : Heap) (D : va_G) (y : Nat → ClassId) (F n : Nat) (κ : Nat → Nat) (σ0 : St) (hN : N0 ≤ n) (v1 : Int32)  (G24 : Grp) (e24 : σ0 24 = G24) (q : Int32 × Grp) (h : f_X12_giver F G24 v1 = some q) : MT l HB D y yX12_giver cX12_giver 2 (some .int) RM_X12_giver [.ref (HB.size + 91), .int v1] (IV HB D y n n κ σ0 []) (some (.int q.1)) (B_X12_giver HB D y n κ σ0 q) := by
  refine Met.ofW (cc := cX12_giver) (maxL := 2) (ret := (some .int)) (by decide) rfl ?_
  intro p e s m args below meth c s₁ BL hml hv
  obtain ⟨rfl, hI, hKK⟩ := hv
  have hx := BL.exec
  have hb := BL.bytes
  have hr := BL.returns
  have hts : ∀ w ∈ gtb, w.before _ s = true := fun w hw => atoms_spec BL.pre w (List.mem_cons_of_mem _ hw)
  have hml : c.maxLocals = 2 := hml
  have hown : s.vm.findClass RX12 = some m.cls := findClass_of_methodNamed BL.named
  have hlocks := BL.notSynchronized
  have hk0 := hI.1.2.2.2.2
  have hl := lv_entry ([.ref (HB.size + 91), .int v1]) (n := 2) (Nat.le_of_ble_eq_true rfl)
  rw [lg_entry_eq]
  generalize (lg_sl ([.ref (HB.size + 91), .int v1]) ++ List.replicate (2 - (lg_sl ([.ref (HB.size + 91), .int v1])).length) Slot.unset).toArray = ls at hl ⊢
  have hl : lv_has ls 2 [(0, .ref (HB.size + 91)), (1, .int v1)] := hl
  generalize hargs : ([.ref (HB.size + 91), .int v1] : List Value).toArray = args at *
  obtain ⟨σ, hI, e24, fr⟩ : ∃ σ : St, IV HB D y n n κ σ [] s.heap ∧ σ 24 = G24 ∧ ∀ j, j ∉ W_X12_giver → σ j = σ0 j := ⟨σ0, hI, e24, fun _ _ => rfl⟩
  show WX RM_X12_giver p l e s m args below meth c HB (some (.int q.1)) (B_X12_giver HB D y n κ σ0 q) s.heap [] (F0 m 0 ls [])
  generalize s.heap = H at hI ⊢
  unfold f_X12_giver at h
  obtain ⟨locs, hlocs⟩ : ∃ x : List Loc, x = [] := ⟨_, rfl⟩
  rw [← hlocs] at hI ⊢
  refine lv_iload_n hx hb dX12_giver_0 rfl (lv_at hl 1 rfl) ?_
  refine lv_iconst (v := 0) hx hb dX12_giver_1 (by decide) ?_
  refine lv_iconst (v := 5) hx hb dX12_giver_2 (by decide) ?_
  obtain ⟨q_3, hq_3, h⟩ := ob_e h
  refine r_callS (As := [.int v1, .int 0, .int 5]) (rest := []) hx hb hml hts hown (c_X12_in l HB D y F n κ σ hN v1 0 5  q_3 hq_3) cal_X12_in st_X12_in lm_X12_260 ⟨Nat.le_of_ble_eq_true rfl, Nat.le_of_ble_eq_true rfl⟩ hI.nil hKK rfl hl.1 hI.2.2 rfl (Nat.le_of_ble_eq_true rfl) dX12_giver_3 ⟨Nat.le_of_ble_eq_true rfl, Nat.le_of_ble_eq_true rfl⟩ rfl rfl rfl (fun H locs hB hlo => ?_)
  have hI := hB.re hlo
  refine lv_if_eq (tgt := 18) hx hb dX12_giver_6 (by decide) (fun hc => ?_) (fun hc => ?_)
  · replace h := ite_t hc h
    refine lv_iconst (v := (-1)) hx hb dX12_giver_18 (by decide) ?_
    have hq := Option.some.inj h
    exact W.iret (v := (-1)) hx hb hr (fun t ht hW => qc_mk (congrArg (fun z => Outcome.returned (some (Value.int z.1))) hq) (by rw [ht]; exact ⟨σ, hI.nil, e24.trans (congrArg (fun z => z.2) hq), fr⟩)) hI.2.2 dX12_giver_19 hlocks
  · replace h := ite_f hc h
    refine lv_aload_n hx hb dX12_giver_9 rfl (lv_at hl 0 rfl) ?_
    refine gt_X12_268 hx hb hts hown hKK hI e24 (lc91 hN) (kc91 hk0) dX12_giver_10 ?_
    refine lv_bipush (v := 16) hx hb dX12_giver_13 (by decide) ?_
    refine lv_icmp_ne (tgt := 20) hx hb dX12_giver_15 (by decide) (fun hc => ?_) (fun hc => ?_)
    · replace h := ite_f hc h
      refine lv_aload_n hx hb dX12_giver_20 rfl (lv_at hl 0 rfl) ?_
      refine gf_X12_16 hx hb hts hown hKK hI hN dX12_giver_21 ?_
      refine lv_aload_n hx hb dX12_giver_24 rfl (lv_at hl 0 rfl) ?_
      refine gt_X12_268 hx hb hts hown hKK hI e24 (lc91 hN) (kc91 hk0) dX12_giver_25 ?_
      refine lv_iload_n hx hb dX12_giver_28 rfl (lv_at hl 1 rfl) ?_
      obtain ⟨hin_, h⟩ := ck_e h
      obtain ⟨G24_29, qq, h⟩ := bn_e h
      refine sa_43 hx hb hKK hI e24 (lc94 hN) (kc94 hk0) hin_ dX12_giver_29 (fun σ H locs hI ew ho => ?_)
      have e24 := ew.trans qq.symm
      have fr := frs fr ho (by decide)
      refine lv_aload_n hx hb dX12_giver_30 rfl (lv_at hl 0 rfl) ?_
      refine lv_aload_n hx hb dX12_giver_31 rfl (lv_at hl 0 rfl) ?_
      refine gt_X12_268 hx hb hts hown hKK hI e24 (lc91 hN) (kc91 hk0) dX12_giver_32 ?_
      refine lv_iconst (v := 1) hx hb dX12_giver_35 (by decide) ?_
      refine lv_iadd hx hb dX12_giver_36 ?_
      obtain ⟨G24_37, qq, h⟩ := bn_e h
      refine pt_X12_268 hx hb hts hown hKK hI e24 (lc91 hN) (kc91 hk0) dX12_giver_37 (fun σ H locs hI ew ho => ?_)
      have e24 := ew.trans qq.symm
      have fr := frs fr ho (by decide)
      refine lv_aload_n hx hb dX12_giver_40 rfl (lv_at hl 0 rfl) ?_
      refine gt_X12_268 hx hb hts hown hKK hI e24 (lc91 hN) (kc91 hk0) dX12_giver_41 ?_
      refine lv_iconst (v := 1) hx hb dX12_giver_44 (by decide) ?_
      refine lv_isub hx hb dX12_giver_45 ?_
      have hq := Option.some.inj h
      exact W.iret (v := ((G24_37.1 91 2) - 1)) hx hb hr (fun t ht hW => qc_mk (congrArg (fun z => Outcome.returned (some (Value.int z.1))) hq) (by rw [ht]; exact ⟨σ, hI.nil, e24.trans (congrArg (fun z => z.2) hq), fr⟩)) hI.2.2 dX12_giver_46 hlocks
    · replace h := ite_t hc h
      refine lv_iconst (v := (-1)) hx hb dX12_giver_18 (by decide) ?_
      have hq := Option.some.inj h
      exact W.iret (v := (-1)) hx hb hr (fun t ht hW => qc_mk (congrArg (fun z => Outcome.returned (some (Value.int z.1))) hq) (by rw [ht]; exact ⟨σ, hI.nil, e24.trans (congrArg (fun z => z.2) hq), fr⟩)) hI.2.2 dX12_giver_19 hlocks
noncomputable def f_X12_child (F : Nat) (G24 : Grp) (v1 : Int32) (v2 : Int32) (v3 : Int32) (v4 : Int32) : Option (Int32 × Grp) :=
  ob (f_X12_in F v1 0 ((G24.1 91 1) - 1)) (fun q_8 => if q_8 = 0 then some ((-1), G24) else ob (f_X12_in F v2 0 5) (fun q_17 => if q_17 = 0 then some ((-1), G24) else ob (f_X12_in F v3 0 4) (fun q_26 => if q_26 = 0 then some ((-1), G24) else ob (f_X12_in F v4 (-1) ((G24.1 91 3) - 1)) (fun q_41 => if q_41 = 0 then some ((-1), G24) else if (G24.1 91 3) = 16 then some ((-1), G24) else ck (G24.1 91 3) 16 (bn (gI G24 95 (G24.1 91 3).toNatClampNeg v1) (fun G24_67 => ck (G24_67.1 91 3) 16 (bn (gI G24_67 96 (G24_67.1 91 3).toNatClampNeg v2) (fun G24_77 => ck (G24_77.1 91 3) 16 (bn (gI G24_77 97 (G24_77.1 91 3).toNatClampNeg v3) (fun G24_87 => ck (G24_87.1 91 3) 16 (bn (gI G24_87 98 (G24_87.1 91 3).toNatClampNeg v4) (fun G24_98 => bn (gI G24_98 91 3 ((G24_98.1 91 3) + 1)) (fun G24_106 => some (((G24_106.1 91 3) - 1), G24_106))))))))))))))
def RM_X12_child : Room := { frames := 1, cells := 0, slots := 0, locals := 22 }
abbrev W_X12_child : List Nat := [24]
abbrev B_X12_child (HB : Heap) (D : va_G) (y : Nat → ClassId) (n : Nat) (κ : Nat → Nat) (σ0 : St) (q : Int32 × Grp) : Heap → Prop := fun H => ∃ σ : St, IV HB D y n n κ σ [] H ∧ σ 24 = q.2 ∧ ∀ j, j ∉ W_X12_child → σ j = σ0 j
set_option maxRecDepth 100000 in
set_option maxHeartbeats 4000000 in
theorem c_X12_child (l : Launch) (HB : Heap) (D : va_G) (y : Nat → ClassId) (F n : Nat) (κ : Nat → Nat) (σ0 : St) (hN : N0 ≤ n) (v1 : Int32)  (v2 : Int32)  (v3 : Int32)  (v4 : Int32)  (G24 : Grp) (e24 : σ0 24 = G24) (q : Int32 × Grp) (h : f_X12_child F G24 v1 v2 v3 v4 = some q) : MT l HB D y yX12_child cX12_child 5 (some .int) RM_X12_child [.ref (HB.size + 91), .int v1, .int v2, .int v3, .int v4] (IV HB D y n n κ σ0 []) (some (.int q.1)) (B_X12_child HB D y n κ σ0 q) := by
  refine Met.ofW (cc := cX12_child) (maxL := 5) (ret := (some .int)) (by decide) rfl ?_
  intro p e s m args below meth c s₁ BL hml hv
  obtain ⟨rfl, hI, hKK⟩ := hv
  have hx := BL.exec
  have hb := BL.bytes
  have hr := BL.returns
  have hts : ∀ w ∈ gtb, w.before _ s = true := fun w hw => atoms_spec BL.pre w (List.mem_cons_of_mem _ hw)
  have hml : c.maxLocals = 5 := hml
  have hown : s.vm.findClass RX12 = some m.cls := findClass_of_methodNamed BL.named
  have hlocks := BL.notSynchronized
  have hk0 := hI.1.2.2.2.2
  have hl := lv_entry ([.ref (HB.size + 91), .int v1, .int v2, .int v3, .int v4]) (n := 5) (Nat.le_of_ble_eq_true rfl)
  rw [lg_entry_eq]
  generalize (lg_sl ([.ref (HB.size + 91), .int v1, .int v2, .int v3, .int v4]) ++ List.replicate (5 - (lg_sl ([.ref (HB.size + 91), .int v1, .int v2, .int v3, .int v4])).length) Slot.unset).toArray = ls at hl ⊢
  have hl : lv_has ls 5 [(0, .ref (HB.size + 91)), (1, .int v1), (2, .int v2), (3, .int v3), (4, .int v4)] := hl
  generalize hargs : ([.ref (HB.size + 91), .int v1, .int v2, .int v3, .int v4] : List Value).toArray = args at *
  obtain ⟨σ, hI, e24, fr⟩ : ∃ σ : St, IV HB D y n n κ σ [] s.heap ∧ σ 24 = G24 ∧ ∀ j, j ∉ W_X12_child → σ j = σ0 j := ⟨σ0, hI, e24, fun _ _ => rfl⟩
  show WX RM_X12_child p l e s m args below meth c HB (some (.int q.1)) (B_X12_child HB D y n κ σ0 q) s.heap [] (F0 m 0 ls [])
  generalize s.heap = H at hI ⊢
  unfold f_X12_child at h
  obtain ⟨locs, hlocs⟩ : ∃ x : List Loc, x = [] := ⟨_, rfl⟩
  rw [← hlocs] at hI ⊢
  refine lv_iload_n hx hb dX12_child_0 rfl (lv_at hl 1 rfl) ?_
  refine lv_iconst (v := 0) hx hb dX12_child_1 (by decide) ?_
  refine lv_aload_n hx hb dX12_child_2 rfl (lv_at hl 0 rfl) ?_
  refine gt_X12_264 hx hb hts hown hKK hI e24 (lc91 hN) (kc91 hk0) dX12_child_3 ?_
  refine lv_iconst (v := 1) hx hb dX12_child_6 (by decide) ?_
  refine lv_isub hx hb dX12_child_7 ?_
  obtain ⟨q_8, hq_8, h⟩ := ob_e h
  refine r_callS (As := [.int v1, .int 0, .int ((G24.1 91 1) - 1)]) (rest := []) hx hb hml hts hown (c_X12_in l HB D y F n κ σ hN v1 0 ((G24.1 91 1) - 1)  q_8 hq_8) cal_X12_in st_X12_in lm_X12_260 ⟨Nat.le_of_ble_eq_true rfl, Nat.le_of_ble_eq_true rfl⟩ hI.nil hKK rfl hl.1 hI.2.2 rfl (Nat.le_of_ble_eq_true rfl) dX12_child_8 ⟨Nat.le_of_ble_eq_true rfl, Nat.le_of_ble_eq_true rfl⟩ rfl rfl rfl (fun H locs hB hlo => ?_)
  have hI := hB.re hlo
  refine lv_if_eq (tgt := 56) hx hb dX12_child_11 (by decide) (fun hc => ?_) (fun hc => ?_)
  · replace h := ite_t hc h
    refine lv_iconst (v := (-1)) hx hb dX12_child_56 (by decide) ?_
    have hq := Option.some.inj h
    exact W.iret (v := (-1)) hx hb hr (fun t ht hW => qc_mk (congrArg (fun z => Outcome.returned (some (Value.int z.1))) hq) (by rw [ht]; exact ⟨σ, hI.nil, e24.trans (congrArg (fun z => z.2) hq), fr⟩)) hI.2.2 dX12_child_57 hlocks
  · replace h := ite_f hc h
    refine lv_iload_n hx hb dX12_child_14 rfl (lv_at hl 2 rfl) ?_
    refine lv_iconst (v := 0) hx hb dX12_child_15 (by decide) ?_
    refine lv_iconst (v := 5) hx hb dX12_child_16 (by decide) ?_
    obtain ⟨q_17, hq_17, h⟩ := ob_e h
    refine r_callS (As := [.int v2, .int 0, .int 5]) (rest := []) hx hb hml hts hown (c_X12_in l HB D y F n κ σ hN v2 0 5  q_17 hq_17) cal_X12_in st_X12_in lm_X12_260 ⟨Nat.le_of_ble_eq_true rfl, Nat.le_of_ble_eq_true rfl⟩ hI.nil hKK rfl hl.1 hI.2.2 rfl (Nat.le_of_ble_eq_true rfl) dX12_child_17 ⟨Nat.le_of_ble_eq_true rfl, Nat.le_of_ble_eq_true rfl⟩ rfl rfl rfl (fun H locs hB hlo => ?_)
    have hI := hB.re hlo
    refine lv_if_eq (tgt := 56) hx hb dX12_child_20 (by decide) (fun hc => ?_) (fun hc => ?_)
    · replace h := ite_t hc h
      refine lv_iconst (v := (-1)) hx hb dX12_child_56 (by decide) ?_
      have hq := Option.some.inj h
      exact W.iret (v := (-1)) hx hb hr (fun t ht hW => qc_mk (congrArg (fun z => Outcome.returned (some (Value.int z.1))) hq) (by rw [ht]; exact ⟨σ, hI.nil, e24.trans (congrArg (fun z => z.2) hq), fr⟩)) hI.2.2 dX12_child_57 hlocks
    · replace h := ite_f hc h
      refine lv_iload_n hx hb dX12_child_23 rfl (lv_at hl 3 rfl) ?_
      refine lv_iconst (v := 0) hx hb dX12_child_24 (by decide) ?_
      refine lv_iconst (v := 4) hx hb dX12_child_25 (by decide) ?_
      obtain ⟨q_26, hq_26, h⟩ := ob_e h
      refine r_callS (As := [.int v3, .int 0, .int 4]) (rest := []) hx hb hml hts hown (c_X12_in l HB D y F n κ σ hN v3 0 4  q_26 hq_26) cal_X12_in st_X12_in lm_X12_260 ⟨Nat.le_of_ble_eq_true rfl, Nat.le_of_ble_eq_true rfl⟩ hI.nil hKK rfl hl.1 hI.2.2 rfl (Nat.le_of_ble_eq_true rfl) dX12_child_26 ⟨Nat.le_of_ble_eq_true rfl, Nat.le_of_ble_eq_true rfl⟩ rfl rfl rfl (fun H locs hB hlo => ?_)
      have hI := hB.re hlo
      refine lv_if_eq (tgt := 56) hx hb dX12_child_29 (by decide) (fun hc => ?_) (fun hc => ?_)
      · replace h := ite_t hc h
        refine lv_iconst (v := (-1)) hx hb dX12_child_56 (by decide) ?_
        have hq := Option.some.inj h
        exact W.iret (v := (-1)) hx hb hr (fun t ht hW => qc_mk (congrArg (fun z => Outcome.returned (some (Value.int z.1))) hq) (by rw [ht]; exact ⟨σ, hI.nil, e24.trans (congrArg (fun z => z.2) hq), fr⟩)) hI.2.2 dX12_child_57 hlocks
      · replace h := ite_f hc h
        refine lv_iload hx hb dX12_child_32 (lv_at hl 4 rfl) ?_
        refine lv_iconst (v := (-1)) hx hb dX12_child_34 (by decide) ?_
        refine lv_aload_n hx hb dX12_child_35 rfl (lv_at hl 0 rfl) ?_
        refine gt_X12_271 hx hb hts hown hKK hI e24 (lc91 hN) (kc91 hk0) dX12_child_36 ?_
        refine lv_iconst (v := 1) hx hb dX12_child_39 (by decide) ?_
        refine lv_isub hx hb dX12_child_40 ?_
        obtain ⟨q_41, hq_41, h⟩ := ob_e h
        refine r_callS (As := [.int v4, .int (-1), .int ((G24.1 91 3) - 1)]) (rest := []) hx hb hml hts hown (c_X12_in l HB D y F n κ σ hN v4 (-1) ((G24.1 91 3) - 1)  q_41 hq_41) cal_X12_in st_X12_in lm_X12_260 ⟨Nat.le_of_ble_eq_true rfl, Nat.le_of_ble_eq_true rfl⟩ hI.nil hKK rfl hl.1 hI.2.2 rfl (Nat.le_of_ble_eq_true rfl) dX12_child_41 ⟨Nat.le_of_ble_eq_true rfl, Nat.le_of_ble_eq_true rfl⟩ rfl rfl rfl (fun H locs hB hlo => ?_)
        have hI := hB.re hlo
        refine lv_if_eq (tgt := 56) hx hb dX12_child_44 (by decide) (fun hc => ?_) (fun hc => ?_)
        · replace h := ite_t hc h
          refine lv_iconst (v := (-1)) hx hb dX12_child_56 (by decide) ?_
          have hq := Option.some.inj h
          exact W.iret (v := (-1)) hx hb hr (fun t ht hW => qc_mk (congrArg (fun z => Outcome.returned (some (Value.int z.1))) hq) (by rw [ht]; exact ⟨σ, hI.nil, e24.trans (congrArg (fun z => z.2) hq), fr⟩)) hI.2.2 dX12_child_57 hlocks
        · replace h := ite_f hc h
          refine lv_aload_n hx hb dX12_child_47 rfl (lv_at hl 0 rfl) ?_
          refine gt_X12_271 hx hb hts hown hKK hI e24 (lc91 hN) (kc91 hk0) dX12_child_48 ?_
          refine lv_bipush (v := 16) hx hb dX12_child_51 (by decide) ?_
          refine lv_icmp_ne (tgt := 58) hx hb dX12_child_53 (by decide) (fun hc => ?_) (fun hc => ?_)
          · replace h := ite_f hc h
            refine lv_aload_n hx hb dX12_child_58 rfl (lv_at hl 0 rfl) ?_
            refine gf_X12_19 hx hb hts hown hKK hI hN dX12_child_59 ?_
            refine lv_aload_n hx hb dX12_child_62 rfl (lv_at hl 0 rfl) ?_
            refine gt_X12_271 hx hb hts hown hKK hI e24 (lc91 hN) (kc91 hk0) dX12_child_63 ?_
            refine lv_iload_n hx hb dX12_child_66 rfl (lv_at hl 1 rfl) ?_
            obtain ⟨hin_, h⟩ := ck_e h
            obtain ⟨G24_67, qq, h⟩ := bn_e h
            refine sa_43 hx hb hKK hI e24 (lc95 hN) (kc95 hk0) hin_ dX12_child_67 (fun σ H locs hI ew ho => ?_)
            have e24 := ew.trans qq.symm
            have fr := frs fr ho (by decide)
            refine lv_aload_n hx hb dX12_child_68 rfl (lv_at hl 0 rfl) ?_
            refine gf_X12_22 hx hb hts hown hKK hI hN dX12_child_69 ?_
            refine lv_aload_n hx hb dX12_child_72 rfl (lv_at hl 0 rfl) ?_
            refine gt_X12_271 hx hb hts hown hKK hI e24 (lc91 hN) (kc91 hk0) dX12_child_73 ?_
            refine lv_iload_n hx hb dX12_child_76 rfl (lv_at hl 2 rfl) ?_
            obtain ⟨hin_, h⟩ := ck_e h
            obtain ⟨G24_77, qq, h⟩ := bn_e h
            refine sa_43 hx hb hKK hI e24 (lc96 hN) (kc96 hk0) hin_ dX12_child_77 (fun σ H locs hI ew ho => ?_)
            have e24 := ew.trans qq.symm
            have fr := frs fr ho (by decide)
            refine lv_aload_n hx hb dX12_child_78 rfl (lv_at hl 0 rfl) ?_
            refine gf_X12_25 hx hb hts hown hKK hI hN dX12_child_79 ?_
            refine lv_aload_n hx hb dX12_child_82 rfl (lv_at hl 0 rfl) ?_
            refine gt_X12_271 hx hb hts hown hKK hI e24 (lc91 hN) (kc91 hk0) dX12_child_83 ?_
            refine lv_iload_n hx hb dX12_child_86 rfl (lv_at hl 3 rfl) ?_
            obtain ⟨hin_, h⟩ := ck_e h
            obtain ⟨G24_87, qq, h⟩ := bn_e h
            refine sa_43 hx hb hKK hI e24 (lc97 hN) (kc97 hk0) hin_ dX12_child_87 (fun σ H locs hI ew ho => ?_)
            have e24 := ew.trans qq.symm
            have fr := frs fr ho (by decide)
            refine lv_aload_n hx hb dX12_child_88 rfl (lv_at hl 0 rfl) ?_
            refine gf_X12_28 hx hb hts hown hKK hI hN dX12_child_89 ?_
            refine lv_aload_n hx hb dX12_child_92 rfl (lv_at hl 0 rfl) ?_
            refine gt_X12_271 hx hb hts hown hKK hI e24 (lc91 hN) (kc91 hk0) dX12_child_93 ?_
            refine lv_iload hx hb dX12_child_96 (lv_at hl 4 rfl) ?_
            obtain ⟨hin_, h⟩ := ck_e h
            obtain ⟨G24_98, qq, h⟩ := bn_e h
            refine sa_43 hx hb hKK hI e24 (lc98 hN) (kc98 hk0) hin_ dX12_child_98 (fun σ H locs hI ew ho => ?_)
            have e24 := ew.trans qq.symm
            have fr := frs fr ho (by decide)
            refine lv_aload_n hx hb dX12_child_99 rfl (lv_at hl 0 rfl) ?_
            refine lv_aload_n hx hb dX12_child_100 rfl (lv_at hl 0 rfl) ?_
            refine gt_X12_271 hx hb hts hown hKK hI e24 (lc91 hN) (kc91 hk0) dX12_child_101 ?_
            refine lv_iconst (v := 1) hx hb dX12_child_104 (by decide) ?_
            refine lv_iadd hx hb dX12_child_105 ?_
            obtain ⟨G24_106, qq, h⟩ := bn_e h
            refine pt_X12_271 hx hb hts hown hKK hI e24 (lc91 hN) (kc91 hk0) dX12_child_106 (fun σ H locs hI ew ho => ?_)
            have e24 := ew.trans qq.symm
            have fr := frs fr ho (by decide)
            refine lv_aload_n hx hb dX12_child_109 rfl (lv_at hl 0 rfl) ?_
            refine gt_X12_271 hx hb hts hown hKK hI e24 (lc91 hN) (kc91 hk0) dX12_child_110 ?_
            refine lv_iconst (v := 1) hx hb dX12_child_113 (by decide) ?_
            refine lv_isub hx hb dX12_child_114 ?_
            have hq := Option.some.inj h
            exact W.iret (v := ((G24_106.1 91 3) - 1)) hx hb hr (fun t ht hW => qc_mk (congrArg (fun z => Outcome.returned (some (Value.int z.1))) hq) (by rw [ht]; exact ⟨σ, hI.nil, e24.trans (congrArg (fun z => z.2) hq), fr⟩)) hI.2.2 dX12_child_115 hlocks
          · replace h := ite_t hc h
            refine lv_iconst (v := (-1)) hx hb dX12_child_56 (by decide) ?_
            have hq := Option.some.inj h
            exact W.iret (v := (-1)) hx hb hr (fun t ht hW => qc_mk (congrArg (fun z => Outcome.returned (some (Value.int z.1))) hq) (by rw [ht]; exact ⟨σ, hI.nil, e24.trans (congrArg (fun z => z.2) hq), fr⟩)) hI.2.2 dX12_child_57 hlocks
noncomputable def f_X12_isGiver (F : Nat) (G24 : Grp) (v1 : Int32) : Option (Int32) :=
  if v1 < 0 then some 0 else if (G24.1 91 2) ≤ v1 then some 0 else some 1
def RM_X12_isGiver : Room := { frames := 0, cells := 0, slots := 0, locals := 0 }
abbrev B_X12_isGiver (HB : Heap) (D : va_G) (y : Nat → ClassId) (n : Nat) (κ : Nat → Nat) (σ : St) (q : Int32) : Heap → Prop := fun H => IV HB D y n n κ σ [] H
set_option maxRecDepth 100000 in
set_option maxHeartbeats 4000000 in
theorem c_X12_isGiver (l : Launch) (HB : Heap) (D : va_G) (y : Nat → ClassId) (F n : Nat) (κ : Nat → Nat) (σ : St) (hN : N0 ≤ n) (v1 : Int32)  (G24 : Grp) (e24 : σ 24 = G24) (q : Int32) (h : f_X12_isGiver F G24 v1 = some q) : MT l HB D y yX12_isGiver cX12_isGiver 2 (some .boolean) RM_X12_isGiver [.ref (HB.size + 91), .int v1] (IV HB D y n n κ σ []) (some (.int q)) (B_X12_isGiver HB D y n κ σ q) := by
  refine Met.ofW (cc := cX12_isGiver) (maxL := 2) (ret := (some .boolean)) (by decide) rfl ?_
  intro p e s m args below meth c s₁ BL hml hv
  obtain ⟨rfl, hI, hKK⟩ := hv
  have hx := BL.exec
  have hb := BL.bytes
  have hr := BL.returns
  have hts : ∀ w ∈ gtb, w.before _ s = true := fun w hw => atoms_spec BL.pre w (List.mem_cons_of_mem _ hw)
  have hml : c.maxLocals = 2 := hml
  have hown : s.vm.findClass RX12 = some m.cls := findClass_of_methodNamed BL.named
  have hlocks := BL.notSynchronized
  have hk0 := hI.1.2.2.2.2
  have hl := lv_entry ([.ref (HB.size + 91), .int v1]) (n := 2) (Nat.le_of_ble_eq_true rfl)
  rw [lg_entry_eq]
  generalize (lg_sl ([.ref (HB.size + 91), .int v1]) ++ List.replicate (2 - (lg_sl ([.ref (HB.size + 91), .int v1])).length) Slot.unset).toArray = ls at hl ⊢
  have hl : lv_has ls 2 [(0, .ref (HB.size + 91)), (1, .int v1)] := hl
  generalize hargs : ([.ref (HB.size + 91), .int v1] : List Value).toArray = args at *
  show WX RM_X12_isGiver p l e s m args below meth c HB (some (.int q)) (B_X12_isGiver HB D y n κ σ q) s.heap [] (F0 m 0 ls [])
  generalize s.heap = H at hI ⊢
  unfold f_X12_isGiver at h
  obtain ⟨locs, hlocs⟩ : ∃ x : List Loc, x = [] := ⟨_, rfl⟩
  rw [← hlocs] at hI ⊢
  refine lv_iload_n hx hb dX12_isGiver_0 rfl (lv_at hl 1 rfl) ?_
  refine lv_if_lt (tgt := 16) hx hb dX12_isGiver_1 (by decide) (fun hc => ?_) (fun hc => ?_)
  · replace h := ite_t hc h
    refine lv_iconst (v := 0) hx hb dX12_isGiver_16 (by decide) ?_
    have hq := Option.some.inj h
    exact W.zret (v := 0) (ty := .boolean) hx hb hr rfl (fun t ht hW => qc_mk (congrArg (fun z => Outcome.returned (some (Value.int z))) hq) (by rw [ht]; exact hI.nil)) hI.2.2 dX12_isGiver_17 hlocks
  · replace h := ite_f hc h
    refine lv_iload_n hx hb dX12_isGiver_4 rfl (lv_at hl 1 rfl) ?_
    refine lv_aload_n hx hb dX12_isGiver_5 rfl (lv_at hl 0 rfl) ?_
    refine gt_X12_268 hx hb hts hown hKK hI e24 (lc91 hN) (kc91 hk0) dX12_isGiver_6 ?_
    refine lv_icmp_ge (tgt := 16) hx hb dX12_isGiver_9 (by decide) (fun hc => ?_) (fun hc => ?_)
    · replace h := ite_t hc h
      refine lv_iconst (v := 0) hx hb dX12_isGiver_16 (by decide) ?_
      have hq := Option.some.inj h
      exact W.zret (v := 0) (ty := .boolean) hx hb hr rfl (fun t ht hW => qc_mk (congrArg (fun z => Outcome.returned (some (Value.int z))) hq) (by rw [ht]; exact hI.nil)) hI.2.2 dX12_isGiver_17 hlocks
    · replace h := ite_f hc h
      refine lv_iconst (v := 1) hx hb dX12_isGiver_12 (by decide) ?_
      refine lv_goto (tgt := 17) hx hb dX12_isGiver_13 (by decide) ?_
      have hq := Option.some.inj h
      exact W.zret (v := 1) (ty := .boolean) hx hb hr rfl (fun t ht hW => qc_mk (congrArg (fun z => Outcome.returned (some (Value.int z))) hq) (by rw [ht]; exact hI.nil)) hI.2.2 dX12_isGiver_17 hlocks
noncomputable def f_X12_isChild (F : Nat) (G24 : Grp) (v1 : Int32) : Option (Int32) :=
  if v1 < 0 then some 0 else if (G24.1 91 3) ≤ v1 then some 0 else some 1
def RM_X12_isChild : Room := { frames := 0, cells := 0, slots := 0, locals := 0 }
abbrev B_X12_isChild (HB : Heap) (D : va_G) (y : Nat → ClassId) (n : Nat) (κ : Nat → Nat) (σ : St) (q : Int32) : Heap → Prop := fun H => IV HB D y n n κ σ [] H
set_option maxRecDepth 100000 in
set_option maxHeartbeats 4000000 in
theorem c_X12_isChild (l : Launch) (HB : Heap) (D : va_G) (y : Nat → ClassId) (F n : Nat) (κ : Nat → Nat) (σ : St) (hN : N0 ≤ n) (v1 : Int32)  (G24 : Grp) (e24 : σ 24 = G24) (q : Int32) (h : f_X12_isChild F G24 v1 = some q) : MT l HB D y yX12_isChild cX12_isChild 2 (some .boolean) RM_X12_isChild [.ref (HB.size + 91), .int v1] (IV HB D y n n κ σ []) (some (.int q)) (B_X12_isChild HB D y n κ σ q) := by
  refine Met.ofW (cc := cX12_isChild) (maxL := 2) (ret := (some .boolean)) (by decide) rfl ?_
  intro p e s m args below meth c s₁ BL hml hv
  obtain ⟨rfl, hI, hKK⟩ := hv
  have hx := BL.exec
  have hb := BL.bytes
  have hr := BL.returns
  have hts : ∀ w ∈ gtb, w.before _ s = true := fun w hw => atoms_spec BL.pre w (List.mem_cons_of_mem _ hw)
  have hml : c.maxLocals = 2 := hml
  have hown : s.vm.findClass RX12 = some m.cls := findClass_of_methodNamed BL.named
  have hlocks := BL.notSynchronized
  have hk0 := hI.1.2.2.2.2
  have hl := lv_entry ([.ref (HB.size + 91), .int v1]) (n := 2) (Nat.le_of_ble_eq_true rfl)
  rw [lg_entry_eq]
  generalize (lg_sl ([.ref (HB.size + 91), .int v1]) ++ List.replicate (2 - (lg_sl ([.ref (HB.size + 91), .int v1])).length) Slot.unset).toArray = ls at hl ⊢
  have hl : lv_has ls 2 [(0, .ref (HB.size + 91)), (1, .int v1)] := hl
  generalize hargs : ([.ref (HB.size + 91), .int v1] : List Value).toArray = args at *
  show WX RM_X12_isChild p l e s m args below meth c HB (some (.int q)) (B_X12_isChild HB D y n κ σ q) s.heap [] (F0 m 0 ls [])
  generalize s.heap = H at hI ⊢
  unfold f_X12_isChild at h
  obtain ⟨locs, hlocs⟩ : ∃ x : List Loc, x = [] := ⟨_, rfl⟩
  rw [← hlocs] at hI ⊢
  refine lv_iload_n hx hb dX12_isChild_0 rfl (lv_at hl 1 rfl) ?_
  refine lv_if_lt (tgt := 16) hx hb dX12_isChild_1 (by decide) (fun hc => ?_) (fun hc => ?_)
  · replace h := ite_t hc h
    refine lv_iconst (v := 0) hx hb dX12_isChild_16 (by decide) ?_
    have hq := Option.some.inj h
    exact W.zret (v := 0) (ty := .boolean) hx hb hr rfl (fun t ht hW => qc_mk (congrArg (fun z => Outcome.returned (some (Value.int z))) hq) (by rw [ht]; exact hI.nil)) hI.2.2 dX12_isChild_17 hlocks
  · replace h := ite_f hc h
    refine lv_iload_n hx hb dX12_isChild_4 rfl (lv_at hl 1 rfl) ?_
    refine lv_aload_n hx hb dX12_isChild_5 rfl (lv_at hl 0 rfl) ?_
    refine gt_X12_271 hx hb hts hown hKK hI e24 (lc91 hN) (kc91 hk0) dX12_isChild_6 ?_
    refine lv_icmp_ge (tgt := 16) hx hb dX12_isChild_9 (by decide) (fun hc => ?_) (fun hc => ?_)
    · replace h := ite_t hc h
      refine lv_iconst (v := 0) hx hb dX12_isChild_16 (by decide) ?_
      have hq := Option.some.inj h
      exact W.zret (v := 0) (ty := .boolean) hx hb hr rfl (fun t ht hW => qc_mk (congrArg (fun z => Outcome.returned (some (Value.int z))) hq) (by rw [ht]; exact hI.nil)) hI.2.2 dX12_isChild_17 hlocks
    · replace h := ite_f hc h
      refine lv_iconst (v := 1) hx hb dX12_isChild_12 (by decide) ?_
      refine lv_goto (tgt := 17) hx hb dX12_isChild_13 (by decide) ?_
      have hq := Option.some.inj h
      exact W.zret (v := 1) (ty := .boolean) hx hb hr rfl (fun t ht hW => qc_mk (congrArg (fun z => Outcome.returned (some (Value.int z))) hq) (by rw [ht]; exact hI.nil)) hI.2.2 dX12_isChild_17 hlocks
noncomputable def f_X12_isPair (F : Nat) (G25 : Grp) (v1 : Int32) : Option (Int32) :=
  if v1 < 0 then some 0 else if (G25.1 91 4) ≤ v1 then some 0 else some 1
def RM_X12_isPair : Room := { frames := 0, cells := 0, slots := 0, locals := 0 }
abbrev B_X12_isPair (HB : Heap) (D : va_G) (y : Nat → ClassId) (n : Nat) (κ : Nat → Nat) (σ : St) (q : Int32) : Heap → Prop := fun H => IV HB D y n n κ σ [] H
set_option maxRecDepth 100000 in
set_option maxHeartbeats 4000000 in
theorem c_X12_isPair (l : Launch) (HB : Heap) (D : va_G) (y : Nat → ClassId) (F n : Nat) (κ : Nat → Nat) (σ : St) (hN : N0 ≤ n) (v1 : Int32)  (G25 : Grp) (e25 : σ 25 = G25) (q : Int32) (h : f_X12_isPair F G25 v1 = some q) : MT l HB D y yX12_isPair cX12_isPair 2 (some .boolean) RM_X12_isPair [.ref (HB.size + 91), .int v1] (IV HB D y n n κ σ []) (some (.int q)) (B_X12_isPair HB D y n κ σ q) := by
  refine Met.ofW (cc := cX12_isPair) (maxL := 2) (ret := (some .boolean)) (by decide) rfl ?_
  intro p e s m args below meth c s₁ BL hml hv
  obtain ⟨rfl, hI, hKK⟩ := hv
  have hx := BL.exec
  have hb := BL.bytes
  have hr := BL.returns
  have hts : ∀ w ∈ gtb, w.before _ s = true := fun w hw => atoms_spec BL.pre w (List.mem_cons_of_mem _ hw)
  have hml : c.maxLocals = 2 := hml
  have hown : s.vm.findClass RX12 = some m.cls := findClass_of_methodNamed BL.named
  have hlocks := BL.notSynchronized
  have hk0 := hI.1.2.2.2.2
  have hl := lv_entry ([.ref (HB.size + 91), .int v1]) (n := 2) (Nat.le_of_ble_eq_true rfl)
  rw [lg_entry_eq]
  generalize (lg_sl ([.ref (HB.size + 91), .int v1]) ++ List.replicate (2 - (lg_sl ([.ref (HB.size + 91), .int v1])).length) Slot.unset).toArray = ls at hl ⊢
  have hl : lv_has ls 2 [(0, .ref (HB.size + 91)), (1, .int v1)] := hl
  generalize hargs : ([.ref (HB.size + 91), .int v1] : List Value).toArray = args at *
  show WX RM_X12_isPair p l e s m args below meth c HB (some (.int q)) (B_X12_isPair HB D y n κ σ q) s.heap [] (F0 m 0 ls [])
  generalize s.heap = H at hI ⊢
  unfold f_X12_isPair at h
  obtain ⟨locs, hlocs⟩ : ∃ x : List Loc, x = [] := ⟨_, rfl⟩
  rw [← hlocs] at hI ⊢
  refine lv_iload_n hx hb dX12_isPair_0 rfl (lv_at hl 1 rfl) ?_
  refine lv_if_lt (tgt := 16) hx hb dX12_isPair_1 (by decide) (fun hc => ?_) (fun hc => ?_)
  · replace h := ite_t hc h
    refine lv_iconst (v := 0) hx hb dX12_isPair_16 (by decide) ?_
    have hq := Option.some.inj h
    exact W.zret (v := 0) (ty := .boolean) hx hb hr rfl (fun t ht hW => qc_mk (congrArg (fun z => Outcome.returned (some (Value.int z))) hq) (by rw [ht]; exact hI.nil)) hI.2.2 dX12_isPair_17 hlocks
  · replace h := ite_f hc h
    refine lv_iload_n hx hb dX12_isPair_4 rfl (lv_at hl 1 rfl) ?_
    refine lv_aload_n hx hb dX12_isPair_5 rfl (lv_at hl 0 rfl) ?_
    refine gt_X12_274 hx hb hts hown hKK hI e25 (lc91 hN) (kc91 hk0) dX12_isPair_6 ?_
    refine lv_icmp_ge (tgt := 16) hx hb dX12_isPair_9 (by decide) (fun hc => ?_) (fun hc => ?_)
    · replace h := ite_t hc h
      refine lv_iconst (v := 0) hx hb dX12_isPair_16 (by decide) ?_
      have hq := Option.some.inj h
      exact W.zret (v := 0) (ty := .boolean) hx hb hr rfl (fun t ht hW => qc_mk (congrArg (fun z => Outcome.returned (some (Value.int z))) hq) (by rw [ht]; exact hI.nil)) hI.2.2 dX12_isPair_17 hlocks
    · replace h := ite_f hc h
      refine lv_iconst (v := 1) hx hb dX12_isPair_12 (by decide) ?_
      refine lv_goto (tgt := 17) hx hb dX12_isPair_13 (by decide) ?_
      have hq := Option.some.inj h
      exact W.zret (v := 1) (ty := .boolean) hx hb hr rfl (fun t ht hW => qc_mk (congrArg (fun z => Outcome.returned (some (Value.int z))) hq) (by rw [ht]; exact hI.nil)) hI.2.2 dX12_isPair_17 hlocks
noncomputable def f_X12_isOpen (F : Nat) (G25 : Grp) (v1 : Int32) : Option (Int32) :=
  ck v1 40 (if (G25.1 102 v1.toNatClampNeg) = (-1) then some 1 else some 0)
def RM_X12_isOpen : Room := { frames := 0, cells := 0, slots := 0, locals := 0 }
abbrev B_X12_isOpen (HB : Heap) (D : va_G) (y : Nat → ClassId) (n : Nat) (κ : Nat → Nat) (σ : St) (q : Int32) : Heap → Prop := fun H => IV HB D y n n κ σ [] H
set_option maxRecDepth 100000 in
set_option maxHeartbeats 4000000 in
theorem c_X12_isOpen (l : Launch) (HB : Heap) (D : va_G) (y : Nat → ClassId) (F n : Nat) (κ : Nat → Nat) (σ : St) (hN : N0 ≤ n) (v1 : Int32)  (G25 : Grp) (e25 : σ 25 = G25) (q : Int32) (h : f_X12_isOpen F G25 v1 = some q) : MT l HB D y yX12_isOpen cX12_isOpen 2 (some .boolean) RM_X12_isOpen [.ref (HB.size + 91), .int v1] (IV HB D y n n κ σ []) (some (.int q)) (B_X12_isOpen HB D y n κ σ q) := by
  refine Met.ofW (cc := cX12_isOpen) (maxL := 2) (ret := (some .boolean)) (by decide) rfl ?_
  intro p e s m args below meth c s₁ BL hml hv
  obtain ⟨rfl, hI, hKK⟩ := hv
  have hx := BL.exec
  have hb := BL.bytes
  have hr := BL.returns
  have hts : ∀ w ∈ gtb, w.before _ s = true := fun w hw => atoms_spec BL.pre w (List.mem_cons_of_mem _ hw)
  have hml : c.maxLocals = 2 := hml
  have hown : s.vm.findClass RX12 = some m.cls := findClass_of_methodNamed BL.named
  have hlocks := BL.notSynchronized
  have hk0 := hI.1.2.2.2.2
  have hl := lv_entry ([.ref (HB.size + 91), .int v1]) (n := 2) (Nat.le_of_ble_eq_true rfl)
  rw [lg_entry_eq]
  generalize (lg_sl ([.ref (HB.size + 91), .int v1]) ++ List.replicate (2 - (lg_sl ([.ref (HB.size + 91), .int v1])).length) Slot.unset).toArray = ls at hl ⊢
  have hl : lv_has ls 2 [(0, .ref (HB.size + 91)), (1, .int v1)] := hl
  generalize hargs : ([.ref (HB.size + 91), .int v1] : List Value).toArray = args at *
  show WX RM_X12_isOpen p l e s m args below meth c HB (some (.int q)) (B_X12_isOpen HB D y n κ σ q) s.heap [] (F0 m 0 ls [])
  generalize s.heap = H at hI ⊢
  unfold f_X12_isOpen at h
  obtain ⟨locs, hlocs⟩ : ∃ x : List Loc, x = [] := ⟨_, rfl⟩
  rw [← hlocs] at hI ⊢
  refine lv_aload_n hx hb dX12_isOpen_0 rfl (lv_at hl 0 rfl) ?_
  refine gf_X12_40 hx hb hts hown hKK hI hN dX12_isOpen_1 ?_
  refine lv_iload_n hx hb dX12_isOpen_4 rfl (lv_at hl 1 rfl) ?_
  obtain ⟨hin_, h⟩ := ck_e h
  refine la_44 hx hb hKK hI e25 (lc102 hN) (kc102 hk0) hin_ dX12_isOpen_5 ?_
  refine lv_iconst (v := (-1)) hx hb dX12_isOpen_6 (by decide) ?_
  refine lv_icmp_ne (tgt := 14) hx hb dX12_isOpen_7 (by decide) (fun hc => ?_) (fun hc => ?_)
  · replace h := ite_f hc h
    refine lv_iconst (v := 0) hx hb dX12_isOpen_14 (by decide) ?_
    have hq := Option.some.inj h
    exact W.zret (v := 0) (ty := .boolean) hx hb hr rfl (fun t ht hW => qc_mk (congrArg (fun z => Outcome.returned (some (Value.int z))) hq) (by rw [ht]; exact hI.nil)) hI.2.2 dX12_isOpen_15 hlocks
  · replace h := ite_t hc h
    refine lv_iconst (v := 1) hx hb dX12_isOpen_10 (by decide) ?_
    refine lv_goto (tgt := 15) hx hb dX12_isOpen_11 (by decide) ?_
    have hq := Option.some.inj h
    exact W.zret (v := 1) (ty := .boolean) hx hb hr rfl (fun t ht hW => qc_mk (congrArg (fun z => Outcome.returned (some (Value.int z))) hq) (by rw [ht]; exact hI.nil)) hI.2.2 dX12_isOpen_15 hlocks
noncomputable def f_X12_pairOf_l2b (F : Nat)  (k2 : Grp → Int32 → Int32 → Option (Int32)) (G25 : Grp) (v1 : Int32) (v2 : Int32) : Option (Int32) :=
  if (G25.1 91 4) ≤ v2 then some (-1) else ob (f_X12_isOpen F G25 v2) (fun q_12 => if q_12 = 0 then bn (v2 + 1) (fun v2_30 => k2 G25 v1 v2_30) else ck v2 40 (if (G25.1 100 v2.toNatClampNeg) = v1 then some v2 else bn (v2 + 1) (fun v2_30 => k2 G25 v1 v2_30)))
noncomputable def f_X12_pairOf_l2 (F : Nat)  (fu : Nat) : Grp → Int32 → Int32 → Option (Int32) := Nat.rec (motive := fun _ => Grp → Int32 → Int32 → Option (Int32)) (fun _ _ _ => none) (fun _ ih => f_X12_pairOf_l2b F  ih) fu
noncomputable def f_X12_pairOf (F : Nat) (G25 : Grp) (v1 : Int32) : Option (Int32) :=
  f_X12_pairOf_l2 F  F G25 v1 0
def RM_X12_pairOf : Room := { frames := 1, cells := 0, slots := 0, locals := 21 }
abbrev B_X12_pairOf (HB : Heap) (D : va_G) (y : Nat → ClassId) (n : Nat) (κ : Nat → Nat) (σ : St) (q : Int32) : Heap → Prop := fun H => IV HB D y n n κ σ [] H
set_option maxRecDepth 100000 in
set_option maxHeartbeats 4000000 in
theorem c_X12_pairOf (l : Launch) (HB : Heap) (D : va_G) (y : Nat → ClassId) (F n : Nat) (κ : Nat → Nat) (σ : St) (hN : N0 ≤ n) (v1 : Int32)  (G25 : Grp) (e25 : σ 25 = G25) (q : Int32) (h : f_X12_pairOf F G25 v1 = some q) : MT l HB D y yX12_pairOf cX12_pairOf 3 (some .int) RM_X12_pairOf [.ref (HB.size + 91), .int v1] (IV HB D y n n κ σ []) (some (.int q)) (B_X12_pairOf HB D y n κ σ q) := by
  refine Met.ofW (cc := cX12_pairOf) (maxL := 3) (ret := (some .int)) (by decide) rfl ?_
  intro p e s m args below meth c s₁ BL hml hv
  obtain ⟨rfl, hI, hKK⟩ := hv
  have hx := BL.exec
  have hb := BL.bytes
  have hr := BL.returns
  have hts : ∀ w ∈ gtb, w.before _ s = true := fun w hw => atoms_spec BL.pre w (List.mem_cons_of_mem _ hw)
  have hml : c.maxLocals = 3 := hml
  have hown : s.vm.findClass RX12 = some m.cls := findClass_of_methodNamed BL.named
  have hlocks := BL.notSynchronized
  have hk0 := hI.1.2.2.2.2
  have hl := lv_entry ([.ref (HB.size + 91), .int v1]) (n := 3) (Nat.le_of_ble_eq_true rfl)
  rw [lg_entry_eq]
  generalize (lg_sl ([.ref (HB.size + 91), .int v1]) ++ List.replicate (3 - (lg_sl ([.ref (HB.size + 91), .int v1])).length) Slot.unset).toArray = ls at hl ⊢
  have hl : lv_has ls 3 [(0, .ref (HB.size + 91)), (1, .int v1)] := hl
  generalize hargs : ([.ref (HB.size + 91), .int v1] : List Value).toArray = args at *
  have b2 : ∀ (fu : Nat) (H : Heap) (locs : List Loc) (ls : Array Slot) (G25 : Grp) (v1 : Int32) (v2 : Int32) , IV HB D y n n κ σ locs H → σ 25 = G25 → lv_has ls 3 [(0, .ref (HB.size + 91)), (1, .int v1), (2, .int v2)] → f_X12_pairOf_l2 F  fu G25 v1 v2 = some q → WX RM_X12_pairOf p l e s m args below meth c HB (some (.int q)) (B_X12_pairOf HB D y n κ σ q) H locs (F0 m 2 ls []) := by
    intro  fu
    induction fu with
    | zero =>
      intro H locs ls G25 v1 v2 hI e25 hl h
      exact absurd h (by intro h; cases h)
    | succ fu hk2 =>
      intro H locs ls G25 v1 v2 hI e25 hl h
      have h : f_X12_pairOf_l2b F  (f_X12_pairOf_l2 F  fu) G25 v1 v2 = some q := h
      generalize f_X12_pairOf_l2 F  fu = k2 at h hk2
      unfold f_X12_pairOf_l2b at h
      refine lv_iload_n hx hb dX12_pairOf_2 rfl (lv_at hl 2 rfl) ?_
      refine lv_aload_n hx hb dX12_pairOf_3 rfl (lv_at hl 0 rfl) ?_
      refine gt_X12_274 hx hb hts hown hKK hI e25 (lc91 hN) (kc91 hk0) dX12_pairOf_4 ?_
      refine lv_icmp_ge (tgt := 36) hx hb dX12_pairOf_7 (by decide) (fun hc => ?_) (fun hc => ?_)
      · replace h := ite_t hc h
        refine lv_iconst (v := (-1)) hx hb dX12_pairOf_36 (by decide) ?_
        have hq := Option.some.inj h
        exact W.iret (v := (-1)) hx hb hr (fun t ht hW => qc_mk (congrArg (fun z => Outcome.returned (some (Value.int z))) hq) (by rw [ht]; exact hI.nil)) hI.2.2 dX12_pairOf_37 hlocks
      · replace h := ite_f hc h
        refine lv_aload_n hx hb dX12_pairOf_10 rfl (lv_at hl 0 rfl) ?_
        refine lv_iload_n hx hb dX12_pairOf_11 rfl (lv_at hl 2 rfl) ?_
        obtain ⟨q_12, hq_12, h⟩ := ob_e h
        refine r_callV (As := [.int v2]) (rest := []) hx hb hml hts hown (c_X12_isOpen l HB D y F n κ σ hN v2 G25 e25 q_12 hq_12) cal_X12_isOpen im_X12_isOpen se_X12_isOpen lm_X12_277 ⟨Nat.le_of_ble_eq_true rfl, Nat.le_of_ble_eq_true rfl⟩ hI.nil hKK (r_recv hKK hI (hE12 HB.size y) rfl (lc91 hN) (kc91 hk0)) rfl hl.1 hI.2.2 rfl (Nat.le_of_ble_eq_true rfl) dX12_pairOf_12 ⟨Nat.le_of_ble_eq_true rfl, Nat.le_of_ble_eq_true rfl⟩ rfl rfl rfl (fun H locs hB hlo => ?_)
        have hI := hB.re hlo
        refine lv_if_eq (tgt := 30) hx hb dX12_pairOf_15 (by decide) (fun hc => ?_) (fun hc => ?_)
        · replace h := ite_t hc h
          obtain ⟨v2_30, qq, h⟩ := bn_e h
          refine lv_iinc (v := v2_30) (lv' := [(2, .int v2_30), (0, .ref (HB.size + 91)), (1, .int v1)]) hx hb dX12_pairOf_30 hl (k := 2) rfl (by rw [qq]; rfl) (by decide) rfl (fun ls hl => ?_)
          refine lv_goto (tgt := 2) hx hb dX12_pairOf_33 (by decide) ?_
          exact hk2 H locs ls G25 v1 v2_30  hI e25 (lv_sub hl [1, 2, 0] rfl) h
        · replace h := ite_f hc h
          refine lv_aload_n hx hb dX12_pairOf_18 rfl (lv_at hl 0 rfl) ?_
          refine gf_X12_34 hx hb hts hown hKK hI hN dX12_pairOf_19 ?_
          refine lv_iload_n hx hb dX12_pairOf_22 rfl (lv_at hl 2 rfl) ?_
          obtain ⟨hin_, h⟩ := ck_e h
          refine la_44 hx hb hKK hI e25 (lc100 hN) (kc100 hk0) hin_ dX12_pairOf_23 ?_
          refine lv_iload_n hx hb dX12_pairOf_24 rfl (lv_at hl 1 rfl) ?_
          refine lv_icmp_ne (tgt := 30) hx hb dX12_pairOf_25 (by decide) (fun hc => ?_) (fun hc => ?_)
          · replace h := ite_f hc h
            obtain ⟨v2_30, qq, h⟩ := bn_e h
            refine lv_iinc (v := v2_30) (lv' := [(2, .int v2_30), (0, .ref (HB.size + 91)), (1, .int v1)]) hx hb dX12_pairOf_30 hl (k := 2) rfl (by rw [qq]; rfl) (by decide) rfl (fun ls hl => ?_)
            refine lv_goto (tgt := 2) hx hb dX12_pairOf_33 (by decide) ?_
            exact hk2 H locs ls G25 v1 v2_30  hI e25 (lv_sub hl [1, 2, 0] rfl) h
          · replace h := ite_t hc h
            refine lv_iload_n hx hb dX12_pairOf_28 rfl (lv_at hl 2 rfl) ?_
            have hq := Option.some.inj h
            exact W.iret (v := v2) hx hb hr (fun t ht hW => qc_mk (congrArg (fun z => Outcome.returned (some (Value.int z))) hq) (by rw [ht]; exact hI.nil)) hI.2.2 dX12_pairOf_29 hlocks
  show WX RM_X12_pairOf p l e s m args below meth c HB (some (.int q)) (B_X12_pairOf HB D y n κ σ q) s.heap [] (F0 m 0 ls [])
  generalize s.heap = H at hI ⊢
  unfold f_X12_pairOf at h
  obtain ⟨locs, hlocs⟩ : ∃ x : List Loc, x = [] := ⟨_, rfl⟩
  rw [← hlocs] at hI ⊢
  refine lv_iconst (v := 0) hx hb dX12_pairOf_0 (by decide) ?_
  refine lv_istore_n (lv' := [(2, .int 0), (0, .ref (HB.size + 91)), (1, .int v1)]) hx hb dX12_pairOf_1 rfl hl (by decide) rfl (fun ls hl => ?_)
  exact b2  F H locs ls G25 v1 0  hI e25 (lv_sub hl [1, 2, 0] rfl) h
noncomputable def f_X12_pairsOf_l4b (F : Nat)  (k4 : Grp → Int32 → Int32 → Int32 → Option (Int32)) (G25 : Grp) (v1 : Int32) (v2 : Int32) (v3 : Int32) : Option (Int32) :=
  if (G25.1 91 4) ≤ v3 then some v2 else ob (f_X12_isOpen F G25 v3) (fun q_15 => if q_15 = 0 then bn ((v2 + 0)) (fun v2_37 => bn (v3 + 1) (fun v3_38 => k4 G25 v1 v2_37 v3_38)) else ck v3 40 (if (G25.1 99 v3.toNatClampNeg) = v1 then bn ((v2 + 1)) (fun v2_37 => bn (v3 + 1) (fun v3_38 => k4 G25 v1 v2_37 v3_38)) else bn ((v2 + 0)) (fun v2_37 => bn (v3 + 1) (fun v3_38 => k4 G25 v1 v2_37 v3_38))))
noncomputable def f_X12_pairsOf_l4 (F : Nat)  (fu : Nat) : Grp → Int32 → Int32 → Int32 → Option (Int32) := Nat.rec (motive := fun _ => Grp → Int32 → Int32 → Int32 → Option (Int32)) (fun _ _ _ _ => none) (fun _ ih => f_X12_pairsOf_l4b F  ih) fu
noncomputable def f_X12_pairsOf (F : Nat) (G25 : Grp) (v1 : Int32) : Option (Int32) :=
  f_X12_pairsOf_l4 F  F G25 v1 0 0
def RM_X12_pairsOf : Room := { frames := 1, cells := 0, slots := 0, locals := 21 }
abbrev B_X12_pairsOf (HB : Heap) (D : va_G) (y : Nat → ClassId) (n : Nat) (κ : Nat → Nat) (σ : St) (q : Int32) : Heap → Prop := fun H => IV HB D y n n κ σ [] H
set_option maxRecDepth 100000 in
set_option maxHeartbeats 4000000 in
theorem c_X12_pairsOf (l : Launch) (HB : Heap) (D : va_G) (y : Nat → ClassId) (F n : Nat) (κ : Nat → Nat) (σ : St) (hN : N0 ≤ n) (v1 : Int32)  (G25 : Grp) (e25 : σ 25 = G25) (q : Int32) (h : f_X12_pairsOf F G25 v1 = some q) : MT l HB D y yX12_pairsOf cX12_pairsOf 4 (some .int) RM_X12_pairsOf [.ref (HB.size + 91), .int v1] (IV HB D y n n κ σ []) (some (.int q)) (B_X12_pairsOf HB D y n κ σ q) := by
  refine Met.ofW (cc := cX12_pairsOf) (maxL := 4) (ret := (some .int)) (by decide) rfl ?_
  intro p e s m args below meth c s₁ BL hml hv
  obtain ⟨rfl, hI, hKK⟩ := hv
  have hx := BL.exec
  have hb := BL.bytes
  have hr := BL.returns
  have hts : ∀ w ∈ gtb, w.before _ s = true := fun w hw => atoms_spec BL.pre w (List.mem_cons_of_mem _ hw)
  have hml : c.maxLocals = 4 := hml
  have hown : s.vm.findClass RX12 = some m.cls := findClass_of_methodNamed BL.named
  have hlocks := BL.notSynchronized
  have hk0 := hI.1.2.2.2.2
  have hl := lv_entry ([.ref (HB.size + 91), .int v1]) (n := 4) (Nat.le_of_ble_eq_true rfl)
  rw [lg_entry_eq]
  generalize (lg_sl ([.ref (HB.size + 91), .int v1]) ++ List.replicate (4 - (lg_sl ([.ref (HB.size + 91), .int v1])).length) Slot.unset).toArray = ls at hl ⊢
  have hl : lv_has ls 4 [(0, .ref (HB.size + 91)), (1, .int v1)] := hl
  generalize hargs : ([.ref (HB.size + 91), .int v1] : List Value).toArray = args at *
  have b4 : ∀ (fu : Nat) (H : Heap) (locs : List Loc) (ls : Array Slot) (G25 : Grp) (v1 : Int32) (v2 : Int32) (v3 : Int32) , IV HB D y n n κ σ locs H → σ 25 = G25 → lv_has ls 4 [(0, .ref (HB.size + 91)), (1, .int v1), (2, .int v2), (3, .int v3)] → f_X12_pairsOf_l4 F  fu G25 v1 v2 v3 = some q → WX RM_X12_pairsOf p l e s m args below meth c HB (some (.int q)) (B_X12_pairsOf HB D y n κ σ q) H locs (F0 m 4 ls []) := by
    intro  fu
    induction fu with
    | zero =>
      intro H locs ls G25 v1 v2 v3 hI e25 hl h
      exact absurd h (by intro h; cases h)
    | succ fu hk4 =>
      intro H locs ls G25 v1 v2 v3 hI e25 hl h
      have h : f_X12_pairsOf_l4b F  (f_X12_pairsOf_l4 F  fu) G25 v1 v2 v3 = some q := h
      generalize f_X12_pairsOf_l4 F  fu = k4 at h hk4
      unfold f_X12_pairsOf_l4b at h
      refine lv_iload_n hx hb dX12_pairsOf_4 rfl (lv_at hl 3 rfl) ?_
      refine lv_aload_n hx hb dX12_pairsOf_5 rfl (lv_at hl 0 rfl) ?_
      refine gt_X12_274 hx hb hts hown hKK hI e25 (lc91 hN) (kc91 hk0) dX12_pairsOf_6 ?_
      refine lv_icmp_ge (tgt := 44) hx hb dX12_pairsOf_9 (by decide) (fun hc => ?_) (fun hc => ?_)
      · replace h := ite_t hc h
        refine lv_iload_n hx hb dX12_pairsOf_44 rfl (lv_at hl 2 rfl) ?_
        have hq := Option.some.inj h
        exact W.iret (v := v2) hx hb hr (fun t ht hW => qc_mk (congrArg (fun z => Outcome.returned (some (Value.int z))) hq) (by rw [ht]; exact hI.nil)) hI.2.2 dX12_pairsOf_45 hlocks
      · replace h := ite_f hc h
        refine lv_iload_n hx hb dX12_pairsOf_12 rfl (lv_at hl 2 rfl) ?_
        refine lv_aload_n hx hb dX12_pairsOf_13 rfl (lv_at hl 0 rfl) ?_
        refine lv_iload_n hx hb dX12_pairsOf_14 rfl (lv_at hl 3 rfl) ?_
        obtain ⟨q_15, hq_15, h⟩ := ob_e h
        refine r_callV (As := [.int v3]) (rest := [.int v2]) hx hb hml hts hown (c_X12_isOpen l HB D y F n κ σ hN v3 G25 e25 q_15 hq_15) cal_X12_isOpen im_X12_isOpen se_X12_isOpen lm_X12_277 ⟨Nat.le_of_ble_eq_true rfl, Nat.le_of_ble_eq_true rfl⟩ hI.nil hKK (r_recv hKK hI (hE12 HB.size y) rfl (lc91 hN) (kc91 hk0)) rfl hl.1 hI.2.2 rfl (Nat.le_of_ble_eq_true rfl) dX12_pairsOf_15 ⟨Nat.le_of_ble_eq_true rfl, Nat.le_of_ble_eq_true rfl⟩ rfl rfl rfl (fun H locs hB hlo => ?_)
        have hI := hB.re hlo
        refine lv_if_eq (tgt := 35) hx hb dX12_pairsOf_18 (by decide) (fun hc => ?_) (fun hc => ?_)
        · replace h := ite_t hc h
          refine lv_iconst (v := 0) hx hb dX12_pairsOf_35 (by decide) ?_
          refine lv_iadd hx hb dX12_pairsOf_36 ?_
          obtain ⟨v2_37, qq, h⟩ := bn_e h
          refine topi qq ?_
          refine lv_istore_n (lv' := [(2, .int v2_37), (0, .ref (HB.size + 91)), (1, .int v1), (3, .int v3)]) hx hb dX12_pairsOf_37 rfl hl (by decide) rfl (fun ls hl => ?_)
          obtain ⟨v3_38, qq, h⟩ := bn_e h
          refine lv_iinc (v := v3_38) (lv' := [(3, .int v3_38), (2, .int v2_37), (0, .ref (HB.size + 91)), (1, .int v1)]) hx hb dX12_pairsOf_38 hl (k := 3) rfl (by rw [qq]; rfl) (by decide) rfl (fun ls hl => ?_)
          refine lv_goto (tgt := 4) hx hb dX12_pairsOf_41 (by decide) ?_
          exact hk4 H locs ls G25 v1 v2_37 v3_38  hI e25 (lv_sub hl [2, 3, 1, 0] rfl) h
        · replace h := ite_f hc h
          refine lv_aload_n hx hb dX12_pairsOf_21 rfl (lv_at hl 0 rfl) ?_
          refine gf_X12_31 hx hb hts hown hKK hI hN dX12_pairsOf_22 ?_
          refine lv_iload_n hx hb dX12_pairsOf_25 rfl (lv_at hl 3 rfl) ?_
          obtain ⟨hin_, h⟩ := ck_e h
          refine la_44 hx hb hKK hI e25 (lc99 hN) (kc99 hk0) hin_ dX12_pairsOf_26 ?_
          refine lv_iload_n hx hb dX12_pairsOf_27 rfl (lv_at hl 1 rfl) ?_
          refine lv_icmp_ne (tgt := 35) hx hb dX12_pairsOf_28 (by decide) (fun hc => ?_) (fun hc => ?_)
          · replace h := ite_f hc h
            refine lv_iconst (v := 0) hx hb dX12_pairsOf_35 (by decide) ?_
            refine lv_iadd hx hb dX12_pairsOf_36 ?_
            obtain ⟨v2_37, qq, h⟩ := bn_e h
            refine topi qq ?_
            refine lv_istore_n (lv' := [(2, .int v2_37), (0, .ref (HB.size + 91)), (1, .int v1), (3, .int v3)]) hx hb dX12_pairsOf_37 rfl hl (by decide) rfl (fun ls hl => ?_)
            obtain ⟨v3_38, qq, h⟩ := bn_e h
            refine lv_iinc (v := v3_38) (lv' := [(3, .int v3_38), (2, .int v2_37), (0, .ref (HB.size + 91)), (1, .int v1)]) hx hb dX12_pairsOf_38 hl (k := 3) rfl (by rw [qq]; rfl) (by decide) rfl (fun ls hl => ?_)
            refine lv_goto (tgt := 4) hx hb dX12_pairsOf_41 (by decide) ?_
            exact hk4 H locs ls G25 v1 v2_37 v3_38  hI e25 (lv_sub hl [2, 3, 1, 0] rfl) h
          · replace h := ite_t hc h
            refine lv_iconst (v := 1) hx hb dX12_pairsOf_31 (by decide) ?_
            refine lv_goto (tgt := 36) hx hb dX12_pairsOf_32 (by decide) ?_
            refine lv_iadd hx hb dX12_pairsOf_36 ?_
            obtain ⟨v2_37, qq, h⟩ := bn_e h
            refine topi qq ?_
            refine lv_istore_n (lv' := [(2, .int v2_37), (0, .ref (HB.size + 91)), (1, .int v1), (3, .int v3)]) hx hb dX12_pairsOf_37 rfl hl (by decide) rfl (fun ls hl => ?_)
            obtain ⟨v3_38, qq, h⟩ := bn_e h
            refine lv_iinc (v := v3_38) (lv' := [(3, .int v3_38), (2, .int v2_37), (0, .ref (HB.size + 91)), (1, .int v1)]) hx hb dX12_pairsOf_38 hl (k := 3) rfl (by rw [qq]; rfl) (by decide) rfl (fun ls hl => ?_)
            refine lv_goto (tgt := 4) hx hb dX12_pairsOf_41 (by decide) ?_
            exact hk4 H locs ls G25 v1 v2_37 v3_38  hI e25 (lv_sub hl [2, 3, 1, 0] rfl) h
  show WX RM_X12_pairsOf p l e s m args below meth c HB (some (.int q)) (B_X12_pairsOf HB D y n κ σ q) s.heap [] (F0 m 0 ls [])
  generalize s.heap = H at hI ⊢
  unfold f_X12_pairsOf at h
  obtain ⟨locs, hlocs⟩ : ∃ x : List Loc, x = [] := ⟨_, rfl⟩
  rw [← hlocs] at hI ⊢
  refine lv_iconst (v := 0) hx hb dX12_pairsOf_0 (by decide) ?_
  refine lv_istore_n (lv' := [(2, .int 0), (0, .ref (HB.size + 91)), (1, .int v1)]) hx hb dX12_pairsOf_1 rfl hl (by decide) rfl (fun ls hl => ?_)
  refine lv_iconst (v := 0) hx hb dX12_pairsOf_2 (by decide) ?_
  refine lv_istore_n (lv' := [(3, .int 0), (2, .int 0), (0, .ref (HB.size + 91)), (1, .int v1)]) hx hb dX12_pairsOf_3 rfl hl (by decide) rfl (fun ls hl => ?_)
  exact b4  F H locs ls G25 v1 0 0  hI e25 (lv_sub hl [2, 3, 1, 0] rfl) h
noncomputable def f_X12_begins (F : Nat) (G23 : Grp) (G25 : Grp) (v1 : Int32) (v2 : Int32) : Option (Int32 × Grp) :=
  ck (G25.1 91 4) 40 (bn (gI G25 99 (G25.1 91 4).toNatClampNeg v1) (fun G25_9 => ck (G25_9.1 91 4) 40 (bn (gI G25_9 100 (G25_9.1 91 4).toNatClampNeg v2) (fun G25_19 => ck (G25_19.1 91 4) 40 (bn (gI G25_19 101 (G25_19.1 91 4).toNatClampNeg (G23.1 91 0)) (fun G25_32 => ck (G25_32.1 91 4) 40 (bn (gI G25_32 102 (G25_32.1 91 4).toNatClampNeg (-1)) (fun G25_42 => ck (G25_42.1 91 4) 40 (bn (gI G25_42 103 (G25_42.1 91 4).toNatClampNeg 0) (fun G25_52 => ck (G25_52.1 91 4) 40 (bn (gI G25_52 104 (G25_52.1 91 4).toNatClampNeg (-1)) (fun G25_62 => bn (gI G25_62 91 4 ((G25_62.1 91 4) + 1)) (fun G25_70 => some (((G25_70.1 91 4) - 1), G25_70))))))))))))))
def RM_X12_begins : Room := { frames := 0, cells := 0, slots := 0, locals := 0 }
abbrev W_X12_begins : List Nat := [25]
abbrev B_X12_begins (HB : Heap) (D : va_G) (y : Nat → ClassId) (n : Nat) (κ : Nat → Nat) (σ0 : St) (q : Int32 × Grp) : Heap → Prop := fun H => ∃ σ : St, IV HB D y n n κ σ [] H ∧ σ 25 = q.2 ∧ ∀ j, j ∉ W_X12_begins → σ j = σ0 j
set_option maxRecDepth 100000 in
set_option maxHeartbeats 4000000 in
theorem c_X12_begins (l : Launch) (HB : Heap) (D : va_G) (y : Nat → ClassId) (F n : Nat) (κ : Nat → Nat) (σ0 : St) (hN : N0 ≤ n) (v1 : Int32)  (v2 : Int32)  (G23 : Grp) (e23 : σ0 23 = G23) (G25 : Grp) (e25 : σ0 25 = G25) (q : Int32 × Grp) (h : f_X12_begins F G23 G25 v1 v2 = some q) : MT l HB D y yX12_begins cX12_begins 3 (some .int) RM_X12_begins [.ref (HB.size + 91), .int v1, .int v2] (IV HB D y n n κ σ0 []) (some (.int q.1)) (B_X12_begins HB D y n κ σ0 q) := by
  refine Met.ofW (cc := cX12_begins) (maxL := 3) (ret := (some .int)) (by decide) rfl ?_
  intro p e s m args below meth c s₁ BL hml hv
  obtain ⟨rfl, hI, hKK⟩ := hv
  have hx := BL.exec
  have hb := BL.bytes
  have hr := BL.returns
  have hts : ∀ w ∈ gtb, w.before _ s = true := fun w hw => atoms_spec BL.pre w (List.mem_cons_of_mem _ hw)
  have hml : c.maxLocals = 3 := hml
  have hown : s.vm.findClass RX12 = some m.cls := findClass_of_methodNamed BL.named
  have hlocks := BL.notSynchronized
  have hk0 := hI.1.2.2.2.2
  have hl := lv_entry ([.ref (HB.size + 91), .int v1, .int v2]) (n := 3) (Nat.le_of_ble_eq_true rfl)
  rw [lg_entry_eq]
  generalize (lg_sl ([.ref (HB.size + 91), .int v1, .int v2]) ++ List.replicate (3 - (lg_sl ([.ref (HB.size + 91), .int v1, .int v2])).length) Slot.unset).toArray = ls at hl ⊢
  have hl : lv_has ls 3 [(0, .ref (HB.size + 91)), (1, .int v1), (2, .int v2)] := hl
  generalize hargs : ([.ref (HB.size + 91), .int v1, .int v2] : List Value).toArray = args at *
  obtain ⟨σ, hI, e23, e25, fr⟩ : ∃ σ : St, IV HB D y n n κ σ [] s.heap ∧ σ 23 = G23 ∧ σ 25 = G25 ∧ ∀ j, j ∉ W_X12_begins → σ j = σ0 j := ⟨σ0, hI, e23, e25, fun _ _ => rfl⟩
  show WX RM_X12_begins p l e s m args below meth c HB (some (.int q.1)) (B_X12_begins HB D y n κ σ0 q) s.heap [] (F0 m 0 ls [])
  generalize s.heap = H at hI ⊢
  unfold f_X12_begins at h
  obtain ⟨locs, hlocs⟩ : ∃ x : List Loc, x = [] := ⟨_, rfl⟩
  rw [← hlocs] at hI ⊢
  refine lv_aload_n hx hb dX12_begins_0 rfl (lv_at hl 0 rfl) ?_
  refine gf_X12_31 hx hb hts hown hKK hI hN dX12_begins_1 ?_
  refine lv_aload_n hx hb dX12_begins_4 rfl (lv_at hl 0 rfl) ?_
  refine gt_X12_274 hx hb hts hown hKK hI e25 (lc91 hN) (kc91 hk0) dX12_begins_5 ?_
  refine lv_iload_n hx hb dX12_begins_8 rfl (lv_at hl 1 rfl) ?_
  obtain ⟨hin_, h⟩ := ck_e h
  obtain ⟨G25_9, qq, h⟩ := bn_e h
  refine sa_44 hx hb hKK hI e25 (lc99 hN) (kc99 hk0) hin_ dX12_begins_9 (fun σ H locs hI ew ho => ?_)
  have e25 := ew.trans qq.symm
  have e23 := (ho 23 (nn rfl)).trans e23
  have fr := frs fr ho (by decide)
  refine lv_aload_n hx hb dX12_begins_10 rfl (lv_at hl 0 rfl) ?_
  refine gf_X12_34 hx hb hts hown hKK hI hN dX12_begins_11 ?_
  refine lv_aload_n hx hb dX12_begins_14 rfl (lv_at hl 0 rfl) ?_
  refine gt_X12_274 hx hb hts hown hKK hI e25 (lc91 hN) (kc91 hk0) dX12_begins_15 ?_
  refine lv_iload_n hx hb dX12_begins_18 rfl (lv_at hl 2 rfl) ?_
  obtain ⟨hin_, h⟩ := ck_e h
  obtain ⟨G25_19, qq, h⟩ := bn_e h
  refine sa_44 hx hb hKK hI e25 (lc100 hN) (kc100 hk0) hin_ dX12_begins_19 (fun σ H locs hI ew ho => ?_)
  have e25 := ew.trans qq.symm
  have e23 := (ho 23 (nn rfl)).trans e23
  have fr := frs fr ho (by decide)
  refine lv_aload_n hx hb dX12_begins_20 rfl (lv_at hl 0 rfl) ?_
  refine gf_X12_37 hx hb hts hown hKK hI hN dX12_begins_21 ?_
  refine lv_aload_n hx hb dX12_begins_24 rfl (lv_at hl 0 rfl) ?_
  refine gt_X12_274 hx hb hts hown hKK hI e25 (lc91 hN) (kc91 hk0) dX12_begins_25 ?_
  refine lv_aload_n hx hb dX12_begins_28 rfl (lv_at hl 0 rfl) ?_
  refine gt_X12_281 hx hb hts hown hKK hI e23 (lc91 hN) (kc91 hk0) dX12_begins_29 ?_
  obtain ⟨hin_, h⟩ := ck_e h
  obtain ⟨G25_32, qq, h⟩ := bn_e h
  refine sa_44 hx hb hKK hI e25 (lc101 hN) (kc101 hk0) hin_ dX12_begins_32 (fun σ H locs hI ew ho => ?_)
  have e25 := ew.trans qq.symm
  have e23 := (ho 23 (nn rfl)).trans e23
  have fr := frs fr ho (by decide)
  refine lv_aload_n hx hb dX12_begins_33 rfl (lv_at hl 0 rfl) ?_
  refine gf_X12_40 hx hb hts hown hKK hI hN dX12_begins_34 ?_
  refine lv_aload_n hx hb dX12_begins_37 rfl (lv_at hl 0 rfl) ?_
  refine gt_X12_274 hx hb hts hown hKK hI e25 (lc91 hN) (kc91 hk0) dX12_begins_38 ?_
  refine lv_iconst (v := (-1)) hx hb dX12_begins_41 (by decide) ?_
  obtain ⟨hin_, h⟩ := ck_e h
  obtain ⟨G25_42, qq, h⟩ := bn_e h
  refine sa_44 hx hb hKK hI e25 (lc102 hN) (kc102 hk0) hin_ dX12_begins_42 (fun σ H locs hI ew ho => ?_)
  have e25 := ew.trans qq.symm
  have e23 := (ho 23 (nn rfl)).trans e23
  have fr := frs fr ho (by decide)
  refine lv_aload_n hx hb dX12_begins_43 rfl (lv_at hl 0 rfl) ?_
  refine gf_X12_43 hx hb hts hown hKK hI hN dX12_begins_44 ?_
  refine lv_aload_n hx hb dX12_begins_47 rfl (lv_at hl 0 rfl) ?_
  refine gt_X12_274 hx hb hts hown hKK hI e25 (lc91 hN) (kc91 hk0) dX12_begins_48 ?_
  refine lv_iconst (v := 0) hx hb dX12_begins_51 (by decide) ?_
  obtain ⟨hin_, h⟩ := ck_e h
  obtain ⟨G25_52, qq, h⟩ := bn_e h
  refine sa_44 hx hb hKK hI e25 (lc103 hN) (kc103 hk0) hin_ dX12_begins_52 (fun σ H locs hI ew ho => ?_)
  have e25 := ew.trans qq.symm
  have e23 := (ho 23 (nn rfl)).trans e23
  have fr := frs fr ho (by decide)
  refine lv_aload_n hx hb dX12_begins_53 rfl (lv_at hl 0 rfl) ?_
  refine gf_X12_46 hx hb hts hown hKK hI hN dX12_begins_54 ?_
  refine lv_aload_n hx hb dX12_begins_57 rfl (lv_at hl 0 rfl) ?_
  refine gt_X12_274 hx hb hts hown hKK hI e25 (lc91 hN) (kc91 hk0) dX12_begins_58 ?_
  refine lv_iconst (v := (-1)) hx hb dX12_begins_61 (by decide) ?_
  obtain ⟨hin_, h⟩ := ck_e h
  obtain ⟨G25_62, qq, h⟩ := bn_e h
  refine sa_44 hx hb hKK hI e25 (lc104 hN) (kc104 hk0) hin_ dX12_begins_62 (fun σ H locs hI ew ho => ?_)
  have e25 := ew.trans qq.symm
  have e23 := (ho 23 (nn rfl)).trans e23
  have fr := frs fr ho (by decide)
  refine lv_aload_n hx hb dX12_begins_63 rfl (lv_at hl 0 rfl) ?_
  refine lv_aload_n hx hb dX12_begins_64 rfl (lv_at hl 0 rfl) ?_
  refine gt_X12_274 hx hb hts hown hKK hI e25 (lc91 hN) (kc91 hk0) dX12_begins_65 ?_
  refine lv_iconst (v := 1) hx hb dX12_begins_68 (by decide) ?_
  refine lv_iadd hx hb dX12_begins_69 ?_
  obtain ⟨G25_70, qq, h⟩ := bn_e h
  refine pt_X12_274 hx hb hts hown hKK hI e25 (lc91 hN) (kc91 hk0) dX12_begins_70 (fun σ H locs hI ew ho => ?_)
  have e25 := ew.trans qq.symm
  have e23 := (ho 23 (nn rfl)).trans e23
  have fr := frs fr ho (by decide)
  refine lv_aload_n hx hb dX12_begins_73 rfl (lv_at hl 0 rfl) ?_
  refine gt_X12_274 hx hb hts hown hKK hI e25 (lc91 hN) (kc91 hk0) dX12_begins_74 ?_
  refine lv_iconst (v := 1) hx hb dX12_begins_77 (by decide) ?_
  refine lv_isub hx hb dX12_begins_78 ?_
  have hq := Option.some.inj h
  exact W.iret (v := ((G25_70.1 91 4) - 1)) hx hb hr (fun t ht hW => qc_mk (congrArg (fun z => Outcome.returned (some (Value.int z.1))) hq) (by rw [ht]; exact ⟨σ, hI.nil, e25.trans (congrArg (fun z => z.2) hq), fr⟩)) hI.2.2 dX12_begins_79 hlocks
