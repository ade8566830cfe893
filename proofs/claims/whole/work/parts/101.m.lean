noncomputable def f_X2_isBorder_b40 (F : Nat)  (G3 : Grp) (v3 : Int32) (s0 : Int32) : Option (Int32) :=
  if v3 = s0 then some 0 else some 1
noncomputable def f_X2_isBorder_b39 (F : Nat)  (G3 : Grp) (v3 : Int32) : Option (Int32) :=
  f_X2_isBorder_b40 F  G3 v3 0
noncomputable def f_X2_isBorder_b20 (F : Nat)  (G3 : Grp) (v0 : Nat) (v1 : Int32) (v2 : Int32) (s0 : Int32) : Option (Int32) :=
  if v1 ≤ v2 then f_X2_isBorder_b39 F  G3 s0 else ck v2 ((G3.2.2 v0 0).getD 0) (ob (f_X11_isWordSign F (G3.1 v0 v2.toNatClampNeg)) (fun q_29 => if q_29 = 0 then f_X2_isBorder_b39 F  G3 s0 else f_X2_isBorder_b40 F  G3 s0 1))
noncomputable def f_X2_isBorder_b19 (F : Nat)  (G3 : Grp) (v0 : Nat) (v1 : Int32) (v2 : Int32) : Option (Int32) :=
  f_X2_isBorder_b20 F  G3 v0 v1 v2 0
noncomputable def f_X2_isBorder (F : Nat) (G3 : Grp) (v0 : Nat) (v1 : Int32) (v2 : Int32) : Option (Int32) :=
  if v2 ≤ 0 then f_X2_isBorder_b19 F  G3 v0 v1 v2 else ck (v2 - 1) ((G3.2.2 v0 0).getD 0) (ob (f_X11_isWordSign F (G3.1 v0 (v2 - 1).toNatClampNeg)) (fun q_9 => if q_9 = 0 then f_X2_isBorder_b19 F  G3 v0 v1 v2 else f_X2_isBorder_b20 F  G3 v0 v1 v2 1))
def RM_X2_isBorder : Room := { frames := 2, cells := 0, slots := 0, locals := 40 }
abbrev B_X2_isBorder (HB : Heap) (D : va_G) (y : Nat → ClassId) (n : Nat) (κ : Nat → Nat) (σ : St) (q : Int32) : Heap → Prop := fun H => IV HB D y n n κ σ [] H
set_option maxRecDepth 100000 in
set_option maxHeartbeats 4000000 in
theorem c_X2_isBorder (l : Launch) (HB : Heap) (D : va_G) (y : Nat → ClassId) (F n : Nat) (κ : Nat → Nat) (σ : St) (hN : N0 ≤ n) (v0 : Nat) (ha_v0 : v0 < n) (hk_v0 : κ v0 = 13) (v1 : Int32)  (v2 : Int32)  (G3 : Grp) (e3 : σ 3 = G3) (q : Int32) (h : f_X2_isBorder F G3 v0 v1 v2 = some q) : MT l HB D y yX2_isBorder cX2_isBorder 5 (some .boolean) RM_X2_isBorder [.ref (HB.size + v0), .int v1, .int v2] (IV HB D y n n κ σ []) (some (.int q)) (B_X2_isBorder HB D y n κ σ q) := by
  refine Met.ofW (cc := cX2_isBorder) (maxL := 5) (ret := (some .boolean)) (by decide) rfl ?_
  intro p e s m args below meth c s₁ BL hml hv
  obtain ⟨rfl, hI, hKK⟩ := hv
  have hx := BL.exec
  have hb := BL.bytes
  have hr := BL.returns
  have hts : ∀ w ∈ gtb, w.before _ s = true := fun w hw => atoms_spec BL.pre w (List.mem_cons_of_mem _ hw)
  have hml : c.maxLocals = 5 := hml
  have hown : s.vm.findClass RX2 = some m.cls := findClass_of_methodNamed BL.named
  have hlocks := BL.notSynchronized
  have hk0 := hI.1.2.2.2.2
  have hl := lv_entry ([.ref (HB.size + v0), .int v1, .int v2]) (n := 5) (Nat.le_of_ble_eq_true rfl)
  rw [lg_entry_eq]
  generalize (lg_sl ([.ref (HB.size + v0), .int v1, .int v2]) ++ List.replicate (5 - (lg_sl ([.ref (HB.size + v0), .int v1, .int v2])).length) Slot.unset).toArray = ls at hl ⊢
  have hl : lv_has ls 5 [(0, .ref (HB.size + v0)), (1, .int v1), (2, .int v2)] := hl
  generalize hargs : ([.ref (HB.size + v0), .int v1, .int v2] : List Value).toArray = args at *
  have b40 : ∀ (H : Heap) (locs : List Loc) (ls : Array Slot) (G3 : Grp) (v3 : Int32) (s0 : Int32) , IV HB D y n n κ σ locs H → σ 3 = G3 → lv_has ls 5 [(3, .int v3)] → f_X2_isBorder_b40 F  G3 v3 s0 = some q → WX RM_X2_isBorder p l e s m args below meth c HB (some (.int q)) (B_X2_isBorder HB D y n κ σ q) H locs (F0 m 40 ls [.int s0]) := by
    intro  H locs ls G3 v3 s0 hI e3 hl h
    unfold f_X2_isBorder_b40 at h
    refine lv_istore (lv' := [(4, .int s0), (3, .int v3)]) hx hb dX2_isBorder_40 hl (by decide) rfl (fun ls hl => ?_)
    refine lv_iload_n hx hb dX2_isBorder_42 rfl (lv_at hl 1 rfl) ?_
    refine lv_iload hx hb dX2_isBorder_43 (lv_at hl 0 rfl) ?_
    refine lv_icmp_eq (tgt := 52) hx hb dX2_isBorder_45 (by decide) (fun hc => ?_) (fun hc => ?_)
    · replace h := ite_t hc h
      refine lv_iconst (v := 0) hx hb dX2_isBorder_52 (by decide) ?_
      have hq := Option.some.inj h
      exact W.zret (v := 0) (ty := .boolean) hx hb hr rfl (fun t ht hW => qc_mk (congrArg (fun z => Outcome.returned (some (Value.int z))) hq) (by rw [ht]; exact hI.nil)) hI.2.2 dX2_isBorder_53 hlocks
    · replace h := ite_f hc h
      refine lv_iconst (v := 1) hx hb dX2_isBorder_48 (by decide) ?_
      refine lv_goto (tgt := 53) hx hb dX2_isBorder_49 (by decide) ?_
      have hq := Option.some.inj h
      exact W.zret (v := 1) (ty := .boolean) hx hb hr rfl (fun t ht hW => qc_mk (congrArg (fun z => Outcome.returned (some (Value.int z))) hq) (by rw [ht]; exact hI.nil)) hI.2.2 dX2_isBorder_53 hlocks
  have b39 : ∀ (H : Heap) (locs : List Loc) (ls : Array Slot) (G3 : Grp) (v3 : Int32) , IV HB D y n n κ σ locs H → σ 3 = G3 → lv_has ls 5 [(3, .int v3)] → f_X2_isBorder_b39 F  G3 v3 = some q → WX RM_X2_isBorder p l e s m args below meth c HB (some (.int q)) (B_X2_isBorder HB D y n κ σ q) H locs (F0 m 39 ls []) := by
    intro  H locs ls G3 v3 hI e3 hl h
    unfold f_X2_isBorder_b39 at h
    refine lv_iconst (v := 0) hx hb dX2_isBorder_39 (by decide) ?_
    exact b40  H locs ls G3 v3 0  hI e3 (lv_sub hl [0] rfl) h
  have b20 : ∀ (H : Heap) (locs : List Loc) (ls : Array Slot) (G3 : Grp) (v0 : Nat) (v1 : Int32) (v2 : Int32) (s0 : Int32) (ha_v0 : v0 < n) (hk_v0 : κ v0 = 13), IV HB D y n n κ σ locs H → σ 3 = G3 → lv_has ls 5 [(0, .ref (HB.size + v0)), (1, .int v1), (2, .int v2)] → f_X2_isBorder_b20 F  G3 v0 v1 v2 s0 = some q → WX RM_X2_isBorder p l e s m args below meth c HB (some (.int q)) (B_X2_isBorder HB D y n κ σ q) H locs (F0 m 20 ls [.int s0]) := by
    intro  H locs ls G3 v0 v1 v2 s0 ha_v0 hk_v0 hI e3 hl h
    unfold f_X2_isBorder_b20 at h
    refine lv_istore_n (lv' := [(3, .int s0), (0, .ref (HB.size + v0)), (1, .int v1), (2, .int v2)]) hx hb dX2_isBorder_20 rfl hl (by decide) rfl (fun ls hl => ?_)
    refine lv_iload_n hx hb dX2_isBorder_21 rfl (lv_at hl 3 rfl) ?_
    refine lv_iload_n hx hb dX2_isBorder_22 rfl (lv_at hl 2 rfl) ?_
    refine lv_icmp_ge (tgt := 39) hx hb dX2_isBorder_23 (by decide) (fun hc => ?_) (fun hc => ?_)
    · replace h := ite_t hc h
      exact b39  H locs ls G3 s0  hI e3 (lv_sub hl [0] rfl) h
    · replace h := ite_f hc h
      refine lv_aload_n hx hb dX2_isBorder_26 rfl (lv_at hl 1 rfl) ?_
      refine lv_iload_n hx hb dX2_isBorder_27 rfl (lv_at hl 3 rfl) ?_
      obtain ⟨hin_, h⟩ := ck_e h
      refine la_13 hx hb hKK hI e3 ha_v0 hk_v0 hin_ dX2_isBorder_28 ?_
      obtain ⟨q_29, hq_29, h⟩ := ob_e h
      refine r_callSN (As := [.int (G3.1 v0 v2.toNatClampNeg)]) (rest := []) hx hb hml hts hown (c_X11_isWordSign l HB D y F n κ σ hN (G3.1 v0 v2.toNatClampNeg)  q_29 hq_29) cal_X11_isWordSign st_X11_isWordSign (hKK.2.1 _ (List.mem_of_getElem? (i := 14) rfl)) ⟨Nat.le_of_ble_eq_true rfl, Nat.le_of_ble_eq_true rfl⟩ hI.nil hKK rfl hl.1 hI.2.2 rfl (Nat.le_of_ble_eq_true rfl) dX2_isBorder_29 ⟨Nat.le_of_ble_eq_true rfl, Nat.le_of_ble_eq_true rfl⟩ rfl rfl rfl (fun H locs hB hlo => ?_)
      have hI := hB.re hlo
      refine lv_if_eq (tgt := 39) hx hb dX2_isBorder_32 (by decide) (fun hc => ?_) (fun hc => ?_)
      · replace h := ite_t hc h
        exact b39  H locs ls G3 s0  hI e3 (lv_sub hl [0] rfl) h
      · replace h := ite_f hc h
        refine lv_iconst (v := 1) hx hb dX2_isBorder_35 (by decide) ?_
        refine lv_goto (tgt := 40) hx hb dX2_isBorder_36 (by decide) ?_
        exact b40  H locs ls G3 s0 1  hI e3 (lv_sub hl [0] rfl) h
  have b19 : ∀ (H : Heap) (locs : List Loc) (ls : Array Slot) (G3 : Grp) (v0 : Nat) (v1 : Int32) (v2 : Int32) (ha_v0 : v0 < n) (hk_v0 : κ v0 = 13), IV HB D y n n κ σ locs H → σ 3 = G3 → lv_has ls 5 [(0, .ref (HB.size + v0)), (1, .int v1), (2, .int v2)] → f_X2_isBorder_b19 F  G3 v0 v1 v2 = some q → WX RM_X2_isBorder p l e s m args below meth c HB (some (.int q)) (B_X2_isBorder HB D y n κ σ q) H locs (F0 m 19 ls []) := by
    intro  H locs ls G3 v0 v1 v2 ha_v0 hk_v0 hI e3 hl h
    unfold f_X2_isBorder_b19 at h
    refine lv_iconst (v := 0) hx hb dX2_isBorder_19 (by decide) ?_
    exact b20  H locs ls G3 v0 v1 v2 0 ha_v0 hk_v0 hI e3 (lv_sub hl [0, 1, 2] rfl) h
  show WX RM_X2_isBorder p l e s m args below meth c HB (some (.int q)) (B_X2_isBorder HB D y n κ σ q) s.heap [] (F0 m 0 ls [])
  generalize s.heap = H at hI ⊢
  unfold f_X2_isBorder at h
  obtain ⟨locs, hlocs⟩ : ∃ x : List Loc, x = [] := ⟨_, rfl⟩
  rw [← hlocs] at hI ⊢
  refine lv_iload_n hx hb dX2_isBorder_0 rfl (lv_at hl 2 rfl) ?_
  refine lv_if_le (tgt := 19) hx hb dX2_isBorder_1 (by decide) (fun hc => ?_) (fun hc => ?_)
  · replace h := ite_t hc h
    exact b19  H locs ls G3 v0 v1 v2 ha_v0 hk_v0 hI e3 (lv_sub hl [0, 1, 2] rfl) h
  · replace h := ite_f hc h
    refine lv_aload_n hx hb dX2_isBorder_4 rfl (lv_at hl 0 rfl) ?_
    refine lv_iload_n hx hb dX2_isBorder_5 rfl (lv_at hl 2 rfl) ?_
    refine lv_iconst (v := 1) hx hb dX2_isBorder_6 (by decide) ?_
    refine lv_isub hx hb dX2_isBorder_7 ?_
    obtain ⟨hin_, h⟩ := ck_e h
    refine la_13 hx hb hKK hI e3 ha_v0 hk_v0 hin_ dX2_isBorder_8 ?_
    obtain ⟨q_9, hq_9, h⟩ := ob_e h
    refine r_callSN (As := [.int (G3.1 v0 (v2 - 1).toNatClampNeg)]) (rest := []) hx hb hml hts hown (c_X11_isWordSign l HB D y F n κ σ hN (G3.1 v0 (v2 - 1).toNatClampNeg)  q_9 hq_9) cal_X11_isWordSign st_X11_isWordSign (hKK.2.1 _ (List.mem_of_getElem? (i := 14) rfl)) ⟨Nat.le_of_ble_eq_true rfl, Nat.le_of_ble_eq_true rfl⟩ hI.nil hKK rfl hl.1 hI.2.2 rfl (Nat.le_of_ble_eq_true rfl) dX2_isBorder_9 ⟨Nat.le_of_ble_eq_true rfl, Nat.le_of_ble_eq_true rfl⟩ rfl rfl rfl (fun H locs hB hlo => ?_)
    have hI := hB.re hlo
    refine lv_if_eq (tgt := 19) hx hb dX2_isBorder_12 (by decide) (fun hc => ?_) (fun hc => ?_)
    · replace h := ite_t hc h
      exact b19  H locs ls G3 v0 v1 v2 ha_v0 hk_v0 hI e3 (lv_sub hl [0, 1, 2] rfl) h
    · replace h := ite_f hc h
      refine lv_iconst (v := 1) hx hb dX2_isBorder_15 (by decide) ?_
      refine lv_goto (tgt := 20) hx hb dX2_isBorder_16 (by decide) ?_
      exact b20  H locs ls G3 v0 v1 v2 1 ha_v0 hk_v0 hI e3 (lv_sub hl [0, 1, 2] rfl) h
noncomputable def f_X2_noteFirstRule_l9b (F : Nat)  (k9 : Grp → Grp → Nat → Nat → Int32 → Int32 → Option (Grp)) (G4 : Grp) (G5 : Grp) (v0 : Nat) (v1 : Nat) (v2 : Int32) (v3 : Int32) : Option (Grp) :=
  if (G4.1 v1 7) ≤ v3 then some G5 else om (G5.2.2 v0 7) (ck v3 12 (none)) (fun t_18 => ck v3 12 (ck (G4.1 (v1 + 4) v3.toNatClampNeg) 408 (bn ((G5.1 t_18 (G4.1 (v1 + 4) v3.toNatClampNeg).toNatClampNeg)) (fun v4_28 => if v4_28 ≤ v2 then bn (v3 + 1) (fun v3_52 => k9 G4 G5 v0 v1 v2 v3_52) else ck v2 160 (bn (gI G5 (v0 + 5) v2.toNatClampNeg v3) (fun G5_42 => ck v2 160 (bn (gI G5_42 (v0 + 6) v2.toNatClampNeg v4_28) (fun G5_50 => some G5_50))))))))
noncomputable def f_X2_noteFirstRule_l9 (F : Nat)  (fu : Nat) : Grp → Grp → Nat → Nat → Int32 → Int32 → Option (Grp) := Nat.rec (motive := fun _ => Grp → Grp → Nat → Nat → Int32 → Int32 → Option (Grp)) (fun _ _ _ _ _ _ => none) (fun _ ih => f_X2_noteFirstRule_l9b F  ih) fu
noncomputable def f_X2_noteFirstRule (F : Nat) (G4 : Grp) (G5 : Grp) (v0 : Nat) (v1 : Nat) (v2 : Int32) : Option (Grp) :=
  ck v2 160 (bn (gI G5 (v0 + 5) v2.toNatClampNeg (-1)) (fun G5_6 => f_X2_noteFirstRule_l9 F  F G4 G5_6 v0 v1 v2 0))
def RM_X2_noteFirstRule : Room := { frames := 0, cells := 0, slots := 0, locals := 0 }
abbrev W_X2_noteFirstRule : List Nat := [5]
abbrev B_X2_noteFirstRule (HB : Heap) (D : va_G) (y : Nat → ClassId) (n : Nat) (κ : Nat → Nat) (σ0 : St) (q : Grp) : Heap → Prop := fun H => ∃ σ : St, IV HB D y n n κ σ [] H ∧ σ 5 = q ∧ ∀ j, j ∉ W_X2_noteFirstRule → σ j = σ0 j
set_option maxRecDepth 100000 in
set_option maxHeartbeats 4000000 in
theorem c_X2_noteFirstRule (l : Launch) (HB : Heap) (D : va_G) (y : Nat → ClassId) (F n : Nat) (κ : Nat → Nat) (σ0 : St) (hN : N0 ≤ n) (v0 : Nat) (ha_v0 : v0 < n) (hk_v0 : κ v0 = 2) (v1 : Nat) (ha_v1 : v1 < n) (hk_v1 : κ v1 = 7) (v2 : Int32)  (G4 : Grp) (e4 : σ0 4 = G4) (G5 : Grp) (e5 : σ0 5 = G5) (q : Grp) (h : f_X2_noteFirstRule F G4 G5 v0 v1 v2 = some q) : MT l HB D y yX2_noteFirstRule cX2_noteFirstRule 5 none RM_X2_noteFirstRule [.ref (HB.size + v0), .ref (HB.size + v1), .int v2] (IV HB D y n n κ σ0 []) none (B_X2_noteFirstRule HB D y n κ σ0 q) := by
  refine Met.ofW (cc := cX2_noteFirstRule) (maxL := 5) (ret := none) (by decide) rfl ?_
  intro p e s m args below meth c s₁ BL hml hv
  obtain ⟨rfl, hI, hKK⟩ := hv
  have hx := BL.exec
  have hb := BL.bytes
  have hr := BL.returns
  have hts : ∀ w ∈ gtb, w.before _ s = true := fun w hw => atoms_spec BL.pre w (List.mem_cons_of_mem _ hw)
  have hml : c.maxLocals = 5 := hml
  have hown : s.vm.findClass RX2 = some m.cls := findClass_of_methodNamed BL.named
  have hlocks := BL.notSynchronized
  have hk0 := hI.1.2.2.2.2
  have hl := lv_entry ([.ref (HB.size + v0), .ref (HB.size + v1), .int v2]) (n := 5) (Nat.le_of_ble_eq_true rfl)
  rw [lg_entry_eq]
  generalize (lg_sl ([.ref (HB.size + v0), .ref (HB.size + v1), .int v2]) ++ List.replicate (5 - (lg_sl ([.ref (HB.size + v0), .ref (HB.size + v1), .int v2])).length) Slot.unset).toArray = ls at hl ⊢
  have hl : lv_has ls 5 [(0, .ref (HB.size + v0)), (1, .ref (HB.size + v1)), (2, .int v2)] := hl
  generalize hargs : ([.ref (HB.size + v0), .ref (HB.size + v1), .int v2] : List Value).toArray = args at *
  have b9 : ∀ (fu : Nat) (σ : St) (H : Heap) (locs : List Loc) (ls : Array Slot) (G4 : Grp) (G5 : Grp) (v0 : Nat) (v1 : Nat) (v2 : Int32) (v3 : Int32) (ha_v0 : v0 < n) (hk_v0 : κ v0 = 2) (ha_v1 : v1 < n) (hk_v1 : κ v1 = 7), IV HB D y n n κ σ locs H → σ 4 = G4 → σ 5 = G5 → (∀ j, j ∉ W_X2_noteFirstRule → σ j = σ0 j) → lv_has ls 5 [(0, .ref (HB.size + v0)), (1, .ref (HB.size + v1)), (2, .int v2), (3, .int v3)] → f_X2_noteFirstRule_l9 F  fu G4 G5 v0 v1 v2 v3 = some q → WX RM_X2_noteFirstRule p l e s m args below meth c HB none (B_X2_noteFirstRule HB D y n κ σ0 q) H locs (F0 m 9 ls []) := by
    intro  fu
    induction fu with
    | zero =>
      intro σ H locs ls G4 G5 v0 v1 v2 v3 ha_v0 hk_v0 ha_v1 hk_v1 hI e4 e5 fr hl h
      exact absurd h (by intro h; cases h)
    | succ fu hk9 =>
      intro σ H locs ls G4 G5 v0 v1 v2 v3 ha_v0 hk_v0 ha_v1 hk_v1 hI e4 e5 fr hl h
      have h : f_X2_noteFirstRule_l9b F  (f_X2_noteFirstRule_l9 F  fu) G4 G5 v0 v1 v2 v3 = some q := h
      generalize f_X2_noteFirstRule_l9 F  fu = k9 at h hk9
      unfold f_X2_noteFirstRule_l9b at h
      refine lv_iload_n hx hb dX2_noteFirstRule_9 rfl (lv_at hl 3 rfl) ?_
      refine lv_aload_n hx hb dX2_noteFirstRule_10 rfl (lv_at hl 1 rfl) ?_
      refine gt_X2_84 hx hb hts hown hKK hI e4 ha_v1 hk_v1 dX2_noteFirstRule_11 ?_
      refine lv_icmp_ge (tgt := 58) hx hb dX2_noteFirstRule_14 (by decide) (fun hc => ?_) (fun hc => ?_)
      · replace h := ite_t hc h
        have hq := Option.some.inj h
        exact W.vret hx hb hr (fun t ht hW => qc_mk (rfl) (by rw [ht]; exact ⟨σ, hI.nil, e5.trans (congrArg (fun z => z) hq), fr⟩)) hI.2.2 dX2_noteFirstRule_58 hlocks
      · replace h := ite_f hc h
        refine lv_aload_n hx hb dX2_noteFirstRule_17 rfl (lv_at hl 0 rfl) ?_
        refine gt_X2_32 hx hb hts hown hKK hI e5 ha_v0 hk_v0 dX2_noteFirstRule_18 ?_
        rcases om_e h with ⟨eo, h⟩ | ⟨t_18, eo, h⟩
        · refine topn eo ?_
          refine lv_aload_n hx hb dX2_noteFirstRule_21 rfl (lv_at hl 1 rfl) ?_
          refine gf_X2_87 hx hb hts hown hKK hI ha_v1 hk_v1 dX2_noteFirstRule_22 ?_
          refine lv_iload_n hx hb dX2_noteFirstRule_25 rfl (lv_at hl 3 rfl) ?_
          obtain ⟨hin_, h⟩ := ck_e h
          refine la_16 hx hb hKK hI e4 (ownF hI ha_v1 hk_v1 3 rfl).2.1 (ownF hI ha_v1 hk_v1 3 rfl).2.2 hin_ dX2_noteFirstRule_26 ?_
          cases h
        · refine topr eo ?_
          obtain ⟨ha_18, hk_18⟩ := typF hI ha_v0 hk_v0 0 rfl e5 eo
          refine lv_aload_n hx hb dX2_noteFirstRule_21 rfl (lv_at hl 1 rfl) ?_
          refine gf_X2_87 hx hb hts hown hKK hI ha_v1 hk_v1 dX2_noteFirstRule_22 ?_
          refine lv_iload_n hx hb dX2_noteFirstRule_25 rfl (lv_at hl 3 rfl) ?_
          obtain ⟨hin_, h⟩ := ck_e h
          refine la_16 hx hb hKK hI e4 (ownF hI ha_v1 hk_v1 3 rfl).2.1 (ownF hI ha_v1 hk_v1 3 rfl).2.2 hin_ dX2_noteFirstRule_26 ?_
          obtain ⟨hin_, h⟩ := ck_e h
          refine la_19 hx hb hKK hI e5 ha_18 hk_18 hin_ dX2_noteFirstRule_27 ?_
          obtain ⟨v4_28, qq, h⟩ := bn_e h
          refine topi qq ?_
          refine lv_istore (lv' := [(4, .int v4_28), (0, .ref (HB.size + v0)), (1, .ref (HB.size + v1)), (2, .int v2), (3, .int v3)]) hx hb dX2_noteFirstRule_28 hl (by decide) rfl (fun ls hl => ?_)
          refine lv_iload hx hb dX2_noteFirstRule_30 (lv_at hl 0 rfl) ?_
          refine lv_iload_n hx hb dX2_noteFirstRule_32 rfl (lv_at hl 3 rfl) ?_
          refine lv_icmp_le (tgt := 52) hx hb dX2_noteFirstRule_33 (by decide) (fun hc => ?_) (fun hc => ?_)
          · replace h := ite_t hc h
            obtain ⟨v3_52, qq, h⟩ := bn_e h
            refine lv_iinc (v := v3_52) (lv' := [(3, .int v3_52), (4, .int v4_28), (0, .ref (HB.size + v0)), (1, .ref (HB.size + v1)), (2, .int v2)]) hx hb dX2_noteFirstRule_52 hl (k := 4) rfl (by rw [qq]; rfl) (by decide) rfl (fun ls hl => ?_)
            refine lv_goto (tgt := 9) hx hb dX2_noteFirstRule_55 (by decide) ?_
            exact hk9 σ H locs ls G4 G5 v0 v1 v2 v3_52 ha_v0 hk_v0 ha_v1 hk_v1 hI e4 e5 fr (lv_sub hl [2, 3, 4, 0] rfl) h
          · replace h := ite_f hc h
            refine lv_aload_n hx hb dX2_noteFirstRule_36 rfl (lv_at hl 1 rfl) ?_
            refine gf_X2_24 hx hb hts hown hKK hI ha_v0 hk_v0 dX2_noteFirstRule_37 ?_
            refine lv_iload_n hx hb dX2_noteFirstRule_40 rfl (lv_at hl 3 rfl) ?_
            refine lv_iload_n hx hb dX2_noteFirstRule_41 rfl (lv_at hl 4 rfl) ?_
            obtain ⟨hin_, h⟩ := ck_e h
            obtain ⟨G5_42, qq, h⟩ := bn_e h
            refine sa_18 hx hb hKK hI e5 (ownF hI ha_v0 hk_v0 4 rfl).2.1 (ownF hI ha_v0 hk_v0 4 rfl).2.2 hin_ dX2_noteFirstRule_42 (fun σ H locs hI ew ho => ?_)
            have e5 := ew.trans qq.symm
            have e4 := (ho 4 (nn rfl)).trans e4
            have fr := frs fr ho (by decide)
            refine lv_aload_n hx hb dX2_noteFirstRule_43 rfl (lv_at hl 1 rfl) ?_
            refine gf_X2_27 hx hb hts hown hKK hI ha_v0 hk_v0 dX2_noteFirstRule_44 ?_
            refine lv_iload_n hx hb dX2_noteFirstRule_47 rfl (lv_at hl 3 rfl) ?_
            refine lv_iload hx hb dX2_noteFirstRule_48 (lv_at hl 0 rfl) ?_
            obtain ⟨hin_, h⟩ := ck_e h
            obtain ⟨G5_50, qq, h⟩ := bn_e h
            refine sa_18 hx hb hKK hI e5 (ownF hI ha_v0 hk_v0 5 rfl).2.1 (ownF hI ha_v0 hk_v0 5 rfl).2.2 hin_ dX2_noteFirstRule_50 (fun σ H locs hI ew ho => ?_)
            have e5 := ew.trans qq.symm
            have e4 := (ho 4 (nn rfl)).trans e4
            have fr := frs fr ho (by decide)
            have hq := Option.some.inj h
            exact W.vret hx hb hr (fun t ht hW => qc_mk (rfl) (by rw [ht]; exact ⟨σ, hI.nil, e5.trans (congrArg (fun z => z) hq), fr⟩)) hI.2.2 dX2_noteFirstRule_51 hlocks
  obtain ⟨σ, hI, e4, e5, fr⟩ : ∃ σ : St, IV HB D y n n κ σ [] s.heap ∧ σ 4 = G4 ∧ σ 5 = G5 ∧ ∀ j, j ∉ W_X2_noteFirstRule → σ j = σ0 j := ⟨σ0, hI, e4, e5, fun _ _ => rfl⟩
  show WX RM_X2_noteFirstRule p l e s m args below meth c HB none (B_X2_noteFirstRule HB D y n κ σ0 q) s.heap [] (F0 m 0 ls [])
  generalize s.heap = H at hI ⊢
  unfold f_X2_noteFirstRule at h
  obtain ⟨locs, hlocs⟩ : ∃ x : List Loc, x = [] := ⟨_, rfl⟩
  rw [← hlocs] at hI ⊢
  refine lv_aload_n hx hb dX2_noteFirstRule_0 rfl (lv_at hl 0 rfl) ?_
  refine gf_X2_24 hx hb hts hown hKK hI ha_v0 hk_v0 dX2_noteFirstRule_1 ?_
  refine lv_iload_n hx hb dX2_noteFirstRule_4 rfl (lv_at hl 2 rfl) ?_
  refine lv_iconst (v := (-1)) hx hb dX2_noteFirstRule_5 (by decide) ?_
  obtain ⟨hin_, h⟩ := ck_e h
  obtain ⟨G5_6, qq, h⟩ := bn_e h
  refine sa_18 hx hb hKK hI e5 (ownF hI ha_v0 hk_v0 4 rfl).2.1 (ownF hI ha_v0 hk_v0 4 rfl).2.2 hin_ dX2_noteFirstRule_6 (fun σ H locs hI ew ho => ?_)
  have e5 := ew.trans qq.symm
  have e4 := (ho 4 (nn rfl)).trans e4
  have fr := frs fr ho (by decide)
  refine lv_iconst (v := 0) hx hb dX2_noteFirstRule_7 (by decide) ?_
  refine lv_istore_n (lv' := [(3, .int 0), (0, .ref (HB.size + v0)), (1, .ref (HB.size + v1)), (2, .int v2)]) hx hb dX2_noteFirstRule_8 rfl hl (by decide) rfl (fun ls hl => ?_)
  exact b9  F σ H locs ls G4 G5_6 v0 v1 v2 0 ha_v0 hk_v0 ha_v1 hk_v1 hI e4 e5 fr (lv_sub hl [1, 2, 3, 0] rfl) h
noncomputable def f_X2_reachByNothing_b159 (F : Nat) (k5 : Grp → Grp → Nat → Nat → Int32 → Int32 → Int32 → Option (Grp)) (k28 : Grp → Grp → Nat → Nat → Int32 → Int32 → Int32 → Int32 → Option (Grp)) (G4 : Grp) (G5 : Grp) (v0 : Nat) (v1 : Nat) (v2 : Int32) (v4 : Int32) (v5 : Int32) (v6 : Int32) (s0 : Int32) : Option (Grp) :=
  om (G5.2.2 v0 7) (none) (fun t_161 => ck v5 408 (bn (gI G5 t_161 v5.toNatClampNeg v6) (fun G5_168 => bn (v5 + (-1)) (fun v5_169 => k28 G4 G5_168 v0 v1 v2 s0 v4 v5_169))))
noncomputable def f_X2_reachByNothing_b154 (F : Nat) (k5 : Grp → Grp → Nat → Nat → Int32 → Int32 → Int32 → Option (Grp)) (k28 : Grp → Grp → Nat → Nat → Int32 → Int32 → Int32 → Int32 → Option (Grp)) (G4 : Grp) (G5 : Grp) (v0 : Nat) (v1 : Nat) (v2 : Int32) (v4 : Int32) (v5 : Int32) (v6 : Int32) : Option (Grp) :=
  f_X2_reachByNothing_b159 F k5 k28 G4 G5 v0 v1 v2 v4 v5 v6 1
noncomputable def f_X2_reachByNothing_b138 (F : Nat) (k5 : Grp → Grp → Nat → Nat → Int32 → Int32 → Int32 → Option (Grp)) (k28 : Grp → Grp → Nat → Nat → Int32 → Int32 → Int32 → Int32 → Option (Grp)) (G4 : Grp) (G5 : Grp) (v0 : Nat) (v1 : Nat) (v2 : Int32) (v3 : Int32) (v4 : Int32) (v5 : Int32) (v6 : Int32) : Option (Grp) :=
  if v3 = 0 then om (G5.2.2 v0 7) (none) (fun t_145 => ck v5 408 (if v6 ≤ (G5.1 t_145 v5.toNatClampNeg) then f_X2_reachByNothing_b159 F k5 k28 G4 G5 v0 v1 v2 v4 v5 v6 0 else f_X2_reachByNothing_b154 F k5 k28 G4 G5 v0 v1 v2 v4 v5 v6)) else f_X2_reachByNothing_b154 F k5 k28 G4 G5 v0 v1 v2 v4 v5 v6
noncomputable def f_X2_reachByNothing_b109 (F : Nat) (k5 : Grp → Grp → Nat → Nat → Int32 → Int32 → Int32 → Option (Grp)) (k28 : Grp → Grp → Nat → Nat → Int32 → Int32 → Int32 → Int32 → Option (Grp)) (G4 : Grp) (G5 : Grp) (v0 : Nat) (v1 : Nat) (v2 : Int32) (v3 : Int32) (v4 : Int32) (v5 : Int32) (v6 : Int32) : Option (Grp) :=
  ck v5 408 (if (G4.1 (v1 + 3) v5.toNatClampNeg) < 0 then f_X2_reachByNothing_b138 F k5 k28 G4 G5 v0 v1 v2 v3 v4 v5 v6 else om (G5.2.2 v0 7) (ck v5 408 (none)) (fun t_122 => ck v5 408 (ck (G4.1 (v1 + 3) v5.toNatClampNeg) 408 (bn ((if v6 < (G5.1 t_122 (G4.1 (v1 + 3) v5.toNatClampNeg).toNatClampNeg) then (G5.1 t_122 (G4.1 (v1 + 3) v5.toNatClampNeg).toNatClampNeg) else v6)) (fun v6_136 => f_X2_reachByNothing_b138 F k5 k28 G4 G5 v0 v1 v2 v3 v4 v5 v6_136)))))
noncomputable def f_X2_reachByNothing_b73 (F : Nat) (k5 : Grp → Grp → Nat → Nat → Int32 → Int32 → Int32 → Option (Grp)) (k28 : Grp → Grp → Nat → Nat → Int32 → Int32 → Int32 → Int32 → Option (Grp)) (G4 : Grp) (G5 : Grp) (v0 : Nat) (v1 : Nat) (v2 : Int32) (v3 : Int32) (v4 : Int32) (v5 : Int32) (v6 : Int32) (s0 : Int32) : Option (Grp) :=
  if s0 = 0 then f_X2_reachByNothing_b109 F k5 k28 G4 G5 v0 v1 v2 v3 v4 v5 v6 else ck v5 408 (if (G4.1 (v1 + 2) v5.toNatClampNeg) < 0 then f_X2_reachByNothing_b109 F k5 k28 G4 G5 v0 v1 v2 v3 v4 v5 v6 else om (G5.2.2 v0 7) (ck v5 408 (none)) (fun t_93 => ck v5 408 (ck (G4.1 (v1 + 2) v5.toNatClampNeg) 408 (bn ((if v6 < (G5.1 t_93 (G4.1 (v1 + 2) v5.toNatClampNeg).toNatClampNeg) then (G5.1 t_93 (G4.1 (v1 + 2) v5.toNatClampNeg).toNatClampNeg) else v6)) (fun v6_107 => f_X2_reachByNothing_b109 F k5 k28 G4 G5 v0 v1 v2 v3 v4 v5 v6_107)))))
noncomputable def f_X2_reachByNothing_b68 (F : Nat) (k5 : Grp → Grp → Nat → Nat → Int32 → Int32 → Int32 → Option (Grp)) (k28 : Grp → Grp → Nat → Nat → Int32 → Int32 → Int32 → Int32 → Option (Grp)) (G4 : Grp) (G5 : Grp) (v0 : Nat) (v1 : Nat) (v2 : Int32) (v3 : Int32) (v4 : Int32) (v5 : Int32) (v6 : Int32) : Option (Grp) :=
  f_X2_reachByNothing_b73 F k5 k28 G4 G5 v0 v1 v2 v3 v4 v5 v6 1
noncomputable def f_X2_reachByNothing_b72 (F : Nat) (k5 : Grp → Grp → Nat → Nat → Int32 → Int32 → Int32 → Option (Grp)) (k28 : Grp → Grp → Nat → Nat → Int32 → Int32 → Int32 → Int32 → Option (Grp)) (G4 : Grp) (G5 : Grp) (v0 : Nat) (v1 : Nat) (v2 : Int32) (v3 : Int32) (v4 : Int32) (v5 : Int32) (v6 : Int32) : Option (Grp) :=
  f_X2_reachByNothing_b73 F k5 k28 G4 G5 v0 v1 v2 v3 v4 v5 v6 0
noncomputable def f_X2_reachByNothing_l28b (F : Nat) (k5 : Grp → Grp → Nat → Nat → Int32 → Int32 → Int32 → Option (Grp)) (k28 : Grp → Grp → Nat → Nat → Int32 → Int32 → Int32 → Int32 → Option (Grp)) (G4 : Grp) (G5 : Grp) (v0 : Nat) (v1 : Nat) (v2 : Int32) (v3 : Int32) (v4 : Int32) (v5 : Int32) : Option (Grp) :=
  if v5 < 0 then bn (v4 + 1) (fun v4_175 => k5 G4 G5 v0 v1 v2 v3 v4_175) else om (G5.2.2 v0 7) (none) (fun t_34 => ck v5 408 (bn ((G5.1 t_34 v5.toNatClampNeg)) (fun v6_40 => ck v5 408 (if (G4.1 (v1 + 1) v5.toNatClampNeg) = 0 then f_X2_reachByNothing_b68 F k5 k28 G4 G5 v0 v1 v2 v3 v4 v5 v6_40 else ck v5 408 (if (G4.1 (v1 + 1) v5.toNatClampNeg) = 94 then if v2 = 0 then f_X2_reachByNothing_b72 F k5 k28 G4 G5 v0 v1 v2 v3 v4 v5 v6_40 else f_X2_reachByNothing_b68 F k5 k28 G4 G5 v0 v1 v2 v3 v4 v5 v6_40 else f_X2_reachByNothing_b72 F k5 k28 G4 G5 v0 v1 v2 v3 v4 v5 v6_40)))))
noncomputable def f_X2_reachByNothing_l28 (F : Nat) (k5 : Grp → Grp → Nat → Nat → Int32 → Int32 → Int32 → Option (Grp)) (fu : Nat) : Grp → Grp → Nat → Nat → Int32 → Int32 → Int32 → Int32 → Option (Grp) := Nat.rec (motive := fun _ => Grp → Grp → Nat → Nat → Int32 → Int32 → Int32 → Int32 → Option (Grp)) (fun _ _ _ _ _ _ _ _ => none) (fun _ ih => f_X2_reachByNothing_l28b F k5 ih) fu
noncomputable def f_X2_reachByNothing_l5b (F : Nat)  (k5 : Grp → Grp → Nat → Nat → Int32 → Int32 → Int32 → Option (Grp)) (G4 : Grp) (G5 : Grp) (v0 : Nat) (v1 : Nat) (v2 : Int32) (v3 : Int32) (v4 : Int32) : Option (Grp) :=
  if v3 = 0 then some G5 else if (G4.1 v1 3) < v4 then some G5 else bn (((G4.1 v1 3) - 1)) (fun v5_26 => f_X2_reachByNothing_l28 F k5 F G4 G5 v0 v1 v2 0 v4 v5_26)
noncomputable def f_X2_reachByNothing_l5 (F : Nat)  (fu : Nat) : Grp → Grp → Nat → Nat → Int32 → Int32 → Int32 → Option (Grp) := Nat.rec (motive := fun _ => Grp → Grp → Nat → Nat → Int32 → Int32 → Int32 → Option (Grp)) (fun _ _ _ _ _ _ _ => none) (fun _ ih => f_X2_reachByNothing_l5b F  ih) fu
noncomputable def f_X2_reachByNothing (F : Nat) (G4 : Grp) (G5 : Grp) (v0 : Nat) (v1 : Nat) (v2 : Int32) : Option (Grp) :=
  f_X2_reachByNothing_l5 F  F G4 G5 v0 v1 v2 1 0
def RM_X2_reachByNothing : Room := { frames := 1, cells := 0, slots := 0, locals := 40 }
abbrev W_X2_reachByNothing : List Nat := [5]
abbrev B_X2_reachByNothing (HB : Heap) (D : va_G) (y : Nat → ClassId) (n : Nat) (κ : Nat → Nat) (σ0 : St) (q : Grp) : Heap → Prop := fun H => ∃ σ : St, IV HB D y n n κ σ [] H ∧ σ 5 = q ∧ ∀ j, j ∉ W_X2_reachByNothing → σ j = σ0 j
set_option maxRecDepth 100000 in
set_option maxHeartbeats 4000000 in
theorem c_X2_reachByNothing (l : Launch) (HB : Heap) (D : va_G) (y : Nat → ClassId) (F n : Nat) (κ : Nat → Nat) (σ0 : St) (hN : N0 ≤ n) (v0 : Nat) (ha_v0 : v0 < n) (hk_v0 : κ v0 = 2) (v1 : Nat) (ha_v1 : v1 < n) (hk_v1 : κ v1 = 7) (v2 : Int32)  (G4 : Grp) (e4 : σ0 4 = G4) (G5 : Grp) (e5 : σ0 5 = G5) (q : Grp) (h : f_X2_reachByNothing F G4 G5 v0 v1 v2 = some q) : MT l HB D y yX2_reachByNothing cX2_reachByNothing 8 none RM_X2_reachByNothing [.ref (HB.size + v0), .ref (HB.size + v1), .int v2] (IV HB D y n n κ σ0 []) none (B_X2_reachByNothing HB D y n κ σ0 q) := by
  refine Met.ofW (cc := cX2_reachByNothing) (maxL := 8) (ret := none) (by decide) rfl ?_
  intro p e s m args below meth c s₁ BL hml hv
  obtain ⟨rfl, hI, hKK⟩ := hv
  have hx := BL.exec
  have hb := BL.bytes
  have hr := BL.returns
  have hts : ∀ w ∈ gtb, w.before _ s = true := fun w hw => atoms_spec BL.pre w (List.mem_cons_of_mem _ hw)
  have hml : c.maxLocals = 8 := hml
  have hown : s.vm.findClass RX2 = some m.cls := findClass_of_methodNamed BL.named
  have hlocks := BL.notSynchronized
  have hk0 := hI.1.2.2.2.2
  have hl := lv_entry ([.ref (HB.size + v0), .ref (HB.size + v1), .int v2]) (n := 8) (Nat.le_of_ble_eq_true rfl)
  rw [lg_entry_eq]
  generalize (lg_sl ([.ref (HB.size + v0), .ref (HB.size + v1), .int v2]) ++ List.replicate (8 - (lg_sl ([.ref (HB.size + v0), .ref (HB.size + v1), .int v2])).length) Slot.unset).toArray = ls at hl ⊢
  have hl : lv_has ls 8 [(0, .ref (HB.size + v0)), (1, .ref (HB.size + v1)), (2, .int v2)] := hl
  generalize hargs : ([.ref (HB.size + v0), .ref (HB.size + v1), .int v2] : List Value).toArray = args at *
  have b159 : ∀ (k5 : Grp → Grp → Nat → Nat → Int32 → Int32 → Int32 → Option (Grp)) (hk5 : ∀ (σ : St) (H : Heap) (locs : List Loc) (ls : Array Slot) (G4 : Grp) (G5 : Grp) (v0 : Nat) (v1 : Nat) (v2 : Int32) (v3 : Int32) (v4 : Int32) (ha_v0 : v0 < n) (hk_v0 : κ v0 = 2) (ha_v1 : v1 < n) (hk_v1 : κ v1 = 7), IV HB D y n n κ σ locs H → σ 4 = G4 → σ 5 = G5 → (∀ j, j ∉ W_X2_reachByNothing → σ j = σ0 j) → lv_has ls 8 [(0, .ref (HB.size + v0)), (1, .ref (HB.size + v1)), (2, .int v2), (3, .int v3), (4, .int v4)] → k5 G4 G5 v0 v1 v2 v3 v4 = some q → WX RM_X2_reachByNothing p l e s m args below meth c HB none (B_X2_reachByNothing HB D y n κ σ0 q) H locs (F0 m 5 ls [])) (k28 : Grp → Grp → Nat → Nat → Int32 → Int32 → Int32 → Int32 → Option (Grp)) (hk28 : ∀ (σ : St) (H : Heap) (locs : List Loc) (ls : Array Slot) (G4 : Grp) (G5 : Grp) (v0 : Nat) (v1 : Nat) (v2 : Int32) (v3 : Int32) (v4 : Int32) (v5 : Int32) (ha_v0 : v0 < n) (hk_v0 : κ v0 = 2) (ha_v1 : v1 < n) (hk_v1 : κ v1 = 7), IV HB D y n n κ σ locs H → σ 4 = G4 → σ 5 = G5 → (∀ j, j ∉ W_X2_reachByNothing → σ j = σ0 j) → lv_has ls 8 [(0, .ref (HB.size + v0)), (1, .ref (HB.size + v1)), (2, .int v2), (3, .int v3), (4, .int v4), (5, .int v5)] → k28 G4 G5 v0 v1 v2 v3 v4 v5 = some q → WX RM_X2_reachByNothing p l e s m args below meth c HB none (B_X2_reachByNothing HB D y n κ σ0 q) H locs (F0 m 28 ls [])) (σ : St) (H : Heap) (locs : List Loc) (ls : Array Slot) (G4 : Grp) (G5 : Grp) (v0 : Nat) (v1 : Nat) (v2 : Int32) (v4 : Int32) (v5 : Int32) (v6 : Int32) (s0 : Int32) (ha_v0 : v0 < n) (hk_v0 : κ v0 = 2) (ha_v1 : v1 < n) (hk_v1 : κ v1 = 7), IV HB D y n n κ σ locs H → σ 4 = G4 → σ 5 = G5 → (∀ j, j ∉ W_X2_reachByNothing → σ j = σ0 j) → lv_has ls 8 [(0, .ref (HB.size + v0)), (1, .ref (HB.size + v1)), (2, .int v2), (4, .int v4), (5, .int v5), (6, .int v6)] → f_X2_reachByNothing_b159 F k5 k28 G4 G5 v0 v1 v2 v4 v5 v6 s0 = some q → WX RM_X2_reachByNothing p l e s m args below meth c HB none (B_X2_reachByNothing HB D y n κ σ0 q) H locs (F0 m 159 ls [.int s0]) := by
    intro k5 hk5 k28 hk28 σ H locs ls G4 G5 v0 v1 v2 v4 v5 v6 s0 ha_v0 hk_v0 ha_v1 hk_v1 hI e4 e5 fr hl h
    unfold f_X2_reachByNothing_b159 at h
    refine lv_istore_n (lv' := [(3, .int s0), (0, .ref (HB.size + v0)), (1, .ref (HB.size + v1)), (2, .int v2), (4, .int v4), (5, .int v5), (6, .int v6)]) hx hb dX2_reachByNothing_159 rfl hl (by decide) rfl (fun ls hl => ?_)
    refine lv_aload_n hx hb dX2_reachByNothing_160 rfl (lv_at hl 1 rfl) ?_
    refine gt_X2_32 hx hb hts hown hKK hI e5 ha_v0 hk_v0 dX2_reachByNothing_161 ?_
    rcases om_e h with ⟨eo, h⟩ | ⟨t_161, eo, h⟩
    · refine topn eo ?_
      refine lv_iload hx hb dX2_reachByNothing_164 (lv_at hl 5 rfl) ?_
      refine lv_iload hx hb dX2_reachByNothing_166 (lv_at hl 6 rfl) ?_
      cases h
    · refine topr eo ?_
      obtain ⟨ha_161, hk_161⟩ := typF hI ha_v0 hk_v0 0 rfl e5 eo
      refine lv_iload hx hb dX2_reachByNothing_164 (lv_at hl 5 rfl) ?_
      refine lv_iload hx hb dX2_reachByNothing_166 (lv_at hl 6 rfl) ?_
      obtain ⟨hin_, h⟩ := ck_e h
      obtain ⟨G5_168, qq, h⟩ := bn_e h
      refine sa_19 hx hb hKK hI e5 ha_161 hk_161 hin_ dX2_reachByNothing_168 (fun σ H locs hI ew ho => ?_)
      have e5 := ew.trans qq.symm
      have e4 := (ho 4 (nn rfl)).trans e4
      have fr := frs fr ho (by decide)
      obtain ⟨v5_169, qq, h⟩ := bn_e h
      refine lv_iinc (v := v5_169) (lv' := [(5, .int v5_169), (3, .int s0), (0, .ref (HB.size + v0)), (1, .ref (HB.size + v1)), (2, .int v2), (4, .int v4), (6, .int v6)]) hx hb dX2_reachByNothing_169 hl (k := 5) rfl (by rw [qq]; rfl) (by decide) rfl (fun ls hl => ?_)
      refine lv_goto (tgt := 28) hx hb dX2_reachByNothing_172 (by decide) ?_
      exact hk28 σ H locs ls G4 G5_168 v0 v1 v2 s0 v4 v5_169 ha_v0 hk_v0 ha_v1 hk_v1 hI e4 e5 fr (lv_sub hl [2, 3, 4, 1, 5, 0] rfl) h
  have b154 : ∀ (k5 : Grp → Grp → Nat → Nat → Int32 → Int32 → Int32 → Option (Grp)) (hk5 : ∀ (σ : St) (H : Heap) (locs : List Loc) (ls : Array Slot) (G4 : Grp) (G5 : Grp) (v0 : Nat) (v1 : Nat) (v2 : Int32) (v3 : Int32) (v4 : Int32) (ha_v0 : v0 < n) (hk_v0 : κ v0 = 2) (ha_v1 : v1 < n) (hk_v1 : κ v1 = 7), IV HB D y n n κ σ locs H → σ 4 = G4 → σ 5 = G5 → (∀ j, j ∉ W_X2_reachByNothing → σ j = σ0 j) → lv_has ls 8 [(0, .ref (HB.size + v0)), (1, .ref (HB.size + v1)), (2, .int v2), (3, .int v3), (4, .int v4)] → k5 G4 G5 v0 v1 v2 v3 v4 = some q → WX RM_X2_reachByNothing p l e s m args below meth c HB none (B_X2_reachByNothing HB D y n κ σ0 q) H locs (F0 m 5 ls [])) (k28 : Grp → Grp → Nat → Nat → Int32 → Int32 → Int32 → Int32 → Option (Grp)) (hk28 : ∀ (σ : St) (H : Heap) (locs : List Loc) (ls : Array Slot) (G4 : Grp) (G5 : Grp) (v0 : Nat) (v1 : Nat) (v2 : Int32) (v3 : Int32) (v4 : Int32) (v5 : Int32) (ha_v0 : v0 < n) (hk_v0 : κ v0 = 2) (ha_v1 : v1 < n) (hk_v1 : κ v1 = 7), IV HB D y n n κ σ locs H → σ 4 = G4 → σ 5 = G5 → (∀ j, j ∉ W_X2_reachByNothing → σ j = σ0 j) → lv_has ls 8 [(0, .ref (HB.size + v0)), (1, .ref (HB.size + v1)), (2, .int v2), (3, .int v3), (4, .int v4), (5, .int v5)] → k28 G4 G5 v0 v1 v2 v3 v4 v5 = some q → WX RM_X2_reachByNothing p l e s m args below meth c HB none (B_X2_reachByNothing HB D y n κ σ0 q) H locs (F0 m 28 ls [])) (σ : St) (H : Heap) (locs : List Loc) (ls : Array Slot) (G4 : Grp) (G5 : Grp) (v0 : Nat) (v1 : Nat) (v2 : Int32) (v4 : Int32) (v5 : Int32) (v6 : Int32) (ha_v0 : v0 < n) (hk_v0 : κ v0 = 2) (ha_v1 : v1 < n) (hk_v1 : κ v1 = 7), IV HB D y n n κ σ locs H → σ 4 = G4 → σ 5 = G5 → (∀ j, j ∉ W_X2_reachByNothing → σ j = σ0 j) → lv_has ls 8 [(0, .ref (HB.size + v0)), (1, .ref (HB.size + v1)), (2, .int v2), (4, .int v4), (5, .int v5), (6, .int v6)] → f_X2_reachByNothing_b154 F k5 k28 G4 G5 v0 v1 v2 v4 v5 v6 = some q → WX RM_X2_reachByNothing p l e s m args below meth c HB none (B_X2_reachByNothing HB D y n κ σ0 q) H locs (F0 m 154 ls []) := by
    intro k5 hk5 k28 hk28 σ H locs ls G4 G5 v0 v1 v2 v4 v5 v6 ha_v0 hk_v0 ha_v1 hk_v1 hI e4 e5 fr hl h
    unfold f_X2_reachByNothing_b154 at h
    refine lv_iconst (v := 1) hx hb dX2_reachByNothing_154 (by decide) ?_
    refine lv_goto (tgt := 159) hx hb dX2_reachByNothing_155 (by decide) ?_
    exact b159 k5 hk5 k28 hk28 σ H locs ls G4 G5 v0 v1 v2 v4 v5 v6 1 ha_v0 hk_v0 ha_v1 hk_v1 hI e4 e5 fr (lv_sub hl [0, 1, 2, 3, 4, 5] rfl) h
  have b138 : ∀ (k5 : Grp → Grp → Nat → Nat → Int32 → Int32 → Int32 → Option (Grp)) (hk5 : ∀ (σ : St) (H : Heap) (locs : List Loc) (ls : Array Slot) (G4 : Grp) (G5 : Grp) (v0 : Nat) (v1 : Nat) (v2 : Int32) (v3 : Int32) (v4 : Int32) (ha_v0 : v0 < n) (hk_v0 : κ v0 = 2) (ha_v1 : v1 < n) (hk_v1 : κ v1 = 7), IV HB D y n n κ σ locs H → σ 4 = G4 → σ 5 = G5 → (∀ j, j ∉ W_X2_reachByNothing → σ j = σ0 j) → lv_has ls 8 [(0, .ref (HB.size + v0)), (1, .ref (HB.size + v1)), (2, .int v2), (3, .int v3), (4, .int v4)] → k5 G4 G5 v0 v1 v2 v3 v4 = some q → WX RM_X2_reachByNothing p l e s m args below meth c HB none (B_X2_reachByNothing HB D y n κ σ0 q) H locs (F0 m 5 ls [])) (k28 : Grp → Grp → Nat → Nat → Int32 → Int32 → Int32 → Int32 → Option (Grp)) (hk28 : ∀ (σ : St) (H : Heap) (locs : List Loc) (ls : Array Slot) (G4 : Grp) (G5 : Grp) (v0 : Nat) (v1 : Nat) (v2 : Int32) (v3 : Int32) (v4 : Int32) (v5 : Int32) (ha_v0 : v0 < n) (hk_v0 : κ v0 = 2) (ha_v1 : v1 < n) (hk_v1 : κ v1 = 7), IV HB D y n n κ σ locs H → σ 4 = G4 → σ 5 = G5 → (∀ j, j ∉ W_X2_reachByNothing → σ j = σ0 j) → lv_has ls 8 [(0, .ref (HB.size + v0)), (1, .ref (HB.size + v1)), (2, .int v2), (3, .int v3), (4, .int v4), (5, .int v5)] → k28 G4 G5 v0 v1 v2 v3 v4 v5 = some q → WX RM_X2_reachByNothing p l e s m args below meth c HB none (B_X2_reachByNothing HB D y n κ σ0 q) H locs (F0 m 28 ls [])) (σ : St) (H : Heap) (locs : List Loc) (ls : Array Slot) (G4 : Grp) (G5 : Grp) (v0 : Nat) (v1 : Nat) (v2 : Int32) (v3 : Int32) (v4 : Int32) (v5 : Int32) (v6 : Int32) (ha_v0 : v0 < n) (hk_v0 : κ v0 = 2) (ha_v1 : v1 < n) (hk_v1 : κ v1 = 7), IV HB D y n n κ σ locs H → σ 4 = G4 → σ 5 = G5 → (∀ j, j ∉ W_X2_reachByNothing → σ j = σ0 j) → lv_has ls 8 [(0, .ref (HB.size + v0)), (1, .ref (HB.size + v1)), (2, .int v2), (3, .int v3), (4, .int v4), (5, .int v5), (6, .int v6)] → f_X2_reachByNothing_b138 F k5 k28 G4 G5 v0 v1 v2 v3 v4 v5 v6 = some q → WX RM_X2_reachByNothing p l e s m args below meth c HB none (B_X2_reachByNothing HB D y n κ σ0 q) H locs (F0 m 138 ls []) := by
    intro k5 hk5 k28 hk28 σ H locs ls G4 G5 v0 v1 v2 v3 v4 v5 v6 ha_v0 hk_v0 ha_v1 hk_v1 hI e4 e5 fr hl h
    unfold f_X2_reachByNothing_b138 at h
    refine lv_iload_n hx hb dX2_reachByNothing_138 rfl (lv_at hl 3 rfl) ?_
    refine lv_if_ne (tgt := 154) hx hb dX2_reachByNothing_139 (by decide) (fun hc => ?_) (fun hc => ?_)
    · replace h := ite_f hc h
      exact b154 k5 hk5 k28 hk28 σ H locs ls G4 G5 v0 v1 v2 v4 v5 v6 ha_v0 hk_v0 ha_v1 hk_v1 hI e4 e5 fr (lv_sub hl [0, 1, 2, 4, 5, 6] rfl) h
    · replace h := ite_t hc h
      refine lv_iload hx hb dX2_reachByNothing_142 (lv_at hl 6 rfl) ?_
      refine lv_aload_n hx hb dX2_reachByNothing_144 rfl (lv_at hl 0 rfl) ?_
      refine gt_X2_32 hx hb hts hown hKK hI e5 ha_v0 hk_v0 dX2_reachByNothing_145 ?_
      rcases om_e h with ⟨eo, h⟩ | ⟨t_145, eo, h⟩
      · refine topn eo ?_
        refine lv_iload hx hb dX2_reachByNothing_148 (lv_at hl 5 rfl) ?_
        cases h
      · refine topr eo ?_
        obtain ⟨ha_145, hk_145⟩ := typF hI ha_v0 hk_v0 0 rfl e5 eo
        refine lv_iload hx hb dX2_reachByNothing_148 (lv_at hl 5 rfl) ?_
        obtain ⟨hin_, h⟩ := ck_e h
        refine la_19 hx hb hKK hI e5 ha_145 hk_145 hin_ dX2_reachByNothing_150 ?_
        refine lv_icmp_le (tgt := 158) hx hb dX2_reachByNothing_151 (by decide) (fun hc => ?_) (fun hc => ?_)
        · replace h := ite_t hc h
          refine lv_iconst (v := 0) hx hb dX2_reachByNothing_158 (by decide) ?_
          exact b159 k5 hk5 k28 hk28 σ H locs ls G4 G5 v0 v1 v2 v4 v5 v6 0 ha_v0 hk_v0 ha_v1 hk_v1 hI e4 e5 fr (lv_sub hl [0, 1, 2, 4, 5, 6] rfl) h
        · replace h := ite_f hc h
          exact b154 k5 hk5 k28 hk28 σ H locs ls G4 G5 v0 v1 v2 v4 v5 v6 ha_v0 hk_v0 ha_v1 hk_v1 hI e4 e5 fr (lv_sub hl [0, 1, 2, 4, 5, 6] rfl) h
  have b109 : ∀ (k5 : Grp → Grp → Nat → Nat → Int32 → Int32 → Int32 → Option (Grp)) (hk5 : ∀ (σ : St) (H : Heap) (locs : List Loc) (ls : Array Slot) (G4 : Grp) (G5 : Grp) (v0 : Nat) (v1 : Nat) (v2 : Int32) (v3 : Int32) (v4 : Int32) (ha_v0 : v0 < n) (hk_v0 : κ v0 = 2) (ha_v1 : v1 < n) (hk_v1 : κ v1 = 7), IV HB D y n n κ σ locs H → σ 4 = G4 → σ 5 = G5 → (∀ j, j ∉ W_X2_reachByNothing → σ j = σ0 j) → lv_has ls 8 [(0, .ref (HB.size + v0)), (1, .ref (HB.size + v1)), (2, .int v2), (3, .int v3), (4, .int v4)] → k5 G4 G5 v0 v1 v2 v3 v4 = some q → WX RM_X2_reachByNothing p l e s m args below meth c HB none (B_X2_reachByNothing HB D y n κ σ0 q) H locs (F0 m 5 ls [])) (k28 : Grp → Grp → Nat → Nat → Int32 → Int32 → Int32 → Int32 → Option (Grp)) (hk28 : ∀ (σ : St) (H : Heap) (locs : List Loc) (ls : Array Slot) (G4 : Grp) (G5 : Grp) (v0 : Nat) (v1 : Nat) (v2 : Int32) (v3 : Int32) (v4 : Int32) (v5 : Int32) (ha_v0 : v0 < n) (hk_v0 : κ v0 = 2) (ha_v1 : v1 < n) (hk_v1 : κ v1 = 7), IV HB D y n n κ σ locs H → σ 4 = G4 → σ 5 = G5 → (∀ j, j ∉ W_X2_reachByNothing → σ j = σ0 j) → lv_has ls 8 [(0, .ref (HB.size + v0)), (1, .ref (HB.size + v1)), (2, .int v2), (3, .int v3), (4, .int v4), (5, .int v5)] → k28 G4 G5 v0 v1 v2 v3 v4 v5 = some q → WX RM_X2_reachByNothing p l e s m args below meth c HB none (B_X2_reachByNothing HB D y n κ σ0 q) H locs (F0 m 28 ls [])) (σ : St) (H : Heap) (locs : List Loc) (ls : Array Slot) (G4 : Grp) (G5 : Grp) (v0 : Nat) (v1 : Nat) (v2 : Int32) (v3 : Int32) (v4 : Int32) (v5 : Int32) (v6 : Int32) (ha_v0 : v0 < n) (hk_v0 : κ v0 = 2) (ha_v1 : v1 < n) (hk_v1 : κ v1 = 7), IV HB D y n n κ σ locs H → σ 4 = G4 → σ 5 = G5 → (∀ j, j ∉ W_X2_reachByNothing → σ j = σ0 j) → lv_has ls 8 [(0, .ref (HB.size + v0)), (1, .ref (HB.size + v1)), (2, .int v2), (3, .int v3), (4, .int v4), (5, .int v5), (6, .int v6)] → f_X2_reachByNothing_b109 F k5 k28 G4 G5 v0 v1 v2 v3 v4 v5 v6 = some q → WX RM_X2_reachByNothing p l e s m args below meth c HB none (B_X2_reachByNothing HB D y n κ σ0 q) H locs (F0 m 109 ls []) := by
    intro k5 hk5 k28 hk28 σ H locs ls G4 G5 v0 v1 v2 v3 v4 v5 v6 ha_v0 hk_v0 ha_v1 hk_v1 hI e4 e5 fr hl h
    unfold f_X2_reachByNothing_b109 at h
    refine lv_aload_n hx hb dX2_reachByNothing_109 rfl (lv_at hl 1 rfl) ?_
    refine gf_X2_81 hx hb hts hown hKK hI ha_v1 hk_v1 dX2_reachByNothing_110 ?_
    refine lv_iload hx hb dX2_reachByNothing_113 (lv_at hl 5 rfl) ?_
    obtain ⟨hin_, h⟩ := ck_e h
    refine la_15 hx hb hKK hI e4 (ownF hI ha_v1 hk_v1 2 rfl).2.1 (ownF hI ha_v1 hk_v1 2 rfl).2.2 hin_ dX2_reachByNothing_115 ?_
    refine lv_if_lt (tgt := 138) hx hb dX2_reachByNothing_116 (by decide) (fun hc => ?_) (fun hc => ?_)
    · replace h := ite_t hc h
      exact b138 k5 hk5 k28 hk28 σ H locs ls G4 G5 v0 v1 v2 v3 v4 v5 v6 ha_v0 hk_v0 ha_v1 hk_v1 hI e4 e5 fr (lv_sub hl [0, 1, 2, 3, 4, 5, 6] rfl) h
    · replace h := ite_f hc h
      refine lv_iload hx hb dX2_reachByNothing_119 (lv_at hl 6 rfl) ?_
      refine lv_aload_n hx hb dX2_reachByNothing_121 rfl (lv_at hl 0 rfl) ?_
      refine gt_X2_32 hx hb hts hown hKK hI e5 ha_v0 hk_v0 dX2_reachByNothing_122 ?_
      rcases om_e h with ⟨eo, h⟩ | ⟨t_122, eo, h⟩
      · refine topn eo ?_
        refine lv_aload_n hx hb dX2_reachByNothing_125 rfl (lv_at hl 1 rfl) ?_
        refine gf_X2_81 hx hb hts hown hKK hI ha_v1 hk_v1 dX2_reachByNothing_126 ?_
        refine lv_iload hx hb dX2_reachByNothing_129 (lv_at hl 5 rfl) ?_
        obtain ⟨hin_, h⟩ := ck_e h
        refine la_15 hx hb hKK hI e4 (ownF hI ha_v1 hk_v1 2 rfl).2.1 (ownF hI ha_v1 hk_v1 2 rfl).2.2 hin_ dX2_reachByNothing_131 ?_
        cases h
      · refine topr eo ?_
        obtain ⟨ha_122, hk_122⟩ := typF hI ha_v0 hk_v0 0 rfl e5 eo
        refine lv_aload_n hx hb dX2_reachByNothing_125 rfl (lv_at hl 1 rfl) ?_
        refine gf_X2_81 hx hb hts hown hKK hI ha_v1 hk_v1 dX2_reachByNothing_126 ?_
        refine lv_iload hx hb dX2_reachByNothing_129 (lv_at hl 5 rfl) ?_
        obtain ⟨hin_, h⟩ := ck_e h
        refine la_15 hx hb hKK hI e4 (ownF hI ha_v1 hk_v1 2 rfl).2.1 (ownF hI ha_v1 hk_v1 2 rfl).2.2 hin_ dX2_reachByNothing_131 ?_
        obtain ⟨hin_, h⟩ := ck_e h
        refine la_19 hx hb hKK hI e5 ha_122 hk_122 hin_ dX2_reachByNothing_132 ?_
        refine va_mmax hx hb (by rw [hl.1]; exact hml) hown (hts _ lm_X2_78) (hts _ mw_max.1) (hts _ mw_ini) (hts _ mw_max.2) (Nat.le_of_ble_eq_true rfl) (Nat.le_of_ble_eq_true rfl) (Nat.zero_le _) (Nat.zero_le _) dX2_reachByNothing_133 ?_
        obtain ⟨v6_136, qq, h⟩ := bn_e h
        refine topi qq ?_
        refine lv_istore (lv' := [(6, .int v6_136), (0, .ref (HB.size + v0)), (1, .ref (HB.size + v1)), (2, .int v2), (3, .int v3), (4, .int v4), (5, .int v5)]) hx hb dX2_reachByNothing_136 hl (by decide) rfl (fun ls hl => ?_)
        exact b138 k5 hk5 k28 hk28 σ H locs ls G4 G5 v0 v1 v2 v3 v4 v5 v6_136 ha_v0 hk_v0 ha_v1 hk_v1 hI e4 e5 fr (lv_sub hl [1, 2, 3, 4, 5, 6, 0] rfl) h
  have b73 : ∀ (k5 : Grp → Grp → Nat → Nat → Int32 → Int32 → Int32 → Option (Grp)) (hk5 : ∀ (σ : St) (H : Heap) (locs : List Loc) (ls : Array Slot) (G4 : Grp) (G5 : Grp) (v0 : Nat) (v1 : Nat) (v2 : Int32) (v3 : Int32) (v4 : Int32) (ha_v0 : v0 < n) (hk_v0 : κ v0 = 2) (ha_v1 : v1 < n) (hk_v1 : κ v1 = 7), IV HB D y n n κ σ locs H → σ 4 = G4 → σ 5 = G5 → (∀ j, j ∉ W_X2_reachByNothing → σ j = σ0 j) → lv_has ls 8 [(0, .ref (HB.size + v0)), (1, .ref (HB.size + v1)), (2, .int v2), (3, .int v3), (4, .int v4)] → k5 G4 G5 v0 v1 v2 v3 v4 = some q → WX RM_X2_reachByNothing p l e s m args below meth c HB none (B_X2_reachByNothing HB D y n κ σ0 q) H locs (F0 m 5 ls [])) (k28 : Grp → Grp → Nat → Nat → Int32 → Int32 → Int32 → Int32 → Option (Grp)) (hk28 : ∀ (σ : St) (H : Heap) (locs : List Loc) (ls : Array Slot) (G4 : Grp) (G5 : Grp) (v0 : Nat) (v1 : Nat) (v2 : Int32) (v3 : Int32) (v4 : Int32) (v5 : Int32) (ha_v0 : v0 < n) (hk_v0 : κ v0 = 2) (ha_v1 : v1 < n) (hk_v1 : κ v1 = 7), IV HB D y n n κ σ locs H → σ 4 = G4 → σ 5 = G5 → (∀ j, j ∉ W_X2_reachByNothing → σ j = σ0 j) → lv_has ls 8 [(0, .ref (HB.size + v0)), (1, .ref (HB.size + v1)), (2, .int v2), (3, .int v3), (4, .int v4), (5, .int v5)] → k28 G4 G5 v0 v1 v2 v3 v4 v5 = some q → WX RM_X2_reachByNothing p l e s m args below meth c HB none (B_X2_reachByNothing HB D y n κ σ0 q) H locs (F0 m 28 ls [])) (σ : St) (H : Heap) (locs : List Loc) (ls : Array Slot) (G4 : Grp) (G5 : Grp) (v0 : Nat) (v1 : Nat) (v2 : Int32) (v3 : Int32) (v4 : Int32) (v5 : Int32) (v6 : Int32) (s0 : Int32) (ha_v0 : v0 < n) (hk_v0 : κ v0 = 2) (ha_v1 : v1 < n) (hk_v1 : κ v1 = 7), IV HB D y n n κ σ locs H → σ 4 = G4 → σ 5 = G5 → (∀ j, j ∉ W_X2_reachByNothing → σ j = σ0 j) → lv_has ls 8 [(0, .ref (HB.size + v0)), (1, .ref (HB.size + v1)), (2, .int v2), (3, .int v3), (4, .int v4), (5, .int v5), (6, .int v6)] → f_X2_reachByNothing_b73 F k5 k28 G4 G5 v0 v1 v2 v3 v4 v5 v6 s0 = some q → WX RM_X2_reachByNothing p l e s m args below meth c HB none (B_X2_reachByNothing HB D y n κ σ0 q) H locs (F0 m 73 ls [.int s0]) := by
    intro k5 hk5 k28 hk28 σ H locs ls G4 G5 v0 v1 v2 v3 v4 v5 v6 s0 ha_v0 hk_v0 ha_v1 hk_v1 hI e4 e5 fr hl h
    unfold f_X2_reachByNothing_b73 at h
    refine lv_istore (lv' := [(7, .int s0), (0, .ref (HB.size + v0)), (1, .ref (HB.size + v1)), (2, .int v2), (3, .int v3), (4, .int v4), (5, .int v5), (6, .int v6)]) hx hb dX2_reachByNothing_73 hl (by decide) rfl (fun ls hl => ?_)
    refine lv_iload hx hb dX2_reachByNothing_75 (lv_at hl 0 rfl) ?_
    refine lv_if_eq (tgt := 109) hx hb dX2_reachByNothing_77 (by decide) (fun hc => ?_) (fun hc => ?_)
    · replace h := ite_t hc h
      exact b109 k5 hk5 k28 hk28 σ H locs ls G4 G5 v0 v1 v2 v3 v4 v5 v6 ha_v0 hk_v0 ha_v1 hk_v1 hI e4 e5 fr (lv_sub hl [1, 2, 3, 4, 5, 6, 7] rfl) h
    · replace h := ite_f hc h
      refine lv_aload_n hx hb dX2_reachByNothing_80 rfl (lv_at hl 2 rfl) ?_
      refine gf_X2_71 hx hb hts hown hKK hI ha_v1 hk_v1 dX2_reachByNothing_81 ?_
      refine lv_iload hx hb dX2_reachByNothing_84 (lv_at hl 6 rfl) ?_
      obtain ⟨hin_, h⟩ := ck_e h
      refine la_15 hx hb hKK hI e4 (ownF hI ha_v1 hk_v1 1 rfl).2.1 (ownF hI ha_v1 hk_v1 1 rfl).2.2 hin_ dX2_reachByNothing_86 ?_
      refine lv_if_lt (tgt := 109) hx hb dX2_reachByNothing_87 (by decide) (fun hc => ?_) (fun hc => ?_)
      · replace h := ite_t hc h
        exact b109 k5 hk5 k28 hk28 σ H locs ls G4 G5 v0 v1 v2 v3 v4 v5 v6 ha_v0 hk_v0 ha_v1 hk_v1 hI e4 e5 fr (lv_sub hl [1, 2, 3, 4, 5, 6, 7] rfl) h
      · replace h := ite_f hc h
        refine lv_iload hx hb dX2_reachByNothing_90 (lv_at hl 7 rfl) ?_
        refine lv_aload_n hx hb dX2_reachByNothing_92 rfl (lv_at hl 1 rfl) ?_
        refine gt_X2_32 hx hb hts hown hKK hI e5 ha_v0 hk_v0 dX2_reachByNothing_93 ?_
        rcases om_e h with ⟨eo, h⟩ | ⟨t_93, eo, h⟩
        · refine topn eo ?_
          refine lv_aload_n hx hb dX2_reachByNothing_96 rfl (lv_at hl 2 rfl) ?_
          refine gf_X2_71 hx hb hts hown hKK hI ha_v1 hk_v1 dX2_reachByNothing_97 ?_
          refine lv_iload hx hb dX2_reachByNothing_100 (lv_at hl 6 rfl) ?_
          obtain ⟨hin_, h⟩ := ck_e h
          refine la_15 hx hb hKK hI e4 (ownF hI ha_v1 hk_v1 1 rfl).2.1 (ownF hI ha_v1 hk_v1 1 rfl).2.2 hin_ dX2_reachByNothing_102 ?_
          cases h
        · refine topr eo ?_
          obtain ⟨ha_93, hk_93⟩ := typF hI ha_v0 hk_v0 0 rfl e5 eo
          refine lv_aload_n hx hb dX2_reachByNothing_96 rfl (lv_at hl 2 rfl) ?_
          refine gf_X2_71 hx hb hts hown hKK hI ha_v1 hk_v1 dX2_reachByNothing_97 ?_
          refine lv_iload hx hb dX2_reachByNothing_100 (lv_at hl 6 rfl) ?_
          obtain ⟨hin_, h⟩ := ck_e h
          refine la_15 hx hb hKK hI e4 (ownF hI ha_v1 hk_v1 1 rfl).2.1 (ownF hI ha_v1 hk_v1 1 rfl).2.2 hin_ dX2_reachByNothing_102 ?_
          obtain ⟨hin_, h⟩ := ck_e h
          refine la_19 hx hb hKK hI e5 ha_93 hk_93 hin_ dX2_reachByNothing_103 ?_
          refine va_mmax hx hb (by rw [hl.1]; exact hml) hown (hts _ lm_X2_78) (hts _ mw_max.1) (hts _ mw_ini) (hts _ mw_max.2) (Nat.le_of_ble_eq_true rfl) (Nat.le_of_ble_eq_true rfl) (Nat.zero_le _) (Nat.zero_le _) dX2_reachByNothing_104 ?_
          obtain ⟨v6_107, qq, h⟩ := bn_e h
          refine topi qq ?_
          refine lv_istore (lv' := [(6, .int v6_107), (7, .int s0), (0, .ref (HB.size + v0)), (1, .ref (HB.size + v1)), (2, .int v2), (3, .int v3), (4, .int v4), (5, .int v5)]) hx hb dX2_reachByNothing_107 hl (by decide) rfl (fun ls hl => ?_)
          exact b109 k5 hk5 k28 hk28 σ H locs ls G4 G5 v0 v1 v2 v3 v4 v5 v6_107 ha_v0 hk_v0 ha_v1 hk_v1 hI e4 e5 fr (lv_sub hl [2, 3, 4, 5, 6, 7, 0] rfl) h
  have b68 : ∀ (k5 : Grp → Grp → Nat → Nat → Int32 → Int32 → Int32 → Option (Grp)) (hk5 : ∀ (σ : St) (H : Heap) (locs : List Loc) (ls : Array Slot) (G4 : Grp) (G5 : Grp) (v0 : Nat) (v1 : Nat) (v2 : Int32) (v3 : Int32) (v4 : Int32) (ha_v0 : v0 < n) (hk_v0 : κ v0 = 2) (ha_v1 : v1 < n) (hk_v1 : κ v1 = 7), IV HB D y n n κ σ locs H → σ 4 = G4 → σ 5 = G5 → (∀ j, j ∉ W_X2_reachByNothing → σ j = σ0 j) → lv_has ls 8 [(0, .ref (HB.size + v0)), (1, .ref (HB.size + v1)), (2, .int v2), (3, .int v3), (4, .int v4)] → k5 G4 G5 v0 v1 v2 v3 v4 = some q → WX RM_X2_reachByNothing p l e s m args below meth c HB none (B_X2_reachByNothing HB D y n κ σ0 q) H locs (F0 m 5 ls [])) (k28 : Grp → Grp → Nat → Nat → Int32 → Int32 → Int32 → Int32 → Option (Grp)) (hk28 : ∀ (σ : St) (H : Heap) (locs : List Loc) (ls : Array Slot) (G4 : Grp) (G5 : Grp) (v0 : Nat) (v1 : Nat) (v2 : Int32) (v3 : Int32) (v4 : Int32) (v5 : Int32) (ha_v0 : v0 < n) (hk_v0 : κ v0 = 2) (ha_v1 : v1 < n) (hk_v1 : κ v1 = 7), IV HB D y n n κ σ locs H → σ 4 = G4 → σ 5 = G5 → (∀ j, j ∉ W_X2_reachByNothing → σ j = σ0 j) → lv_has ls 8 [(0, .ref (HB.size + v0)), (1, .ref (HB.size + v1)), (2, .int v2), (3, .int v3), (4, .int v4), (5, .int v5)] → k28 G4 G5 v0 v1 v2 v3 v4 v5 = some q → WX RM_X2_reachByNothing p l e s m args below meth c HB none (B_X2_reachByNothing HB D y n κ σ0 q) H locs (F0 m 28 ls [])) (σ : St) (H : Heap) (locs : List Loc) (ls : Array Slot) (G4 : Grp) (G5 : Grp) (v0 : Nat) (v1 : Nat) (v2 : Int32) (v3 : Int32) (v4 : Int32) (v5 : Int32) (v6 : Int32) (ha_v0 : v0 < n) (hk_v0 : κ v0 = 2) (ha_v1 : v1 < n) (hk_v1 : κ v1 = 7), IV HB D y n n κ σ locs H → σ 4 = G4 → σ 5 = G5 → (∀ j, j ∉ W_X2_reachByNothing → σ j = σ0 j) → lv_has ls 8 [(0, .ref (HB.size + v0)), (1, .ref (HB.size + v1)), (2, .int v2), (3, .int v3), (4, .int v4), (5, .int v5), (6, .int v6)] → f_X2_reachByNothing_b68 F k5 k28 G4 G5 v0 v1 v2 v3 v4 v5 v6 = some q → WX RM_X2_reachByNothing p l e s m args below meth c HB none (B_X2_reachByNothing HB D y n κ σ0 q) H locs (F0 m 68 ls []) := by
    intro k5 hk5 k28 hk28 σ H locs ls G4 G5 v0 v1 v2 v3 v4 v5 v6 ha_v0 hk_v0 ha_v1 hk_v1 hI e4 e5 fr hl h
    unfold f_X2_reachByNothing_b68 at h
    refine lv_iconst (v := 1) hx hb dX2_reachByNothing_68 (by decide) ?_
    refine lv_goto (tgt := 73) hx hb dX2_reachByNothing_69 (by decide) ?_
    exact b73 k5 hk5 k28 hk28 σ H locs ls G4 G5 v0 v1 v2 v3 v4 v5 v6 1 ha_v0 hk_v0 ha_v1 hk_v1 hI e4 e5 fr (lv_sub hl [0, 1, 2, 3, 4, 5, 6] rfl) h
  have b72 : ∀ (k5 : Grp → Grp → Nat → Nat → Int32 → Int32 → Int32 → Option (Grp)) (hk5 : ∀ (σ : St) (H : Heap) (locs : List Loc) (ls : Array Slot) (G4 : Grp) (G5 : Grp) (v0 : Nat) (v1 : Nat) (v2 : Int32) (v3 : Int32) (v4 : Int32) (ha_v0 : v0 < n) (hk_v0 : κ v0 = 2) (ha_v1 : v1 < n) (hk_v1 : κ v1 = 7), IV HB D y n n κ σ locs H → σ 4 = G4 → σ 5 = G5 → (∀ j, j ∉ W_X2_reachByNothing → σ j = σ0 j) → lv_has ls 8 [(0, .ref (HB.size + v0)), (1, .ref (HB.size + v1)), (2, .int v2), (3, .int v3), (4, .int v4)] → k5 G4 G5 v0 v1 v2 v3 v4 = some q → WX RM_X2_reachByNothing p l e s m args below meth c HB none (B_X2_reachByNothing HB D y n κ σ0 q) H locs (F0 m 5 ls [])) (k28 : Grp → Grp → Nat → Nat → Int32 → Int32 → Int32 → Int32 → Option (Grp)) (hk28 : ∀ (σ : St) (H : Heap) (locs : List Loc) (ls : Array Slot) (G4 : Grp) (G5 : Grp) (v0 : Nat) (v1 : Nat) (v2 : Int32) (v3 : Int32) (v4 : Int32) (v5 : Int32) (ha_v0 : v0 < n) (hk_v0 : κ v0 = 2) (ha_v1 : v1 < n) (hk_v1 : κ v1 = 7), IV HB D y n n κ σ locs H → σ 4 = G4 → σ 5 = G5 → (∀ j, j ∉ W_X2_reachByNothing → σ j = σ0 j) → lv_has ls 8 [(0, .ref (HB.size + v0)), (1, .ref (HB.size + v1)), (2, .int v2), (3, .int v3), (4, .int v4), (5, .int v5)] → k28 G4 G5 v0 v1 v2 v3 v4 v5 = some q → WX RM_X2_reachByNothing p l e s m args below meth c HB none (B_X2_reachByNothing HB D y n κ σ0 q) H locs (F0 m 28 ls [])) (σ : St) (H : Heap) (locs : List Loc) (ls : Array Slot) (G4 : Grp) (G5 : Grp) (v0 : Nat) (v1 : Nat) (v2 : Int32) (v3 : Int32) (v4 : Int32) (v5 : Int32) (v6 : Int32) (ha_v0 : v0 < n) (hk_v0 : κ v0 = 2) (ha_v1 : v1 < n) (hk_v1 : κ v1 = 7), IV HB D y n n κ σ locs H → σ 4 = G4 → σ 5 = G5 → (∀ j, j ∉ W_X2_reachByNothing → σ j = σ0 j) → lv_has ls 8 [(0, .ref (HB.size + v0)), (1, .ref (HB.size + v1)), (2, .int v2), (3, .int v3), (4, .int v4), (5, .int v5), (6, .int v6)] → f_X2_reachByNothing_b72 F k5 k28 G4 G5 v0 v1 v2 v3 v4 v5 v6 = some q → WX RM_X2_reachByNothing p l e s m args below meth c HB none (B_X2_reachByNothing HB D y n κ σ0 q) H locs (F0 m 72 ls []) := by
    intro k5 hk5 k28 hk28 σ H locs ls G4 G5 v0 v1 v2 v3 v4 v5 v6 ha_v0 hk_v0 ha_v1 hk_v1 hI e4 e5 fr hl h
    unfold f_X2_reachByNothing_b72 at h
    refine lv_iconst (v := 0) hx hb dX2_reachByNothing_72 (by decide) ?_
    exact b73 k5 hk5 k28 hk28 σ H locs ls G4 G5 v0 v1 v2 v3 v4 v5 v6 0 ha_v0 hk_v0 ha_v1 hk_v1 hI e4 e5 fr (lv_sub hl [0, 1, 2, 3, 4, 5, 6] rfl) h
  have b28 : ∀ (k5 : Grp → Grp → Nat → Nat → Int32 → Int32 → Int32 → Option (Grp)) (hk5 : ∀ (σ : St) (H : Heap) (locs : List Loc) (ls : Array Slot) (G4 : Grp) (G5 : Grp) (v0 : Nat) (v1 : Nat) (v2 : Int32) (v3 : Int32) (v4 : Int32) (ha_v0 : v0 < n) (hk_v0 : κ v0 = 2) (ha_v1 : v1 < n) (hk_v1 : κ v1 = 7), IV HB D y n n κ σ locs H → σ 4 = G4 → σ 5 = G5 → (∀ j, j ∉ W_X2_reachByNothing → σ j = σ0 j) → lv_has ls 8 [(0, .ref (HB.size + v0)), (1, .ref (HB.size + v1)), (2, .int v2), (3, .int v3), (4, .int v4)] → k5 G4 G5 v0 v1 v2 v3 v4 = some q → WX RM_X2_reachByNothing p l e s m args below meth c HB none (B_X2_reachByNothing HB D y n κ σ0 q) H locs (F0 m 5 ls [])) (fu : Nat) (σ : St) (H : Heap) (locs : List Loc) (ls : Array Slot) (G4 : Grp) (G5 : Grp) (v0 : Nat) (v1 : Nat) (v2 : Int32) (v3 : Int32) (v4 : Int32) (v5 : Int32) (ha_v0 : v0 < n) (hk_v0 : κ v0 = 2) (ha_v1 : v1 < n) (hk_v1 : κ v1 = 7), IV HB D y n n κ σ locs H → σ 4 = G4 → σ 5 = G5 → (∀ j, j ∉ W_X2_reachByNothing → σ j = σ0 j) → lv_has ls 8 [(0, .ref (HB.size + v0)), (1, .ref (HB.size + v1)), (2, .int v2), (3, .int v3), (4, .int v4), (5, .int v5)] → f_X2_reachByNothing_l28 F k5 fu G4 G5 v0 v1 v2 v3 v4 v5 = some q → WX RM_X2_reachByNothing p l e s m args below meth c HB none (B_X2_reachByNothing HB D y n κ σ0 q) H locs (F0 m 28 ls []) := by
    intro k5 hk5 fu
    induction fu with
    | zero =>
      intro σ H locs ls G4 G5 v0 v1 v2 v3 v4 v5 ha_v0 hk_v0 ha_v1 hk_v1 hI e4 e5 fr hl h
      exact absurd h (by intro h; cases h)
    | succ fu hk28 =>
      intro σ H locs ls G4 G5 v0 v1 v2 v3 v4 v5 ha_v0 hk_v0 ha_v1 hk_v1 hI e4 e5 fr hl h
      have h : f_X2_reachByNothing_l28b F k5 (f_X2_reachByNothing_l28 F k5 fu) G4 G5 v0 v1 v2 v3 v4 v5 = some q := h
      generalize f_X2_reachByNothing_l28 F k5 fu = k28 at h hk28
      unfold f_X2_reachByNothing_l28b at h
      refine lv_iload hx hb dX2_reachByNothing_28 (lv_at hl 5 rfl) ?_
      refine lv_if_lt (tgt := 175) hx hb dX2_reachByNothing_30 (by decide) (fun hc => ?_) (fun hc => ?_)
      · replace h := ite_t hc h
        obtain ⟨v4_175, qq, h⟩ := bn_e h
        refine lv_iinc (v := v4_175) (lv' := [(4, .int v4_175), (0, .ref (HB.size + v0)), (1, .ref (HB.size + v1)), (2, .int v2), (3, .int v3), (5, .int v5)]) hx hb dX2_reachByNothing_175 hl (k := 4) rfl (by rw [qq]; rfl) (by decide) rfl (fun ls hl => ?_)
        refine lv_goto (tgt := 5) hx hb dX2_reachByNothing_178 (by decide) ?_
        exact hk5 σ H locs ls G4 G5 v0 v1 v2 v3 v4_175 ha_v0 hk_v0 ha_v1 hk_v1 hI e4 e5 fr (lv_sub hl [1, 2, 3, 4, 0] rfl) h
      · replace h := ite_f hc h
        refine lv_aload_n hx hb dX2_reachByNothing_33 rfl (lv_at hl 0 rfl) ?_
        refine gt_X2_32 hx hb hts hown hKK hI e5 ha_v0 hk_v0 dX2_reachByNothing_34 ?_
        rcases om_e h with ⟨eo, h⟩ | ⟨t_34, eo, h⟩
        · refine topn eo ?_
          refine lv_iload hx hb dX2_reachByNothing_37 (lv_at hl 5 rfl) ?_
          cases h
        · refine topr eo ?_
          obtain ⟨ha_34, hk_34⟩ := typF hI ha_v0 hk_v0 0 rfl e5 eo
          refine lv_iload hx hb dX2_reachByNothing_37 (lv_at hl 5 rfl) ?_
          obtain ⟨hin_, h⟩ := ck_e h
          refine la_19 hx hb hKK hI e5 ha_34 hk_34 hin_ dX2_reachByNothing_39 ?_
          obtain ⟨v6_40, qq, h⟩ := bn_e h
          refine topi qq ?_
          refine lv_istore (lv' := [(6, .int v6_40), (0, .ref (HB.size + v0)), (1, .ref (HB.size + v1)), (2, .int v2), (3, .int v3), (4, .int v4), (5, .int v5)]) hx hb dX2_reachByNothing_40 hl (by decide) rfl (fun ls hl => ?_)
          refine lv_aload_n hx hb dX2_reachByNothing_42 rfl (lv_at hl 2 rfl) ?_
          refine gf_X2_68 hx hb hts hown hKK hI ha_v1 hk_v1 dX2_reachByNothing_43 ?_
          refine lv_iload hx hb dX2_reachByNothing_46 (lv_at hl 6 rfl) ?_
          obtain ⟨hin_, h⟩ := ck_e h
          refine la_15 hx hb hKK hI e4 (ownF hI ha_v1 hk_v1 0 rfl).2.1 (ownF hI ha_v1 hk_v1 0 rfl).2.2 hin_ dX2_reachByNothing_48 ?_
          refine lv_if_eq (tgt := 68) hx hb dX2_reachByNothing_49 (by decide) (fun hc => ?_) (fun hc => ?_)
          · replace h := ite_t hc h
            exact b68 k5 hk5 k28 hk28 σ H locs ls G4 G5 v0 v1 v2 v3 v4 v5 v6_40 ha_v0 hk_v0 ha_v1 hk_v1 hI e4 e5 fr (lv_sub hl [1, 2, 3, 4, 5, 6, 0] rfl) h
          · replace h := ite_f hc h
            refine lv_aload_n hx hb dX2_reachByNothing_52 rfl (lv_at hl 2 rfl) ?_
            refine gf_X2_68 hx hb hts hown hKK hI ha_v1 hk_v1 dX2_reachByNothing_53 ?_
            refine lv_iload hx hb dX2_reachByNothing_56 (lv_at hl 6 rfl) ?_
            obtain ⟨hin_, h⟩ := ck_e h
            refine la_15 hx hb hKK hI e4 (ownF hI ha_v1 hk_v1 0 rfl).2.1 (ownF hI ha_v1 hk_v1 0 rfl).2.2 hin_ dX2_reachByNothing_58 ?_
            refine lv_bipush (v := 94) hx hb dX2_reachByNothing_59 (by decide) ?_
            refine lv_icmp_ne (tgt := 72) hx hb dX2_reachByNothing_61 (by decide) (fun hc => ?_) (fun hc => ?_)
            · replace h := ite_f hc h
              exact b72 k5 hk5 k28 hk28 σ H locs ls G4 G5 v0 v1 v2 v3 v4 v5 v6_40 ha_v0 hk_v0 ha_v1 hk_v1 hI e4 e5 fr (lv_sub hl [1, 2, 3, 4, 5, 6, 0] rfl) h
            · replace h := ite_t hc h
              refine lv_iload_n hx hb dX2_reachByNothing_64 rfl (lv_at hl 3 rfl) ?_
              refine lv_if_eq (tgt := 72) hx hb dX2_reachByNothing_65 (by decide) (fun hc => ?_) (fun hc => ?_)
              · replace h := ite_t hc h
                exact b72 k5 hk5 k28 hk28 σ H locs ls G4 G5 v0 v1 v2 v3 v4 v5 v6_40 ha_v0 hk_v0 ha_v1 hk_v1 hI e4 e5 fr (lv_sub hl [1, 2, 3, 4, 5, 6, 0] rfl) h
              · replace h := ite_f hc h
                exact b68 k5 hk5 k28 hk28 σ H locs ls G4 G5 v0 v1 v2 v3 v4 v5 v6_40 ha_v0 hk_v0 ha_v1 hk_v1 hI e4 e5 fr (lv_sub hl [1, 2, 3, 4, 5, 6, 0] rfl) h
  have b5 : ∀ (fu : Nat) (σ : St) (H : Heap) (locs : List Loc) (ls : Array Slot) (G4 : Grp) (G5 : Grp) (v0 : Nat) (v1 : Nat) (v2 : Int32) (v3 : Int32) (v4 : Int32) (ha_v0 : v0 < n) (hk_v0 : κ v0 = 2) (ha_v1 : v1 < n) (hk_v1 : κ v1 = 7), IV HB D y n n κ σ locs H → σ 4 = G4 → σ 5 = G5 → (∀ j, j ∉ W_X2_reachByNothing → σ j = σ0 j) → lv_has ls 8 [(0, .ref (HB.size + v0)), (1, .ref (HB.size + v1)), (2, .int v2), (3, .int v3), (4, .int v4)] → f_X2_reachByNothing_l5 F  fu G4 G5 v0 v1 v2 v3 v4 = some q → WX RM_X2_reachByNothing p l e s m args below meth c HB none (B_X2_reachByNothing HB D y n κ σ0 q) H locs (F0 m 5 ls []) := by
    intro  fu
    induction fu with
    | zero =>
      intro σ H locs ls G4 G5 v0 v1 v2 v3 v4 ha_v0 hk_v0 ha_v1 hk_v1 hI e4 e5 fr hl h
      exact absurd h (by intro h; cases h)
    | succ fu hk5 =>
      intro σ H locs ls G4 G5 v0 v1 v2 v3 v4 ha_v0 hk_v0 ha_v1 hk_v1 hI e4 e5 fr hl h
      have h : f_X2_reachByNothing_l5b F  (f_X2_reachByNothing_l5 F  fu) G4 G5 v0 v1 v2 v3 v4 = some q := h
      generalize f_X2_reachByNothing_l5 F  fu = k5 at h hk5
      unfold f_X2_reachByNothing_l5b at h
      refine lv_iload_n hx hb dX2_reachByNothing_5 rfl (lv_at hl 3 rfl) ?_
      refine lv_if_eq (tgt := 181) hx hb dX2_reachByNothing_6 (by decide) (fun hc => ?_) (fun hc => ?_)
      · replace h := ite_t hc h
        have hq := Option.some.inj h
        exact W.vret hx hb hr (fun t ht hW => qc_mk (rfl) (by rw [ht]; exact ⟨σ, hI.nil, e5.trans (congrArg (fun z => z) hq), fr⟩)) hI.2.2 dX2_reachByNothing_181 hlocks
      · replace h := ite_f hc h
        refine lv_iload hx hb dX2_reachByNothing_9 (lv_at hl 4 rfl) ?_
        refine lv_aload_n hx hb dX2_reachByNothing_11 rfl (lv_at hl 1 rfl) ?_
        refine gt_X2_64 hx hb hts hown hKK hI e4 ha_v1 hk_v1 dX2_reachByNothing_12 ?_
        refine lv_icmp_gt (tgt := 181) hx hb dX2_reachByNothing_15 (by decide) (fun hc => ?_) (fun hc => ?_)
        · replace h := ite_t hc h
          have hq := Option.some.inj h
          exact W.vret hx hb hr (fun t ht hW => qc_mk (rfl) (by rw [ht]; exact ⟨σ, hI.nil, e5.trans (congrArg (fun z => z) hq), fr⟩)) hI.2.2 dX2_reachByNothing_181 hlocks
        · replace h := ite_f hc h
          refine lv_iconst (v := 0) hx hb dX2_reachByNothing_18 (by decide) ?_
          refine lv_istore_n (lv' := [(3, .int 0), (0, .ref (HB.size + v0)), (1, .ref (HB.size + v1)), (2, .int v2), (4, .int v4)]) hx hb dX2_reachByNothing_19 rfl hl (by decide) rfl (fun ls hl => ?_)
          refine lv_aload_n hx hb dX2_reachByNothing_20 rfl (lv_at hl 2 rfl) ?_
          refine gt_X2_64 hx hb hts hown hKK hI e4 ha_v1 hk_v1 dX2_reachByNothing_21 ?_
          refine lv_iconst (v := 1) hx hb dX2_reachByNothing_24 (by decide) ?_
          refine lv_isub hx hb dX2_reachByNothing_25 ?_
          obtain ⟨v5_26, qq, h⟩ := bn_e h
          refine topi qq ?_
          refine lv_istore (lv' := [(5, .int v5_26), (3, .int 0), (0, .ref (HB.size + v0)), (1, .ref (HB.size + v1)), (2, .int v2), (4, .int v4)]) hx hb dX2_reachByNothing_26 hl (by decide) rfl (fun ls hl => ?_)
          exact b28 k5 hk5 F σ H locs ls G4 G5 v0 v1 v2 0 v4 v5_26 ha_v0 hk_v0 ha_v1 hk_v1 hI e4 e5 fr (lv_sub hl [2, 3, 4, 1, 5, 0] rfl) h
  obtain ⟨σ, hI, e4, e5, fr⟩ : ∃ σ : St, IV HB D y n n κ σ [] s.heap ∧ σ 4 = G4 ∧ σ 5 = G5 ∧ ∀ j, j ∉ W_X2_reachByNothing → σ j = σ0 j := ⟨σ0, hI, e4, e5, fun _ _ => rfl⟩
  show WX RM_X2_reachByNothing p l e s m args below meth c HB none (B_X2_reachByNothing HB D y n κ σ0 q) s.heap [] (F0 m 0 ls [])
  generalize s.heap = H at hI ⊢
  unfold f_X2_reachByNothing at h
  obtain ⟨locs, hlocs⟩ : ∃ x : List Loc, x = [] := ⟨_, rfl⟩
  rw [← hlocs] at hI ⊢
  refine lv_iconst (v := 1) hx hb dX2_reachByNothing_0 (by decide) ?_
  refine lv_istore_n (lv' := [(3, .int 1), (0, .ref (HB.size + v0)), (1, .ref (HB.size + v1)), (2, .int v2)]) hx hb dX2_reachByNothing_1 rfl hl (by decide) rfl (fun ls hl => ?_)
  refine lv_iconst (v := 0) hx hb dX2_reachByNothing_2 (by decide) ?_
  refine lv_istore (lv' := [(4, .int 0), (3, .int 1), (0, .ref (HB.size + v0)), (1, .ref (HB.size + v1)), (2, .int v2)]) hx hb dX2_reachByNothing_3 hl (by decide) rfl (fun ls hl => ?_)
  exact b5  F σ H locs ls G4 G5 v0 v1 v2 1 0 ha_v0 hk_v0 ha_v1 hk_v1 hI e4 e5 fr (lv_sub hl [2, 3, 4, 1, 0] rfl) h
noncomputable def f_X2_takes (F : Nat)  (v0 : Int32) (v1 : Int32) : Option (Int32) :=
  if v0 = 0 then some 0 else if v0 = 35 then ob (f_X11_isDigit F v1) (fun q_67 => cb q_67 (some q_67)) else if v0 = 46 then some 1 else if v0 = 64 then ob (f_X11_isSmallLetter F v1) (fun q_72 => cb q_72 (some q_72)) else if v0 = 94 then some 0 else if v0 = 95 then if v1 = 32 then some 1 else if v1 = 10 then some 1 else some 0 else if v0 = v1 then some 1 else some 0
def RM_X2_takes : Room := { frames := 1, cells := 0, slots := 0, locals := 20 }
abbrev B_X2_takes (HB : Heap) (D : va_G) (y : Nat → ClassId) (n : Nat) (κ : Nat → Nat) (σ : St) (q : Int32) : Heap → Prop := fun H => IV HB D y n n κ σ [] H
set_option maxRecDepth 100000 in
set_option maxHeartbeats 4000000 in
theorem c_X2_takes (l : Launch) (HB : Heap) (D : va_G) (y : Nat → ClassId) (F n : Nat) (κ : Nat → Nat) (σ : St) (hN : N0 ≤ n) (v0 : Int32)  (v1 : Int32)   (q : Int32) (h : f_X2_takes F v0 v1 = some q) : MT l HB D y yX2_takes cX2_takes 2 (some .boolean) RM_X2_takes [.int v0, .int v1] (IV HB D y n n κ σ []) (some (.int q)) (B_X2_takes HB D y n κ σ q) := by
  refine Met.ofW (cc := cX2_takes) (maxL := 2) (ret := (some .boolean)) (by decide) rfl ?_
  intro p e s m args below meth c s₁ BL hml hv
  obtain ⟨rfl, hI, hKK⟩ := hv
  have hx := BL.exec
  have hb := BL.bytes
  have hr := BL.returns
  have hts : ∀ w ∈ gtb, w.before _ s = true := fun w hw => atoms_spec BL.pre w (List.mem_cons_of_mem _ hw)
  have hml : c.maxLocals = 2 := hml
  have hown : s.vm.findClass RX2 = some m.cls := findClass_of_methodNamed BL.named
  have hlocks := BL.notSynchronized
  have hk0 := hI.1.2.2.2.2
  have hl := lv_entry ([.int v0, .int v1]) (n := 2) (Nat.le_of_ble_eq_true rfl)
  rw [lg_entry_eq]
  generalize (lg_sl ([.int v0, .int v1]) ++ List.replicate (2 - (lg_sl ([.int v0, .int v1])).length) Slot.unset).toArray = ls at hl ⊢
  have hl : lv_has ls 2 [(0, .int v0), (1, .int v1)] := hl
  generalize hargs : ([.int v0, .int v1] : List Value).toArray = args at *
  show WX RM_X2_takes p l e s m args below meth c HB (some (.int q)) (B_X2_takes HB D y n κ σ q) s.heap [] (F0 m 0 ls [])
  generalize s.heap = H at hI ⊢
  unfold f_X2_takes at h
  obtain ⟨locs, hlocs⟩ : ∃ x : List Loc, x = [] := ⟨_, rfl⟩
  rw [← hlocs] at hI ⊢
  refine lv_iload_n hx hb dX2_takes_0 rfl (lv_at hl 0 rfl) ?_
  by_cases hc0 : v0 = 0
  · replace h := ite_t hc0 h
    refine lv_lookup (off := 59) (tgt := 60) hx hb dX2_takes_1 (by decide) (by rw [hc0]; decide) (by decide) ?_
    refine lv_iconst (v := 0) hx hb dX2_takes_60 (by decide) ?_
    have hq := Option.some.inj h
    exact W.zret (v := 0) (ty := .boolean) hx hb hr rfl (fun t ht hW => qc_mk (congrArg (fun z => Outcome.returned (some (Value.int z))) hq) (by rw [ht]; exact hI.nil)) hI.2.2 dX2_takes_61 hlocks
  · replace h := ite_f hc0 h
    by_cases hc1 : v0 = 35
    · replace h := ite_t hc1 h
      refine lv_lookup (off := 65) (tgt := 66) hx hb dX2_takes_1 (by decide) (by rw [hc1]; decide) (by decide) ?_
      refine lv_iload_n hx hb dX2_takes_66 rfl (lv_at hl 1 rfl) ?_
      obtain ⟨q_67, hq_67, h⟩ := ob_e h
      refine r_callSN (As := [.int v1]) (rest := []) hx hb hml hts hown (c_X11_isDigit l HB D y F n κ σ hN v1  q_67 hq_67) cal_X11_isDigit st_X11_isDigit (hKK.2.1 _ (List.mem_of_getElem? (i := 12) rfl)) ⟨Nat.le_of_ble_eq_true rfl, Nat.le_of_ble_eq_true rfl⟩ hI.nil hKK rfl hl.1 hI.2.2 rfl (Nat.le_of_ble_eq_true rfl) dX2_takes_67 ⟨Nat.le_of_ble_eq_true rfl, Nat.le_of_ble_eq_true rfl⟩ rfl rfl rfl (fun H locs hB hlo => ?_)
      have hI := hB.re hlo
      obtain ⟨hz, h⟩ := cb_e h
      have hq := Option.some.inj h
      exact W.zret (v := q_67) (ty := .boolean) hx hb hr hz (fun t ht hW => qc_mk (congrArg (fun z => Outcome.returned (some (Value.int z))) hq) (by rw [ht]; exact hI.nil)) hI.2.2 dX2_takes_70 hlocks
    · replace h := ite_f hc1 h
      by_cases hc2 : v0 = 46
      · replace h := ite_t hc2 h
        refine lv_lookup (off := 63) (tgt := 64) hx hb dX2_takes_1 (by decide) (by rw [hc2]; decide) (by decide) ?_
        refine lv_iconst (v := 1) hx hb dX2_takes_64 (by decide) ?_
        have hq := Option.some.inj h
        exact W.zret (v := 1) (ty := .boolean) hx hb hr rfl (fun t ht hW => qc_mk (congrArg (fun z => Outcome.returned (some (Value.int z))) hq) (by rw [ht]; exact hI.nil)) hI.2.2 dX2_takes_65 hlocks
      · replace h := ite_f hc2 h
        by_cases hc3 : v0 = 64
        · replace h := ite_t hc3 h
          refine lv_lookup (off := 70) (tgt := 71) hx hb dX2_takes_1 (by decide) (by rw [hc3]; decide) (by decide) ?_
          refine lv_iload_n hx hb dX2_takes_71 rfl (lv_at hl 1 rfl) ?_
          obtain ⟨q_72, hq_72, h⟩ := ob_e h
          refine r_callSN (As := [.int v1]) (rest := []) hx hb hml hts hown (c_X11_isSmallLetter l HB D y F n κ σ hN v1  q_72 hq_72) cal_X11_isSmallLetter st_X11_isSmallLetter (hKK.2.1 _ (List.mem_of_getElem? (i := 13) rfl)) ⟨Nat.le_of_ble_eq_true rfl, Nat.le_of_ble_eq_true rfl⟩ hI.nil hKK rfl hl.1 hI.2.2 rfl (Nat.le_of_ble_eq_true rfl) dX2_takes_72 ⟨Nat.le_of_ble_eq_true rfl, Nat.le_of_ble_eq_true rfl⟩ rfl rfl rfl (fun H locs hB hlo => ?_)
          have hI := hB.re hlo
          obtain ⟨hz, h⟩ := cb_e h
          have hq := Option.some.inj h
          exact W.zret (v := q_72) (ty := .boolean) hx hb hr hz (fun t ht hW => qc_mk (congrArg (fun z => Outcome.returned (some (Value.int z))) hq) (by rw [ht]; exact hI.nil)) hI.2.2 dX2_takes_75 hlocks
        · replace h := ite_f hc3 h
          by_cases hc4 : v0 = 94
          · replace h := ite_t hc4 h
            refine lv_lookup (off := 61) (tgt := 62) hx hb dX2_takes_1 (by decide) (by rw [hc4]; decide) (by decide) ?_
            refine lv_iconst (v := 0) hx hb dX2_takes_62 (by decide) ?_
            have hq := Option.some.inj h
            exact W.zret (v := 0) (ty := .boolean) hx hb hr rfl (fun t ht hW => qc_mk (congrArg (fun z => Outcome.returned (some (Value.int z))) hq) (by rw [ht]; exact hI.nil)) hI.2.2 dX2_takes_63 hlocks
          · replace h := ite_f hc4 h
            by_cases hc5 : v0 = 95
            · replace h := ite_t hc5 h
              refine lv_lookup (off := 75) (tgt := 76) hx hb dX2_takes_1 (by decide) (by rw [hc5]; decide) (by decide) ?_
              refine lv_iload_n hx hb dX2_takes_76 rfl (lv_at hl 1 rfl) ?_
              refine lv_bipush (v := 32) hx hb dX2_takes_77 (by decide) ?_
              refine lv_icmp_eq (tgt := 88) hx hb dX2_takes_79 (by decide) (fun hc => ?_) (fun hc => ?_)
              · replace h := ite_t hc h
                refine lv_iconst (v := 1) hx hb dX2_takes_88 (by decide) ?_
                refine lv_goto (tgt := 93) hx hb dX2_takes_89 (by decide) ?_
                have hq := Option.some.inj h
                exact W.zret (v := 1) (ty := .boolean) hx hb hr rfl (fun t ht hW => qc_mk (congrArg (fun z => Outcome.returned (some (Value.int z))) hq) (by rw [ht]; exact hI.nil)) hI.2.2 dX2_takes_93 hlocks
              · replace h := ite_f hc h
                refine lv_iload_n hx hb dX2_takes_82 rfl (lv_at hl 1 rfl) ?_
                refine lv_bipush (v := 10) hx hb dX2_takes_83 (by decide) ?_
                refine lv_icmp_ne (tgt := 92) hx hb dX2_takes_85 (by decide) (fun hc => ?_) (fun hc => ?_)
                · replace h := ite_f hc h
                  refine lv_iconst (v := 0) hx hb dX2_takes_92 (by decide) ?_
                  have hq := Option.some.inj h
                  exact W.zret (v := 0) (ty := .boolean) hx hb hr rfl (fun t ht hW => qc_mk (congrArg (fun z => Outcome.returned (some (Value.int z))) hq) (by rw [ht]; exact hI.nil)) hI.2.2 dX2_takes_93 hlocks
                · replace h := ite_t hc h
                  refine lv_iconst (v := 1) hx hb dX2_takes_88 (by decide) ?_
                  refine lv_goto (tgt := 93) hx hb dX2_takes_89 (by decide) ?_
                  have hq := Option.some.inj h
                  exact W.zret (v := 1) (ty := .boolean) hx hb hr rfl (fun t ht hW => qc_mk (congrArg (fun z => Outcome.returned (some (Value.int z))) hq) (by rw [ht]; exact hI.nil)) hI.2.2 dX2_takes_93 hlocks
            · replace h := ite_f hc5 h
              refine lv_lookup (off := 93) (tgt := 94) hx hb dX2_takes_1 (by decide) (by rw [lv_osw hc0 (by decide)]; rw [lv_osw hc1 (by decide)]; rw [lv_osw hc2 (by decide)]; rw [lv_osw hc3 (by decide)]; rw [lv_osw hc4 (by decide)]; rw [lv_osw hc5 (by decide)]; rfl) (by decide) ?_
              refine lv_iload_n hx hb dX2_takes_94 rfl (lv_at hl 0 rfl) ?_
              refine lv_iload_n hx hb dX2_takes_95 rfl (lv_at hl 1 rfl) ?_
              refine lv_icmp_ne (tgt := 103) hx hb dX2_takes_96 (by decide) (fun hc => ?_) (fun hc => ?_)
              · replace h := ite_f hc h
                refine lv_iconst (v := 0) hx hb dX2_takes_103 (by decide) ?_
                have hq := Option.some.inj h
                exact W.zret (v := 0) (ty := .boolean) hx hb hr rfl (fun t ht hW => qc_mk (congrArg (fun z => Outcome.returned (some (Value.int z))) hq) (by rw [ht]; exact hI.nil)) hI.2.2 dX2_takes_104 hlocks
              · replace h := ite_t hc h
                refine lv_iconst (v := 1) hx hb dX2_takes_99 (by decide) ?_
                refine lv_goto (tgt := 104) hx hb dX2_takes_100 (by decide) ?_
                have hq := Option.some.inj h
                exact W.zret (v := 1) (ty := .boolean) hx hb hr rfl (fun t ht hW => qc_mk (congrArg (fun z => Outcome.returned (some (Value.int z))) hq) (by rw [ht]; exact hI.nil)) hI.2.2 dX2_takes_104 hlocks
noncomputable def f_X2_reachBySigns_b79 (F : Nat) (k3 : Grp → Grp → Grp → Nat → Nat → Nat → Int32 → Int32 → Int32 → Option (Grp)) (G3 : Grp) (G4 : Grp) (G5 : Grp) (v0 : Nat) (v1 : Nat) (v2 : Nat) (v3 : Int32) (v4 : Int32) (v5 : Int32) (v7 : Int32) : Option (Grp) :=
  om (G5.2.2 v0 7) (none) (fun t_80 => ck v5 408 (bn (gI G5 t_80 v5.toNatClampNeg v7) (fun G5_87 => bn (v5 + 1) (fun v5_88 => k3 G3 G4 G5_87 v0 v1 v2 v3 v4 v5_88))))
noncomputable def f_X2_reachBySigns_l3b (F : Nat)  (k3 : Grp → Grp → Grp → Nat → Nat → Nat → Int32 → Int32 → Int32 → Option (Grp)) (G3 : Grp) (G4 : Grp) (G5 : Grp) (v0 : Nat) (v1 : Nat) (v2 : Nat) (v3 : Int32) (v4 : Int32) (v5 : Int32) : Option (Grp) :=
  if (G4.1 v1 3) ≤ v5 then some G5 else ck v5 408 (bn ((G4.1 (v1 + 1) v5.toNatClampNeg)) (fun v6_19 => if v6_19 = 1 then f_X2_reachBySigns_b79 F k3 G3 G4 G5 v0 v1 v2 v3 v4 v5 v4 else if v3 ≤ v4 then f_X2_reachBySigns_b79 F k3 G3 G4 G5 v0 v1 v2 v3 v4 v5 (-1) else ck v5 408 (if (G4.1 (v1 + 2) v5.toNatClampNeg) < 0 then f_X2_reachBySigns_b79 F k3 G3 G4 G5 v0 v1 v2 v3 v4 v5 (-1) else ck v4 ((G3.2.2 v2 0).getD 0) (ob (f_X2_takes F v6_19 (G3.1 v2 v4.toNatClampNeg)) (fun q_59 => if q_59 = 0 then f_X2_reachBySigns_b79 F k3 G3 G4 G5 v0 v1 v2 v3 v4 v5 (-1) else om (G5.2.2 v0 8) (ck v5 408 (none)) (fun t_66 => ck v5 408 (ck (G4.1 (v1 + 2) v5.toNatClampNeg) 408 (bn ((G5.1 t_66 (G4.1 (v1 + 2) v5.toNatClampNeg).toNatClampNeg)) (fun v7_77 => f_X2_reachBySigns_b79 F k3 G3 G4 G5 v0 v1 v2 v3 v4 v5 v7_77)))))))))
noncomputable def f_X2_reachBySigns_l3 (F : Nat)  (fu : Nat) : Grp → Grp → Grp → Nat → Nat → Nat → Int32 → Int32 → Int32 → Option (Grp) := Nat.rec (motive := fun _ => Grp → Grp → Grp → Nat → Nat → Nat → Int32 → Int32 → Int32 → Option (Grp)) (fun _ _ _ _ _ _ _ _ _ => none) (fun _ ih => f_X2_reachBySigns_l3b F  ih) fu
noncomputable def f_X2_reachBySigns (F : Nat) (G3 : Grp) (G4 : Grp) (G5 : Grp) (v0 : Nat) (v1 : Nat) (v2 : Nat) (v3 : Int32) (v4 : Int32) : Option (Grp) :=
  f_X2_reachBySigns_l3 F  F G3 G4 G5 v0 v1 v2 v3 v4 0
def RM_X2_reachBySigns : Room := { frames := 2, cells := 0, slots := 0, locals := 41 }
abbrev W_X2_reachBySigns : List Nat := [5]
abbrev B_X2_reachBySigns (HB : Heap) (D : va_G) (y : Nat → ClassId) (n : Nat) (κ : Nat → Nat) (σ0 : St) (q : Grp) : Heap → Prop := fun H => ∃ σ : St, IV HB D y n n κ σ [] H ∧ σ 5 = q ∧ ∀ j, j ∉ W_X2_reachBySigns → σ j = σ0 j
set_option maxRecDepth 100000 in
set_option maxHeartbeats 4000000 in
theorem c_X2_reachBySigns (l : Launch) (HB : Heap) (D : va_G) (y : Nat → ClassId) (F n : Nat) (κ : Nat → Nat) (σ0 : St) (hN : N0 ≤ n) (v0 : Nat) (ha_v0 : v0 < n) (hk_v0 : κ v0 = 2) (v1 : Nat) (ha_v1 : v1 < n) (hk_v1 : κ v1 = 7) (v2 : Nat) (ha_v2 : v2 < n) (hk_v2 : κ v2 = 13) (v3 : Int32)  (v4 : Int32)  (G3 : Grp) (e3 : σ0 3 = G3) (G4 : Grp) (e4 : σ0 4 = G4) (G5 : Grp) (e5 : σ0 5 = G5) (q : Grp) (h : f_X2_reachBySigns F G3 G4 G5 v0 v1 v2 v3 v4 = some q) : MT l HB D y yX2_reachBySigns cX2_reachBySigns 8 none RM_X2_reachBySigns [.ref (HB.size + v0), .ref (HB.size + v1), .ref (HB.size + v2), .int v3, .int v4] (IV HB D y n n κ σ0 []) none (B_X2_reachBySigns HB D y n κ σ0 q) := by
  refine Met.ofW (cc := cX2_reachBySigns) (maxL := 8) (ret := none) (by decide) rfl ?_
  intro p e s m args below meth c s₁ BL hml hv
  obtain ⟨rfl, hI, hKK⟩ := hv
  have hx := BL.exec
  have hb := BL.bytes
  have hr := BL.returns
  have hts : ∀ w ∈ gtb, w.before _ s = true := fun w hw => atoms_spec BL.pre w (List.mem_cons_of_mem _ hw)
  have hml : c.maxLocals = 8 := hml
  have hown : s.vm.findClass RX2 = some m.cls := findClass_of_methodNamed BL.named
  have hlocks := BL.notSynchronized
  have hk0 := hI.1.2.2.2.2
  have hl := lv_entry ([.ref (HB.size + v0), .ref (HB.size + v1), .ref (HB.size + v2), .int v3, .int v4]) (n := 8) (Nat.le_of_ble_eq_true rfl)
  rw [lg_entry_eq]
  generalize (lg_sl ([.ref (HB.size + v0), .ref (HB.size + v1), .ref (HB.size + v2), .int v3, .int v4]) ++ List.replicate (8 - (lg_sl ([.ref (HB.size + v0), .ref (HB.size + v1), .ref (HB.size + v2), .int v3, .int v4])).length) Slot.unset).toArray = ls at hl ⊢
  have hl : lv_has ls 8 [(0, .ref (HB.size + v0)), (1, .ref (HB.size + v1)), (2, .ref (HB.size + v2)), (3, .int v3), (4, .int v4)] := hl
  generalize hargs : ([.ref (HB.size + v0), .ref (HB.size + v1), .ref (HB.size + v2), .int v3, .int v4] : List Value).toArray = args at *
  have b79 : ∀ (k3 : Grp → Grp → Grp → Nat → Nat → Nat → Int32 → Int32 → Int32 → Option (Grp)) (hk3 : ∀ (σ : St) (H : Heap) (locs : List Loc) (ls : Array Slot) (G3 : Grp) (G4 : Grp) (G5 : Grp) (v0 : Nat) (v1 : Nat) (v2 : Nat) (v3 : Int32) (v4 : Int32) (v5 : Int32) (ha_v0 : v0 < n) (hk_v0 : κ v0 = 2) (ha_v1 : v1 < n) (hk_v1 : κ v1 = 7) (ha_v2 : v2 < n) (hk_v2 : κ v2 = 13), IV HB D y n n κ σ locs H → σ 3 = G3 → σ 4 = G4 → σ 5 = G5 → (∀ j, j ∉ W_X2_reachBySigns → σ j = σ0 j) → lv_has ls 8 [(0, .ref (HB.size + v0)), (1, .ref (HB.size + v1)), (2, .ref (HB.size + v2)), (3, .int v3), (4, .int v4), (5, .int v5)] → k3 G3 G4 G5 v0 v1 v2 v3 v4 v5 = some q → WX RM_X2_reachBySigns p l e s m args below meth c HB none (B_X2_reachBySigns HB D y n κ σ0 q) H locs (F0 m 3 ls [])) (σ : St) (H : Heap) (locs : List Loc) (ls : Array Slot) (G3 : Grp) (G4 : Grp) (G5 : Grp) (v0 : Nat) (v1 : Nat) (v2 : Nat) (v3 : Int32) (v4 : Int32) (v5 : Int32) (v7 : Int32) (ha_v0 : v0 < n) (hk_v0 : κ v0 = 2) (ha_v1 : v1 < n) (hk_v1 : κ v1 = 7) (ha_v2 : v2 < n) (hk_v2 : κ v2 = 13), IV HB D y n n κ σ locs H → σ 3 = G3 → σ 4 = G4 → σ 5 = G5 → (∀ j, j ∉ W_X2_reachBySigns → σ j = σ0 j) → lv_has ls 8 [(0, .ref (HB.size + v0)), (1, .ref (HB.size + v1)), (2, .ref (HB.size + v2)), (3, .int v3), (4, .int v4), (5, .int v5), (7, .int v7)] → f_X2_reachBySigns_b79 F k3 G3 G4 G5 v0 v1 v2 v3 v4 v5 v7 = some q → WX RM_X2_reachBySigns p l e s m args below meth c HB none (B_X2_reachBySigns HB D y n κ σ0 q) H locs (F0 m 79 ls []) := by
    intro k3 hk3 σ H locs ls G3 G4 G5 v0 v1 v2 v3 v4 v5 v7 ha_v0 hk_v0 ha_v1 hk_v1 ha_v2 hk_v2 hI e3 e4 e5 fr hl h
    unfold f_X2_reachBySigns_b79 at h
    refine lv_aload_n hx hb dX2_reachBySigns_79 rfl (lv_at hl 0 rfl) ?_
    refine gt_X2_32 hx hb hts hown hKK hI e5 ha_v0 hk_v0 dX2_reachBySigns_80 ?_
    rcases om_e h with ⟨eo, h⟩ | ⟨t_80, eo, h⟩
    · refine topn eo ?_
      refine lv_iload hx hb dX2_reachBySigns_83 (lv_at hl 5 rfl) ?_
      refine lv_iload hx hb dX2_reachBySigns_85 (lv_at hl 6 rfl) ?_
      cases h
    · refine topr eo ?_
      obtain ⟨ha_80, hk_80⟩ := typF hI ha_v0 hk_v0 0 rfl e5 eo
      refine lv_iload hx hb dX2_reachBySigns_83 (lv_at hl 5 rfl) ?_
      refine lv_iload hx hb dX2_reachBySigns_85 (lv_at hl 6 rfl) ?_
      obtain ⟨hin_, h⟩ := ck_e h
      obtain ⟨G5_87, qq, h⟩ := bn_e h
      refine sa_19 hx hb hKK hI e5 ha_80 hk_80 hin_ dX2_reachBySigns_87 (fun σ H locs hI ew ho => ?_)
      have e5 := ew.trans qq.symm
      have e3 := (ho 3 (nn rfl)).trans e3
      have e4 := (ho 4 (nn rfl)).trans e4
      have fr := frs fr ho (by decide)
      obtain ⟨v5_88, qq, h⟩ := bn_e h
      refine lv_iinc (v := v5_88) (lv' := [(5, .int v5_88), (0, .ref (HB.size + v0)), (1, .ref (HB.size + v1)), (2, .ref (HB.size + v2)), (3, .int v3), (4, .int v4), (7, .int v7)]) hx hb dX2_reachBySigns_88 hl (k := 5) rfl (by rw [qq]; rfl) (by decide) rfl (fun ls hl => ?_)
      refine lv_goto (tgt := 3) hx hb dX2_reachBySigns_91 (by decide) ?_
      exact hk3 σ H locs ls G3 G4 G5_87 v0 v1 v2 v3 v4 v5_88 ha_v0 hk_v0 ha_v1 hk_v1 ha_v2 hk_v2 hI e3 e4 e5 fr (lv_sub hl [1, 2, 3, 4, 5, 0] rfl) h
  have b3 : ∀ (fu : Nat) (σ : St) (H : Heap) (locs : List Loc) (ls : Array Slot) (G3 : Grp) (G4 : Grp) (G5 : Grp) (v0 : Nat) (v1 : Nat) (v2 : Nat) (v3 : Int32) (v4 : Int32) (v5 : Int32) (ha_v0 : v0 < n) (hk_v0 : κ v0 = 2) (ha_v1 : v1 < n) (hk_v1 : κ v1 = 7) (ha_v2 : v2 < n) (hk_v2 : κ v2 = 13), IV HB D y n n κ σ locs H → σ 3 = G3 → σ 4 = G4 → σ 5 = G5 → (∀ j, j ∉ W_X2_reachBySigns → σ j = σ0 j) → lv_has ls 8 [(0, .ref (HB.size + v0)), (1, .ref (HB.size + v1)), (2, .ref (HB.size + v2)), (3, .int v3), (4, .int v4), (5, .int v5)] → f_X2_reachBySigns_l3 F  fu G3 G4 G5 v0 v1 v2 v3 v4 v5 = some q → WX RM_X2_reachBySigns p l e s m args below meth c HB none (B_X2_reachBySigns HB D y n κ σ0 q) H locs (F0 m 3 ls []) := by
    intro  fu
    induction fu with
    | zero =>
      intro σ H locs ls G3 G4 G5 v0 v1 v2 v3 v4 v5 ha_v0 hk_v0 ha_v1 hk_v1 ha_v2 hk_v2 hI e3 e4 e5 fr hl h
      exact absurd h (by intro h; cases h)
    | succ fu hk3 =>
      intro σ H locs ls G3 G4 G5 v0 v1 v2 v3 v4 v5 ha_v0 hk_v0 ha_v1 hk_v1 ha_v2 hk_v2 hI e3 e4 e5 fr hl h
      have h : f_X2_reachBySigns_l3b F  (f_X2_reachBySigns_l3 F  fu) G3 G4 G5 v0 v1 v2 v3 v4 v5 = some q := h
      generalize f_X2_reachBySigns_l3 F  fu = k3 at h hk3
      unfold f_X2_reachBySigns_l3b at h
      refine lv_iload hx hb dX2_reachBySigns_3 (lv_at hl 5 rfl) ?_
      refine lv_aload_n hx hb dX2_reachBySigns_5 rfl (lv_at hl 1 rfl) ?_
      refine gt_X2_64 hx hb hts hown hKK hI e4 ha_v1 hk_v1 dX2_reachBySigns_6 ?_
      refine lv_icmp_ge (tgt := 94) hx hb dX2_reachBySigns_9 (by decide) (fun hc => ?_) (fun hc => ?_)
      · replace h := ite_t hc h
        have hq := Option.some.inj h
        exact W.vret hx hb hr (fun t ht hW => qc_mk (rfl) (by rw [ht]; exact ⟨σ, hI.nil, e5.trans (congrArg (fun z => z) hq), fr⟩)) hI.2.2 dX2_reachBySigns_94 hlocks
      · replace h := ite_f hc h
        refine lv_aload_n hx hb dX2_reachBySigns_12 rfl (lv_at hl 1 rfl) ?_
        refine gf_X2_68 hx hb hts hown hKK hI ha_v1 hk_v1 dX2_reachBySigns_13 ?_
        refine lv_iload hx hb dX2_reachBySigns_16 (lv_at hl 5 rfl) ?_
        obtain ⟨hin_, h⟩ := ck_e h
        refine la_15 hx hb hKK hI e4 (ownF hI ha_v1 hk_v1 0 rfl).2.1 (ownF hI ha_v1 hk_v1 0 rfl).2.2 hin_ dX2_reachBySigns_18 ?_
        obtain ⟨v6_19, qq, h⟩ := bn_e h
        refine topi qq ?_
        refine lv_istore (lv' := [(6, .int v6_19), (0, .ref (HB.size + v0)), (1, .ref (HB.size + v1)), (2, .ref (HB.size + v2)), (3, .int v3), (4, .int v4), (5, .int v5)]) hx hb dX2_reachBySigns_19 hl (by decide) rfl (fun ls hl => ?_)
        refine lv_iconst (v := (-1)) hx hb dX2_reachBySigns_21 (by decide) ?_
        refine lv_istore (lv' := [(7, .int (-1)), (6, .int v6_19), (0, .ref (HB.size + v0)), (1, .ref (HB.size + v1)), (2, .ref (HB.size + v2)), (3, .int v3), (4, .int v4), (5, .int v5)]) hx hb dX2_reachBySigns_22 hl (by decide) rfl (fun ls hl => ?_)
        refine lv_iload hx hb dX2_reachBySigns_24 (lv_at hl 1 rfl) ?_
        refine lv_iconst (v := 1) hx hb dX2_reachBySigns_26 (by decide) ?_
        refine lv_icmp_ne (tgt := 37) hx hb dX2_reachBySigns_27 (by decide) (fun hc => ?_) (fun hc => ?_)
        · replace h := ite_f hc h
          refine lv_iload hx hb dX2_reachBySigns_37 (lv_at hl 6 rfl) ?_
          refine lv_iload_n hx hb dX2_reachBySigns_39 rfl (lv_at hl 5 rfl) ?_
          refine lv_icmp_ge (tgt := 79) hx hb dX2_reachBySigns_40 (by decide) (fun hc => ?_) (fun hc => ?_)
          · replace h := ite_t hc h
            exact b79 k3 hk3 σ H locs ls G3 G4 G5 v0 v1 v2 v3 v4 v5 (-1) ha_v0 hk_v0 ha_v1 hk_v1 ha_v2 hk_v2 hI e3 e4 e5 fr (lv_sub hl [2, 3, 4, 5, 6, 7, 0] rfl) h
          · replace h := ite_f hc h
            refine lv_aload_n hx hb dX2_reachBySigns_43 rfl (lv_at hl 3 rfl) ?_
            refine gf_X2_71 hx hb hts hown hKK hI ha_v1 hk_v1 dX2_reachBySigns_44 ?_
            refine lv_iload hx hb dX2_reachBySigns_47 (lv_at hl 7 rfl) ?_
            obtain ⟨hin_, h⟩ := ck_e h
            refine la_15 hx hb hKK hI e4 (ownF hI ha_v1 hk_v1 1 rfl).2.1 (ownF hI ha_v1 hk_v1 1 rfl).2.2 hin_ dX2_reachBySigns_49 ?_
            refine lv_if_lt (tgt := 79) hx hb dX2_reachBySigns_50 (by decide) (fun hc => ?_) (fun hc => ?_)
            · replace h := ite_t hc h
              exact b79 k3 hk3 σ H locs ls G3 G4 G5 v0 v1 v2 v3 v4 v5 (-1) ha_v0 hk_v0 ha_v1 hk_v1 ha_v2 hk_v2 hI e3 e4 e5 fr (lv_sub hl [2, 3, 4, 5, 6, 7, 0] rfl) h
            · replace h := ite_f hc h
              refine lv_iload hx hb dX2_reachBySigns_53 (lv_at hl 1 rfl) ?_
              refine lv_aload_n hx hb dX2_reachBySigns_55 rfl (lv_at hl 4 rfl) ?_
              refine lv_iload hx hb dX2_reachBySigns_56 (lv_at hl 6 rfl) ?_
              obtain ⟨hin_, h⟩ := ck_e h
              refine la_13 hx hb hKK hI e3 ha_v2 hk_v2 hin_ dX2_reachBySigns_58 ?_
              obtain ⟨q_59, hq_59, h⟩ := ob_e h
              refine r_callS (As := [.int v6_19, .int (G3.1 v2 v4.toNatClampNeg)]) (rest := []) hx hb hml hts hown (c_X2_takes l HB D y F n κ σ hN v6_19 (G3.1 v2 v4.toNatClampNeg)  q_59 hq_59) cal_X2_takes st_X2_takes lm_X2_74 ⟨Nat.le_of_ble_eq_true rfl, Nat.le_of_ble_eq_true rfl⟩ hI.nil hKK rfl hl.1 hI.2.2 rfl (Nat.le_of_ble_eq_true rfl) dX2_reachBySigns_59 ⟨Nat.le_of_ble_eq_true rfl, Nat.le_of_ble_eq_true rfl⟩ rfl rfl rfl (fun H locs hB hlo => ?_)
              have hI := hB.re hlo
              refine lv_if_eq (tgt := 79) hx hb dX2_reachBySigns_62 (by decide) (fun hc => ?_) (fun hc => ?_)
              · replace h := ite_t hc h
                exact b79 k3 hk3 σ H locs ls G3 G4 G5 v0 v1 v2 v3 v4 v5 (-1) ha_v0 hk_v0 ha_v1 hk_v1 ha_v2 hk_v2 hI e3 e4 e5 fr (lv_sub hl [2, 3, 4, 5, 6, 7, 0] rfl) h
              · replace h := ite_f hc h
                refine lv_aload_n hx hb dX2_reachBySigns_65 rfl (lv_at hl 2 rfl) ?_
                refine gt_X2_35 hx hb hts hown hKK hI e5 ha_v0 hk_v0 dX2_reachBySigns_66 ?_
                rcases om_e h with ⟨eo, h⟩ | ⟨t_66, eo, h⟩
                · refine topn eo ?_
                  refine lv_aload_n hx hb dX2_reachBySigns_69 rfl (lv_at hl 3 rfl) ?_
                  refine gf_X2_71 hx hb hts hown hKK hI ha_v1 hk_v1 dX2_reachBySigns_70 ?_
                  refine lv_iload hx hb dX2_reachBySigns_73 (lv_at hl 7 rfl) ?_
                  obtain ⟨hin_, h⟩ := ck_e h
                  refine la_15 hx hb hKK hI e4 (ownF hI ha_v1 hk_v1 1 rfl).2.1 (ownF hI ha_v1 hk_v1 1 rfl).2.2 hin_ dX2_reachBySigns_75 ?_
                  cases h
                · refine topr eo ?_
                  obtain ⟨ha_66, hk_66⟩ := typF hI ha_v0 hk_v0 1 rfl e5 eo
                  refine lv_aload_n hx hb dX2_reachBySigns_69 rfl (lv_at hl 3 rfl) ?_
                  refine gf_X2_71 hx hb hts hown hKK hI ha_v1 hk_v1 dX2_reachBySigns_70 ?_
                  refine lv_iload hx hb dX2_reachBySigns_73 (lv_at hl 7 rfl) ?_
                  obtain ⟨hin_, h⟩ := ck_e h
                  refine la_15 hx hb hKK hI e4 (ownF hI ha_v1 hk_v1 1 rfl).2.1 (ownF hI ha_v1 hk_v1 1 rfl).2.2 hin_ dX2_reachBySigns_75 ?_
                  obtain ⟨hin_, h⟩ := ck_e h
                  refine la_19 hx hb hKK hI e5 ha_66 hk_66 hin_ dX2_reachBySigns_76 ?_
                  obtain ⟨v7_77, qq, h⟩ := bn_e h
                  refine topi qq ?_
                  refine lv_istore (lv' := [(7, .int v7_77), (6, .int v6_19), (0, .ref (HB.size + v0)), (1, .ref (HB.size + v1)), (2, .ref (HB.size + v2)), (3, .int v3), (4, .int v4), (5, .int v5)]) hx hb dX2_reachBySigns_77 hl (by decide) rfl (fun ls hl => ?_)
                  exact b79 k3 hk3 σ H locs ls G3 G4 G5 v0 v1 v2 v3 v4 v5 v7_77 ha_v0 hk_v0 ha_v1 hk_v1 ha_v2 hk_v2 hI e3 e4 e5 fr (lv_sub hl [2, 3, 4, 5, 6, 7, 0] rfl) h
        · replace h := ite_t hc h
          refine lv_iload hx hb dX2_reachBySigns_30 (lv_at hl 6 rfl) ?_
          refine lv_istore (lv' := [(7, .int v4), (6, .int v6_19), (0, .ref (HB.size + v0)), (1, .ref (HB.size + v1)), (2, .ref (HB.size + v2)), (3, .int v3), (4, .int v4), (5, .int v5)]) hx hb dX2_reachBySigns_32 hl (by decide) rfl (fun ls hl => ?_)
          refine lv_goto (tgt := 79) hx hb dX2_reachBySigns_34 (by decide) ?_
          exact b79 k3 hk3 σ H locs ls G3 G4 G5 v0 v1 v2 v3 v4 v5 v4 ha_v0 hk_v0 ha_v1 hk_v1 ha_v2 hk_v2 hI e3 e4 e5 fr (lv_sub hl [2, 3, 4, 5, 6, 7, 0] rfl) h
  obtain ⟨σ, hI, e3, e4, e5, fr⟩ : ∃ σ : St, IV HB D y n n κ σ [] s.heap ∧ σ 3 = G3 ∧ σ 4 = G4 ∧ σ 5 = G5 ∧ ∀ j, j ∉ W_X2_reachBySigns → σ j = σ0 j := ⟨σ0, hI, e3, e4, e5, fun _ _ => rfl⟩
  show WX RM_X2_reachBySigns p l e s m args below meth c HB none (B_X2_reachBySigns HB D y n κ σ0 q) s.heap [] (F0 m 0 ls [])
  generalize s.heap = H at hI ⊢
  unfold f_X2_reachBySigns at h
  obtain ⟨locs, hlocs⟩ : ∃ x : List Loc, x = [] := ⟨_, rfl⟩
  rw [← hlocs] at hI ⊢
  refine lv_iconst (v := 0) hx hb dX2_reachBySigns_0 (by decide) ?_
  refine lv_istore (lv' := [(5, .int 0), (0, .ref (HB.size + v0)), (1, .ref (HB.size + v1)), (2, .ref (HB.size + v2)), (3, .int v3), (4, .int v4)]) hx hb dX2_reachBySigns_1 hl (by decide) rfl (fun ls hl => ?_)
  exact b3  F σ H locs ls G3 G4 G5 v0 v1 v2 v3 v4 0 ha_v0 hk_v0 ha_v1 hk_v1 ha_v2 hk_v2 hI e3 e4 e5 fr (lv_sub hl [1, 2, 3, 4, 5, 0] rfl) h
noncomputable def f_X2_search_l18b (F : Nat)  (k18 : Grp → Grp → Grp → Nat → Nat → Nat → Int32 → Int32 → Option (Grp)) (G3 : Grp) (G4 : Grp) (G5 : Grp) (v0 : Nat) (v1 : Nat) (v2 : Nat) (v4 : Int32) (v5 : Int32) : Option (Grp) :=
  if v5 < 0 then ob (f_X2_gather F G3 G5 v0 v2 v4) (fun q_90 => some q_90) else om (G5.2.2 v0 8) (om (G5.2.2 v0 7) (bn (gR G5 v0 8 none) (fun G5_34 => bn (gR G5_34 v0 7 none) (fun G5_40 => ob (f_X2_reachBySigns F G3 G4 G5_40 v0 v1 v2 v4 v5) (fun q_50 => ob (f_X2_isBorder F G3 v2 v4 v5) (fun q_60 => ob (f_X2_reachByNothing F G4 q_50 v0 v1 q_60) (fun q_63 => if v4 ≤ v5 then bn (v5 + (-1)) (fun v5_80 => k18 G3 G4 q_63 v0 v1 v2 v4 v5_80) else ob (f_X2_noteFirstRule F G4 q_63 v0 v1 v5) (fun q_77 => bn (v5 + (-1)) (fun v5_80 => k18 G3 G4 q_77 v0 v1 v2 v4 v5_80)))))))) (fun t_31 => bn (gR G5 v0 8 (some t_31)) (fun G5_34 => bn (gR G5_34 v0 7 none) (fun G5_40 => ob (f_X2_reachBySigns F G3 G4 G5_40 v0 v1 v2 v4 v5) (fun q_50 => ob (f_X2_isBorder F G3 v2 v4 v5) (fun q_60 => ob (f_X2_reachByNothing F G4 q_50 v0 v1 q_60) (fun q_63 => if v4 ≤ v5 then bn (v5 + (-1)) (fun v5_80 => k18 G3 G4 q_63 v0 v1 v2 v4 v5_80) else ob (f_X2_noteFirstRule F G4 q_63 v0 v1 v5) (fun q_77 => bn (v5 + (-1)) (fun v5_80 => k18 G3 G4 q_77 v0 v1 v2 v4 v5_80))))))))) (fun t_24 => om (G5.2.2 v0 7) (bn (gR G5 v0 8 none) (fun G5_34 => bn (gR G5_34 v0 7 (some t_24)) (fun G5_40 => ob (f_X2_reachBySigns F G3 G4 G5_40 v0 v1 v2 v4 v5) (fun q_50 => ob (f_X2_isBorder F G3 v2 v4 v5) (fun q_60 => ob (f_X2_reachByNothing F G4 q_50 v0 v1 q_60) (fun q_63 => if v4 ≤ v5 then bn (v5 + (-1)) (fun v5_80 => k18 G3 G4 q_63 v0 v1 v2 v4 v5_80) else ob (f_X2_noteFirstRule F G4 q_63 v0 v1 v5) (fun q_77 => bn (v5 + (-1)) (fun v5_80 => k18 G3 G4 q_77 v0 v1 v2 v4 v5_80)))))))) (fun t_31 => bn (gR G5 v0 8 (some t_31)) (fun G5_34 => bn (gR G5_34 v0 7 (some t_24)) (fun G5_40 => ob (f_X2_reachBySigns F G3 G4 G5_40 v0 v1 v2 v4 v5) (fun q_50 => ob (f_X2_isBorder F G3 v2 v4 v5) (fun q_60 => ob (f_X2_reachByNothing F G4 q_50 v0 v1 q_60) (fun q_63 => if v4 ≤ v5 then bn (v5 + (-1)) (fun v5_80 => k18 G3 G4 q_63 v0 v1 v2 v4 v5_80) else ob (f_X2_noteFirstRule F G4 q_63 v0 v1 v5) (fun q_77 => bn (v5 + (-1)) (fun v5_80 => k18 G3 G4 q_77 v0 v1 v2 v4 v5_80)))))))))
noncomputable def f_X2_search_l18 (F : Nat)  (fu : Nat) : Grp → Grp → Grp → Nat → Nat → Nat → Int32 → Int32 → Option (Grp) := Nat.rec (motive := fun _ => Grp → Grp → Grp → Nat → Nat → Nat → Int32 → Int32 → Option (Grp)) (fun _ _ _ _ _ _ _ _ => none) (fun _ ih => f_X2_search_l18b F  ih) fu
noncomputable def f_X2_search (F : Nat) (G3 : Grp) (G4 : Grp) (G5 : Grp) (v0 : Nat) (v1 : Nat) (v2 : Nat) (v3 : Int32) : Option (Grp) :=
  bn ((if (if 160 < (nI ((G3.2.2 v2 0).getD 0)) then 160 else (nI ((G3.2.2 v2 0).getD 0))) < v3 then (if 160 < (nI ((G3.2.2 v2 0).getD 0)) then 160 else (nI ((G3.2.2 v2 0).getD 0))) else v3)) (fun v4_12 => f_X2_search_l18 F  F G3 G4 G5 v0 v1 v2 v4_12 v4_12)
def RM_X2_search : Room := { frames := 3, cells := 0, slots := 0, locals := 68 }
abbrev W_X2_search : List Nat := [5]
abbrev B_X2_search (HB : Heap) (D : va_G) (y : Nat → ClassId) (n : Nat) (κ : Nat → Nat) (σ0 : St) (q : Grp) : Heap → Prop := fun H => ∃ σ : St, IV HB D y n n κ σ [] H ∧ σ 5 = q ∧ ∀ j, j ∉ W_X2_search → σ j = σ0 j
set_option maxRecDepth 100000 in
set_option maxHeartbeats 4000000 in
theorem c_X2_search (l : Launch) (HB : Heap) (D : va_G) (y : Nat → ClassId) (F n : Nat) (κ : Nat → Nat) (σ0 : St) (hN : N0 ≤ n) (v0 : Nat) (ha_v0 : v0 < n) (hk_v0 : κ v0 = 2) (v1 : Nat) (ha_v1 : v1 < n) (hk_v1 : κ v1 = 7) (v2 : Nat) (ha_v2 : v2 < n) (hk_v2 : κ v2 = 13) (v3 : Int32)  (G3 : Grp) (e3 : σ0 3 = G3) (G4 : Grp) (e4 : σ0 4 = G4) (G5 : Grp) (e5 : σ0 5 = G5) (q : Grp) (h : f_X2_search F G3 G4 G5 v0 v1 v2 v3 = some q) : MT l HB D y yX2_search cX2_search 7 none RM_X2_search [.ref (HB.size + v0), .ref (HB.size + v1), .ref (HB.size + v2), .int v3] (IV HB D y n n κ σ0 []) none (B_X2_search HB D y n κ σ0 q) := by
  refine Met.ofW (cc := cX2_search) (maxL := 7) (ret := none) (by decide) rfl ?_
  intro p e s m args below meth c s₁ BL hml hv
  obtain ⟨rfl, hI, hKK⟩ := hv
  have hx := BL.exec
  have hb := BL.bytes
  have hr := BL.returns
  have hts : ∀ w ∈ gtb, w.before _ s = true := fun w hw => atoms_spec BL.pre w (List.mem_cons_of_mem _ hw)
  have hml : c.maxLocals = 7 := hml
  have hown : s.vm.findClass RX2 = some m.cls := findClass_of_methodNamed BL.named
  have hlocks := BL.notSynchronized
  have hk0 := hI.1.2.2.2.2
  have hl := lv_entry ([.ref (HB.size + v0), .ref (HB.size + v1), .ref (HB.size + v2), .int v3]) (n := 7) (Nat.le_of_ble_eq_true rfl)
  rw [lg_entry_eq]
  generalize (lg_sl ([.ref (HB.size + v0), .ref (HB.size + v1), .ref (HB.size + v2), .int v3]) ++ List.replicate (7 - (lg_sl ([.ref (HB.size + v0), .ref (HB.size + v1), .ref (HB.size + v2), .int v3])).length) Slot.unset).toArray = ls at hl ⊢
  have hl : lv_has ls 7 [(0, .ref (HB.size + v0)), (1, .ref (HB.size + v1)), (2, .ref (HB.size + v2)), (3, .int v3)] := hl
  generalize hargs : ([.ref (HB.size + v0), .ref (HB.size + v1), .ref (HB.size + v2), .int v3] : List Value).toArray = args at *
  have b18 : ∀ (fu : Nat) (σ : St) (H : Heap) (locs : List Loc) (ls : Array Slot) (G3 : Grp) (G4 : Grp) (G5 : Grp) (v0 : Nat) (v1 : Nat) (v2 : Nat) (v4 : Int32) (v5 : Int32) (ha_v0 : v0 < n) (hk_v0 : κ v0 = 2) (ha_v1 : v1 < n) (hk_v1 : κ v1 = 7) (ha_v2 : v2 < n) (hk_v2 : κ v2 = 13), IV HB D y n n κ σ locs H → σ 3 = G3 → σ 4 = G4 → σ 5 = G5 → (∀ j, j ∉ W_X2_search → σ j = σ0 j) → lv_has ls 7 [(0, .ref (HB.size + v0)), (1, .ref (HB.size + v1)), (2, .ref (HB.size + v2)), (4, .int v4), (5, .int v5)] → f_X2_search_l18 F  fu G3 G4 G5 v0 v1 v2 v4 v5 = some q → WX RM_X2_search p l e s m args below meth c HB none (B_X2_search HB D y n κ σ0 q) H locs (F0 m 18 ls []) := by
    intro  fu
    induction fu with
    | zero =>
      intro σ H locs ls G3 G4 G5 v0 v1 v2 v4 v5 ha_v0 hk_v0 ha_v1 hk_v1 ha_v2 hk_v2 hI e3 e4 e5 fr hl h
      exact absurd h (by intro h; cases h)
    | succ fu hk18 =>
      intro σ H locs ls G3 G4 G5 v0 v1 v2 v4 v5 ha_v0 hk_v0 ha_v1 hk_v1 ha_v2 hk_v2 hI e3 e4 e5 fr hl h
      have h : f_X2_search_l18b F  (f_X2_search_l18 F  fu) G3 G4 G5 v0 v1 v2 v4 v5 = some q := h
      generalize f_X2_search_l18 F  fu = k18 at h hk18
      unfold f_X2_search_l18b at h
      refine lv_iload hx hb dX2_search_18 (lv_at hl 4 rfl) ?_
      refine lv_if_lt (tgt := 86) hx hb dX2_search_20 (by decide) (fun hc => ?_) (fun hc => ?_)
      · replace h := ite_t hc h
        refine lv_aload_n hx hb dX2_search_86 rfl (lv_at hl 0 rfl) ?_
        refine lv_aload_n hx hb dX2_search_87 rfl (lv_at hl 2 rfl) ?_
        refine lv_iload hx hb dX2_search_88 (lv_at hl 3 rfl) ?_
        obtain ⟨q_90, hq_90, h⟩ := ob_e h
        refine r_callV (As := [.ref (HB.size + v2), .int v4]) (rest := []) hx hb hml hts hown (c_X2_gather l HB D y F n κ σ hN v0 ha_v0 hk_v0 v2 ha_v2 hk_v2 v4 G3 e3 G5 e5 q_90 hq_90) cal_X2_gather im_X2_gather se_X2_gather lm_X2_60 ⟨Nat.le_of_ble_eq_true rfl, Nat.le_of_ble_eq_true rfl⟩ hI.nil hKK (r_recv hKK hI (hE2 HB.size y) rfl ha_v0 hk_v0) rfl hl.1 hI.2.2 rfl (Nat.le_of_ble_eq_true rfl) dX2_search_90 ⟨Nat.le_of_ble_eq_true rfl, Nat.le_of_ble_eq_true rfl⟩ rfl rfl rfl (fun H locs hB hlo => ?_)
        obtain ⟨σ, hB, en5, ho⟩ := hB
        have hI := hB.re hlo
        have e5 := en5
        have e3 := (ho 3 (ni rfl)).trans e3
        have e4 := (ho 4 (ni rfl)).trans e4
        have fr := frc fr ho (by decide)
        have hq := Option.some.inj h
        exact W.vret hx hb hr (fun t ht hW => qc_mk (rfl) (by rw [ht]; exact ⟨σ, hI.nil, e5.trans (congrArg (fun z => z) hq), fr⟩)) hI.2.2 dX2_search_93 hlocks
      · replace h := ite_f hc h
        refine lv_aload_n hx hb dX2_search_23 rfl (lv_at hl 0 rfl) ?_
        refine gt_X2_35 hx hb hts hown hKK hI e5 ha_v0 hk_v0 dX2_search_24 ?_
        rcases om_e h with ⟨eo, h⟩ | ⟨t_24, eo, h⟩
        · refine topn eo ?_
          refine lv_astoreN (lv' := [(6, .null), (0, .ref (HB.size + v0)), (1, .ref (HB.size + v1)), (2, .ref (HB.size + v2)), (4, .int v4), (5, .int v5)]) hx hb dX2_search_27 hl (by decide) rfl (fun ls hl => ?_)
          refine lv_aload_n hx hb dX2_search_29 rfl (lv_at hl 1 rfl) ?_
          refine lv_aload_n hx hb dX2_search_30 rfl (lv_at hl 1 rfl) ?_
          refine gt_X2_32 hx hb hts hown hKK hI e5 ha_v0 hk_v0 dX2_search_31 ?_
          rcases om_e h with ⟨eo, h⟩ | ⟨t_31, eo, h⟩
          · refine topn eo ?_
            obtain ⟨G5_34, qq, h⟩ := bn_e h
            refine pt_X2_35 hx hb hts hown hKK hI e5 ha_v0 hk_v0 (x := none) (fun hT => hT.setT (nn rfl) hk_v0 (K := 19) (by decide) (by decide) (fun t q => by cases q)) dX2_search_34 (fun σ H locs hI ew ho => ?_)
            have e5 := ew.trans qq.symm
            have e3 := (ho 3 (nn rfl)).trans e3
            have e4 := (ho 4 (nn rfl)).trans e4
            have fr := frs fr ho (by decide)
            refine lv_aload_n hx hb dX2_search_37 rfl (lv_at hl 1 rfl) ?_
            refine lv_aloadN hx hb dX2_search_38 (lv_at hl 0 rfl) ?_
            obtain ⟨G5_40, qq, h⟩ := bn_e h
            refine pt_X2_32 hx hb hts hown hKK hI e5 ha_v0 hk_v0 (x := none) (fun hT => hT.setT (nn rfl) hk_v0 (K := 19) (by decide) (by decide) (fun t q => by cases q)) dX2_search_40 (fun σ H locs hI ew ho => ?_)
            have e5 := ew.trans qq.symm
            have e3 := (ho 3 (nn rfl)).trans e3
            have e4 := (ho 4 (nn rfl)).trans e4
            have fr := frs fr ho (by decide)
            refine lv_aload_n hx hb dX2_search_43 rfl (lv_at hl 1 rfl) ?_
            refine lv_aload_n hx hb dX2_search_44 rfl (lv_at hl 2 rfl) ?_
            refine lv_aload_n hx hb dX2_search_45 rfl (lv_at hl 3 rfl) ?_
            refine lv_iload hx hb dX2_search_46 (lv_at hl 4 rfl) ?_
            refine lv_iload hx hb dX2_search_48 (lv_at hl 5 rfl) ?_
            obtain ⟨q_50, hq_50, h⟩ := ob_e h
            refine r_callV (As := [.ref (HB.size + v1), .ref (HB.size + v2), .int v4, .int v5]) (rest := []) hx hb hml hts hown (c_X2_reachBySigns l HB D y F n κ σ hN v0 ha_v0 hk_v0 v1 ha_v1 hk_v1 v2 ha_v2 hk_v2 v4 v5 G3 e3 G4 e4 G5_40 e5 q_50 hq_50) cal_X2_reachBySigns im_X2_reachBySigns se_X2_reachBySigns lm_X2_44 ⟨Nat.le_of_ble_eq_true rfl, Nat.le_of_ble_eq_true rfl⟩ hI.nil hKK (r_recv hKK hI (hE2 HB.size y) rfl ha_v0 hk_v0) rfl hl.1 hI.2.2 rfl (Nat.le_of_ble_eq_true rfl) dX2_search_50 ⟨Nat.le_of_ble_eq_true rfl, Nat.le_of_ble_eq_true rfl⟩ rfl rfl rfl (fun H locs hB hlo => ?_)
            obtain ⟨σ, hB, en5, ho⟩ := hB
            have hI := hB.re hlo
            have e5 := en5
            have e3 := (ho 3 (ni rfl)).trans e3
            have e4 := (ho 4 (ni rfl)).trans e4
            have fr := frc fr ho (by decide)
            refine lv_aload_n hx hb dX2_search_53 rfl (lv_at hl 1 rfl) ?_
            refine lv_aload_n hx hb dX2_search_54 rfl (lv_at hl 2 rfl) ?_
            refine lv_aload_n hx hb dX2_search_55 rfl (lv_at hl 3 rfl) ?_
            refine lv_iload hx hb dX2_search_56 (lv_at hl 4 rfl) ?_
            refine lv_iload hx hb dX2_search_58 (lv_at hl 5 rfl) ?_
            obtain ⟨q_60, hq_60, h⟩ := ob_e h
            refine r_callS (As := [.ref (HB.size + v2), .int v4, .int v5]) (rest := [.ref (HB.size + v1), .ref (HB.size + v0)]) hx hb hml hts hown (c_X2_isBorder l HB D y F n κ σ hN v2 ha_v2 hk_v2 v4 v5 G3 e3 q_60 hq_60) cal_X2_isBorder st_X2_isBorder lm_X2_48 ⟨Nat.le_of_ble_eq_true rfl, Nat.le_of_ble_eq_true rfl⟩ hI.nil hKK rfl hl.1 hI.2.2 rfl (Nat.le_of_ble_eq_true rfl) dX2_search_60 ⟨Nat.le_of_ble_eq_true rfl, Nat.le_of_ble_eq_true rfl⟩ rfl rfl rfl (fun H locs hB hlo => ?_)
            have hI := hB.re hlo
            obtain ⟨q_63, hq_63, h⟩ := ob_e h
            refine r_callV (As := [.ref (HB.size + v1), .int q_60]) (rest := []) hx hb hml hts hown (c_X2_reachByNothing l HB D y F n κ σ hN v0 ha_v0 hk_v0 v1 ha_v1 hk_v1 q_60 G4 e4 q_50 e5 q_63 hq_63) cal_X2_reachByNothing im_X2_reachByNothing se_X2_reachByNothing lm_X2_52 ⟨Nat.le_of_ble_eq_true rfl, Nat.le_of_ble_eq_true rfl⟩ hI.nil hKK (r_recv hKK hI (hE2 HB.size y) rfl ha_v0 hk_v0) rfl hl.1 hI.2.2 rfl (Nat.le_of_ble_eq_true rfl) dX2_search_63 ⟨Nat.le_of_ble_eq_true rfl, Nat.le_of_ble_eq_true rfl⟩ rfl rfl rfl (fun H locs hB hlo => ?_)
            obtain ⟨σ, hB, en5, ho⟩ := hB
            have hI := hB.re hlo
            have e5 := en5
            have e3 := (ho 3 (ni rfl)).trans e3
            have e4 := (ho 4 (ni rfl)).trans e4
            have fr := frc fr ho (by decide)
            refine lv_iload hx hb dX2_search_66 (lv_at hl 5 rfl) ?_
            refine lv_iload hx hb dX2_search_68 (lv_at hl 4 rfl) ?_
            refine lv_icmp_ge (tgt := 80) hx hb dX2_search_70 (by decide) (fun hc => ?_) (fun hc => ?_)
            · replace h := ite_t hc h
              obtain ⟨v5_80, qq, h⟩ := bn_e h
              refine lv_iinc (v := v5_80) (lv' := [(5, .int v5_80), (6, .null), (0, .ref (HB.size + v0)), (1, .ref (HB.size + v1)), (2, .ref (HB.size + v2)), (4, .int v4)]) hx hb dX2_search_80 hl (k := 5) rfl (by rw [qq]; rfl) (by decide) rfl (fun ls hl => ?_)
              refine lv_goto (tgt := 18) hx hb dX2_search_83 (by decide) ?_
              exact hk18 σ H locs ls G3 G4 q_63 v0 v1 v2 v4 v5_80 ha_v0 hk_v0 ha_v1 hk_v1 ha_v2 hk_v2 hI e3 e4 e5 fr (lv_sub hl [2, 3, 4, 5, 0] rfl) h
            · replace h := ite_f hc h
              refine lv_aload_n hx hb dX2_search_73 rfl (lv_at hl 1 rfl) ?_
              refine lv_aload_n hx hb dX2_search_74 rfl (lv_at hl 2 rfl) ?_
              refine lv_iload hx hb dX2_search_75 (lv_at hl 5 rfl) ?_
              obtain ⟨q_77, hq_77, h⟩ := ob_e h
              refine r_callV (As := [.ref (HB.size + v1), .int v5]) (rest := []) hx hb hml hts hown (c_X2_noteFirstRule l HB D y F n κ σ hN v0 ha_v0 hk_v0 v1 ha_v1 hk_v1 v5 G4 e4 q_63 e5 q_77 hq_77) cal_X2_noteFirstRule im_X2_noteFirstRule se_X2_noteFirstRule lm_X2_56 ⟨Nat.le_of_ble_eq_true rfl, Nat.le_of_ble_eq_true rfl⟩ hI.nil hKK (r_recv hKK hI (hE2 HB.size y) rfl ha_v0 hk_v0) rfl hl.1 hI.2.2 rfl (Nat.le_of_ble_eq_true rfl) dX2_search_77 ⟨Nat.le_of_ble_eq_true rfl, Nat.le_of_ble_eq_true rfl⟩ rfl rfl rfl (fun H locs hB hlo => ?_)
              obtain ⟨σ, hB, en5, ho⟩ := hB
              have hI := hB.re hlo
              have e5 := en5
              have e3 := (ho 3 (ni rfl)).trans e3
              have e4 := (ho 4 (ni rfl)).trans e4
              have fr := frc fr ho (by decide)
              obtain ⟨v5_80, qq, h⟩ := bn_e h
              refine lv_iinc (v := v5_80) (lv' := [(5, .int v5_80), (6, .null), (0, .ref (HB.size + v0)), (1, .ref (HB.size + v1)), (2, .ref (HB.size + v2)), (4, .int v4)]) hx hb dX2_search_80 hl (k := 5) rfl (by rw [qq]; rfl) (by decide) rfl (fun ls hl => ?_)
              refine lv_goto (tgt := 18) hx hb dX2_search_83 (by decide) ?_
              exact hk18 σ H locs ls G3 G4 q_77 v0 v1 v2 v4 v5_80 ha_v0 hk_v0 ha_v1 hk_v1 ha_v2 hk_v2 hI e3 e4 e5 fr (lv_sub hl [2, 3, 4, 5, 0] rfl) h
          · refine topr eo ?_
            obtain ⟨ha_31, hk_31⟩ := typF hI ha_v0 hk_v0 0 rfl e5 eo
            obtain ⟨G5_34, qq, h⟩ := bn_e h
            refine pt_X2_35 hx hb hts hown hKK hI e5 ha_v0 hk_v0 (x := (some t_31)) (fun hT => hT.setT (nn rfl) hk_v0 (K := 19) (by decide) (by decide) (fun t q => by cases q; exact ⟨ha_31, hk_31⟩)) dX2_search_34 (fun σ H locs hI ew ho => ?_)
            have e5 := ew.trans qq.symm
            have e3 := (ho 3 (nn rfl)).trans e3
            have e4 := (ho 4 (nn rfl)).trans e4
            have fr := frs fr ho (by decide)
            refine lv_aload_n hx hb dX2_search_37 rfl (lv_at hl 1 rfl) ?_
            refine lv_aloadN hx hb dX2_search_38 (lv_at hl 0 rfl) ?_
            obtain ⟨G5_40, qq, h⟩ := bn_e h
            refine pt_X2_32 hx hb hts hown hKK hI e5 ha_v0 hk_v0 (x := none) (fun hT => hT.setT (nn rfl) hk_v0 (K := 19) (by decide) (by decide) (fun t q => by cases q)) dX2_search_40 (fun σ H locs hI ew ho => ?_)
            have e5 := ew.trans qq.symm
            have e3 := (ho 3 (nn rfl)).trans e3
            have e4 := (ho 4 (nn rfl)).trans e4
            have fr := frs fr ho (by decide)
            refine lv_aload_n hx hb dX2_search_43 rfl (lv_at hl 1 rfl) ?_
            refine lv_aload_n hx hb dX2_search_44 rfl (lv_at hl 2 rfl) ?_
            refine lv_aload_n hx hb dX2_search_45 rfl (lv_at hl 3 rfl) ?_
            refine lv_iload hx hb dX2_search_46 (lv_at hl 4 rfl) ?_
            refine lv_iload hx hb dX2_search_48 (lv_at hl 5 rfl) ?_
            obtain ⟨q_50, hq_50, h⟩ := ob_e h
            refine r_callV (As := [.ref (HB.size + v1), .ref (HB.size + v2), .int v4, .int v5]) (rest := []) hx hb hml hts hown (c_X2_reachBySigns l HB D y F n κ σ hN v0 ha_v0 hk_v0 v1 ha_v1 hk_v1 v2 ha_v2 hk_v2 v4 v5 G3 e3 G4 e4 G5_40 e5 q_50 hq_50) cal_X2_reachBySigns im_X2_reachBySigns se_X2_reachBySigns lm_X2_44 ⟨Nat.le_of_ble_eq_true rfl, Nat.le_of_ble_eq_true rfl⟩ hI.nil hKK (r_recv hKK hI (hE2 HB.size y) rfl ha_v0 hk_v0) rfl hl.1 hI.2.2 rfl (Nat.le_of_ble_eq_true rfl) dX2_search_50 ⟨Nat.le_of_ble_eq_true rfl, Nat.le_of_ble_eq_true rfl⟩ rfl rfl rfl (fun H locs hB hlo => ?_)
            obtain ⟨σ, hB, en5, ho⟩ := hB
            have hI := hB.re hlo
            have e5 := en5
            have e3 := (ho 3 (ni rfl)).trans e3
            have e4 := (ho 4 (ni rfl)).trans e4
            have fr := frc fr ho (by decide)
            refine lv_aload_n hx hb dX2_search_53 rfl (lv_at hl 1 rfl) ?_
            refine lv_aload_n hx hb dX2_search_54 rfl (lv_at hl 2 rfl) ?_
            refine lv_aload_n hx hb dX2_search_55 rfl (lv_at hl 3 rfl) ?_
            refine lv_iload hx hb dX2_search_56 (lv_at hl 4 rfl) ?_
            refine lv_iload hx hb dX2_search_58 (lv_at hl 5 rfl) ?_
            obtain ⟨q_60, hq_60, h⟩ := ob_e h
            refine r_callS (As := [.ref (HB.size + v2), .int v4, .int v5]) (rest := [.ref (HB.size + v1), .ref (HB.size + v0)]) hx hb hml hts hown (c_X2_isBorder l HB D y F n κ σ hN v2 ha_v2 hk_v2 v4 v5 G3 e3 q_60 hq_60) cal_X2_isBorder st_X2_isBorder lm_X2_48 ⟨Nat.le_of_ble_eq_true rfl, Nat.le_of_ble_eq_true rfl⟩ hI.nil hKK rfl hl.1 hI.2.2 rfl (Nat.le_of_ble_eq_true rfl) dX2_search_60 ⟨Nat.le_of_ble_eq_true rfl, Nat.le_of_ble_eq_true rfl⟩ rfl rfl rfl (fun H locs hB hlo => ?_)
            have hI := hB.re hlo
            obtain ⟨q_63, hq_63, h⟩ := ob_e h
            refine r_callV (As := [.ref (HB.size + v1), .int q_60]) (rest := []) hx hb hml hts hown (c_X2_reachByNothing l HB D y F n κ σ hN v0 ha_v0 hk_v0 v1 ha_v1 hk_v1 q_60 G4 e4 q_50 e5 q_63 hq_63) cal_X2_reachByNothing im_X2_reachByNothing se_X2_reachByNothing lm_X2_52 ⟨Nat.le_of_ble_eq_true rfl, Nat.le_of_ble_eq_true rfl⟩ hI.nil hKK (r_recv hKK hI (hE2 HB.size y) rfl ha_v0 hk_v0) rfl hl.1 hI.2.2 rfl (Nat.le_of_ble_eq_true rfl) dX2_search_63 ⟨Nat.le_of_ble_eq_true rfl, Nat.le_of_ble_eq_true rfl⟩ rfl rfl rfl (fun H locs hB hlo => ?_)
            obtain ⟨σ, hB, en5, ho⟩ := hB
            have hI := hB.re hlo
            have e5 := en5
            have e3 := (ho 3 (ni rfl)).trans e3
            have e4 := (ho 4 (ni rfl)).trans e4
            have fr := frc fr ho (by decide)
            refine lv_iload hx hb dX2_search_66 (lv_at hl 5 rfl) ?_
            refine lv_iload hx hb dX2_search_68 (lv_at hl 4 rfl) ?_
            refine lv_icmp_ge (tgt := 80) hx hb dX2_search_70 (by decide) (fun hc => ?_) (fun hc => ?_)
            · replace h := ite_t hc h
              obtain ⟨v5_80, qq, h⟩ := bn_e h
              refine lv_iinc (v := v5_80) (lv' := [(5, .int v5_80), (6, .null), (0, .ref (HB.size + v0)), (1, .ref (HB.size + v1)), (2, .ref (HB.size + v2)), (4, .int v4)]) hx hb dX2_search_80 hl (k := 5) rfl (by rw [qq]; rfl) (by decide) rfl (fun ls hl => ?_)
              refine lv_goto (tgt := 18) hx hb dX2_search_83 (by decide) ?_
              exact hk18 σ H locs ls G3 G4 q_63 v0 v1 v2 v4 v5_80 ha_v0 hk_v0 ha_v1 hk_v1 ha_v2 hk_v2 hI e3 e4 e5 fr (lv_sub hl [2, 3, 4, 5, 0] rfl) h
            · replace h := ite_f hc h
              refine lv_aload_n hx hb dX2_search_73 rfl (lv_at hl 1 rfl) ?_
              refine lv_aload_n hx hb dX2_search_74 rfl (lv_at hl 2 rfl) ?_
              refine lv_iload hx hb dX2_search_75 (lv_at hl 5 rfl) ?_
              obtain ⟨q_77, hq_77, h⟩ := ob_e h
              refine r_callV (As := [.ref (HB.size + v1), .int v5]) (rest := []) hx hb hml hts hown (c_X2_noteFirstRule l HB D y F n κ σ hN v0 ha_v0 hk_v0 v1 ha_v1 hk_v1 v5 G4 e4 q_63 e5 q_77 hq_77) cal_X2_noteFirstRule im_X2_noteFirstRule se_X2_noteFirstRule lm_X2_56 ⟨Nat.le_of_ble_eq_true rfl, Nat.le_of_ble_eq_true rfl⟩ hI.nil hKK (r_recv hKK hI (hE2 HB.size y) rfl ha_v0 hk_v0) rfl hl.1 hI.2.2 rfl (Nat.le_of_ble_eq_true rfl) dX2_search_77 ⟨Nat.le_of_ble_eq_true rfl, Nat.le_of_ble_eq_true rfl⟩ rfl rfl rfl (fun H locs hB hlo => ?_)
              obtain ⟨σ, hB, en5, ho⟩ := hB
              have hI := hB.re hlo
              have e5 := en5
              have e3 := (ho 3 (ni rfl)).trans e3
              have e4 := (ho 4 (ni rfl)).trans e4
              have fr := frc fr ho (by decide)
              obtain ⟨v5_80, qq, h⟩ := bn_e h
              refine lv_iinc (v := v5_80) (lv' := [(5, .int v5_80), (6, .null), (0, .ref (HB.size + v0)), (1, .ref (HB.size + v1)), (2, .ref (HB.size + v2)), (4, .int v4)]) hx hb dX2_search_80 hl (k := 5) rfl (by rw [qq]; rfl) (by decide) rfl (fun ls hl => ?_)
              refine lv_goto (tgt := 18) hx hb dX2_search_83 (by decide) ?_
              exact hk18 σ H locs ls G3 G4 q_77 v0 v1 v2 v4 v5_80 ha_v0 hk_v0 ha_v1 hk_v1 ha_v2 hk_v2 hI e3 e4 e5 fr (lv_sub hl [2, 3, 4, 5, 0] rfl) h
        · refine topr eo ?_
          obtain ⟨ha_24, hk_24⟩ := typF hI ha_v0 hk_v0 1 rfl e5 eo
          refine lv_astore (lv' := [(6, .ref (HB.size + t_24)), (0, .ref (HB.size + v0)), (1, .ref (HB.size + v1)), (2, .ref (HB.size + v2)), (4, .int v4), (5, .int v5)]) hx hb dX2_search_27 hl (by decide) rfl (fun ls hl => ?_)
          refine lv_aload_n hx hb dX2_search_29 rfl (lv_at hl 1 rfl) ?_
          refine lv_aload_n hx hb dX2_search_30 rfl (lv_at hl 1 rfl) ?_
          refine gt_X2_32 hx hb hts hown hKK hI e5 ha_v0 hk_v0 dX2_search_31 ?_
          rcases om_e h with ⟨eo, h⟩ | ⟨t_31, eo, h⟩
          · refine topn eo ?_
            obtain ⟨G5_34, qq, h⟩ := bn_e h
            refine pt_X2_35 hx hb hts hown hKK hI e5 ha_v0 hk_v0 (x := none) (fun hT => hT.setT (nn rfl) hk_v0 (K := 19) (by decide) (by decide) (fun t q => by cases q)) dX2_search_34 (fun σ H locs hI ew ho => ?_)
            have e5 := ew.trans qq.symm
            have e3 := (ho 3 (nn rfl)).trans e3
            have e4 := (ho 4 (nn rfl)).trans e4
            have fr := frs fr ho (by decide)
            refine lv_aload_n hx hb dX2_search_37 rfl (lv_at hl 1 rfl) ?_
            refine lv_aload hx hb dX2_search_38 (lv_at hl 0 rfl) ?_
            obtain ⟨G5_40, qq, h⟩ := bn_e h
            refine pt_X2_32 hx hb hts hown hKK hI e5 ha_v0 hk_v0 (x := (some t_24)) (fun hT => hT.setT (nn rfl) hk_v0 (K := 19) (by decide) (by decide) (fun t q => by cases q; exact ⟨ha_24, hk_24⟩)) dX2_search_40 (fun σ H locs hI ew ho => ?_)
            have e5 := ew.trans qq.symm
            have e3 := (ho 3 (nn rfl)).trans e3
            have e4 := (ho 4 (nn rfl)).trans e4
            have fr := frs fr ho (by decide)
            refine lv_aload_n hx hb dX2_search_43 rfl (lv_at hl 1 rfl) ?_
            refine lv_aload_n hx hb dX2_search_44 rfl (lv_at hl 2 rfl) ?_
            refine lv_aload_n hx hb dX2_search_45 rfl (lv_at hl 3 rfl) ?_
            refine lv_iload hx hb dX2_search_46 (lv_at hl 4 rfl) ?_
            refine lv_iload hx hb dX2_search_48 (lv_at hl 5 rfl) ?_
            obtain ⟨q_50, hq_50, h⟩ := ob_e h
            refine r_callV (As := [.ref (HB.size + v1), .ref (HB.size + v2), .int v4, .int v5]) (rest := []) hx hb hml hts hown (c_X2_reachBySigns l HB D y F n κ σ hN v0 ha_v0 hk_v0 v1 ha_v1 hk_v1 v2 ha_v2 hk_v2 v4 v5 G3 e3 G4 e4 G5_40 e5 q_50 hq_50) cal_X2_reachBySigns im_X2_reachBySigns se_X2_reachBySigns lm_X2_44 ⟨Nat.le_of_ble_eq_true rfl, Nat.le_of_ble_eq_true rfl⟩ hI.nil hKK (r_recv hKK hI (hE2 HB.size y) rfl ha_v0 hk_v0) rfl hl.1 hI.2.2 rfl (Nat.le_of_ble_eq_true rfl) dX2_search_50 ⟨Nat.le_of_ble_eq_true rfl, Nat.le_of_ble_eq_true rfl⟩ rfl rfl rfl (fun H locs hB hlo => ?_)
            obtain ⟨σ, hB, en5, ho⟩ := hB
            have hI := hB.re hlo
            have e5 := en5
            have e3 := (ho 3 (ni rfl)).trans e3
            have e4 := (ho 4 (ni rfl)).trans e4
            have fr := frc fr ho (by decide)
            refine lv_aload_n hx hb dX2_search_53 rfl (lv_at hl 1 rfl) ?_
            refine lv_aload_n hx hb dX2_search_54 rfl (lv_at hl 2 rfl) ?_
            refine lv_aload_n hx hb dX2_search_55 rfl (lv_at hl 3 rfl) ?_
            refine lv_iload hx hb dX2_search_56 (lv_at hl 4 rfl) ?_
            refine lv_iload hx hb dX2_search_58 (lv_at hl 5 rfl) ?_
            obtain ⟨q_60, hq_60, h⟩ := ob_e h
            refine r_callS (As := [.ref (HB.size + v2), .int v4, .int v5]) (rest := [.ref (HB.size + v1), .ref (HB.size + v0)]) hx hb hml hts hown (c_X2_isBorder l HB D y F n κ σ hN v2 ha_v2 hk_v2 v4 v5 G3 e3 q_60 hq_60) cal_X2_isBorder st_X2_isBorder lm_X2_48 ⟨Nat.le_of_ble_eq_true rfl, Nat.le_of_ble_eq_true rfl⟩ hI.nil hKK rfl hl.1 hI.2.2 rfl (Nat.le_of_ble_eq_true rfl) dX2_search_60 ⟨Nat.le_of_ble_eq_true rfl, Nat.le_of_ble_eq_true rfl⟩ rfl rfl rfl (fun H locs hB hlo => ?_)
            have hI := hB.re hlo
            obtain ⟨q_63, hq_63, h⟩ := ob_e h
            refine r_callV (As := [.ref (HB.size + v1), .int q_60]) (rest := []) hx hb hml hts hown (c_X2_reachByNothing l HB D y F n κ σ hN v0 ha_v0 hk_v0 v1 ha_v1 hk_v1 q_60 G4 e4 q_50 e5 q_63 hq_63) cal_X2_reachByNothing im_X2_reachByNothing se_X2_reachByNothing lm_X2_52 ⟨Nat.le_of_ble_eq_true rfl, Nat.le_of_ble_eq_true rfl⟩ hI.nil hKK (r_recv hKK hI (hE2 HB.size y) rfl ha_v0 hk_v0) rfl hl.1 hI.2.2 rfl (Nat.le_of_ble_eq_true rfl) dX2_search_63 ⟨Nat.le_of_ble_eq_true rfl, Nat.le_of_ble_eq_true rfl⟩ rfl rfl rfl (fun H locs hB hlo => ?_)
            obtain ⟨σ, hB, en5, ho⟩ := hB
            have hI := hB.re hlo
            have e5 := en5
            have e3 := (ho 3 (ni rfl)).trans e3
            have e4 := (ho 4 (ni rfl)).trans e4
            have fr := frc fr ho (by decide)
            refine lv_iload hx hb dX2_search_66 (lv_at hl 5 rfl) ?_
            refine lv_iload hx hb dX2_search_68 (lv_at hl 4 rfl) ?_
            refine lv_icmp_ge (tgt := 80) hx hb dX2_search_70 (by decide) (fun hc => ?_) (fun hc => ?_)
            · replace h := ite_t hc h
              obtain ⟨v5_80, qq, h⟩ := bn_e h
              refine lv_iinc (v := v5_80) (lv' := [(5, .int v5_80), (6, .ref (HB.size + t_24)), (0, .ref (HB.size + v0)), (1, .ref (HB.size + v1)), (2, .ref (HB.size + v2)), (4, .int v4)]) hx hb dX2_search_80 hl (k := 5) rfl (by rw [qq]; rfl) (by decide) rfl (fun ls hl => ?_)
              refine lv_goto (tgt := 18) hx hb dX2_search_83 (by decide) ?_
              exact hk18 σ H locs ls G3 G4 q_63 v0 v1 v2 v4 v5_80 ha_v0 hk_v0 ha_v1 hk_v1 ha_v2 hk_v2 hI e3 e4 e5 fr (lv_sub hl [2, 3, 4, 5, 0] rfl) h
            · replace h := ite_f hc h
              refine lv_aload_n hx hb dX2_search_73 rfl (lv_at hl 1 rfl) ?_
              refine lv_aload_n hx hb dX2_search_74 rfl (lv_at hl 2 rfl) ?_
              refine lv_iload hx hb dX2_search_75 (lv_at hl 5 rfl) ?_
              obtain ⟨q_77, hq_77, h⟩ := ob_e h
              refine r_callV (As := [.ref (HB.size + v1), .int v5]) (rest := []) hx hb hml hts hown (c_X2_noteFirstRule l HB D y F n κ σ hN v0 ha_v0 hk_v0 v1 ha_v1 hk_v1 v5 G4 e4 q_63 e5 q_77 hq_77) cal_X2_noteFirstRule im_X2_noteFirstRule se_X2_noteFirstRule lm_X2_56 ⟨Nat.le_of_ble_eq_true rfl, Nat.le_of_ble_eq_true rfl⟩ hI.nil hKK (r_recv hKK hI (hE2 HB.size y) rfl ha_v0 hk_v0) rfl hl.1 hI.2.2 rfl (Nat.le_of_ble_eq_true rfl) dX2_search_77 ⟨Nat.le_of_ble_eq_true rfl, Nat.le_of_ble_eq_true rfl⟩ rfl rfl rfl (fun H locs hB hlo => ?_)
              obtain ⟨σ, hB, en5, ho⟩ := hB
              have hI := hB.re hlo
              have e5 := en5
              have e3 := (ho 3 (ni rfl)).trans e3
              have e4 := (ho 4 (ni rfl)).trans e4
              have fr := frc fr ho (by decide)
              obtain ⟨v5_80, qq, h⟩ := bn_e h
              refine lv_iinc (v := v5_80) (lv' := [(5, .int v5_80), (6, .ref (HB.size + t_24)), (0, .ref (HB.size + v0)), (1, .ref (HB.size + v1)), (2, .ref (HB.size + v2)), (4, .int v4)]) hx hb dX2_search_80 hl (k := 5) rfl (by rw [qq]; rfl) (by decide) rfl (fun ls hl => ?_)
              refine lv_goto (tgt := 18) hx hb dX2_search_83 (by decide) ?_
              exact hk18 σ H locs ls G3 G4 q_77 v0 v1 v2 v4 v5_80 ha_v0 hk_v0 ha_v1 hk_v1 ha_v2 hk_v2 hI e3 e4 e5 fr (lv_sub hl [2, 3, 4, 5, 0] rfl) h
          · refine topr eo ?_
            obtain ⟨ha_31, hk_31⟩ := typF hI ha_v0 hk_v0 0 rfl e5 eo
            obtain ⟨G5_34, qq, h⟩ := bn_e h
            refine pt_X2_35 hx hb hts hown hKK hI e5 ha_v0 hk_v0 (x := (some t_31)) (fun hT => hT.setT (nn rfl) hk_v0 (K := 19) (by decide) (by decide) (fun t q => by cases q; exact ⟨ha_31, hk_31⟩)) dX2_search_34 (fun σ H locs hI ew ho => ?_)
            have e5 := ew.trans qq.symm
            have e3 := (ho 3 (nn rfl)).trans e3
            have e4 := (ho 4 (nn rfl)).trans e4
            have fr := frs fr ho (by decide)
            refine lv_aload_n hx hb dX2_search_37 rfl (lv_at hl 1 rfl) ?_
            refine lv_aload hx hb dX2_search_38 (lv_at hl 0 rfl) ?_
            obtain ⟨G5_40, qq, h⟩ := bn_e h
            refine pt_X2_32 hx hb hts hown hKK hI e5 ha_v0 hk_v0 (x := (some t_24)) (fun hT => hT.setT (nn rfl) hk_v0 (K := 19) (by decide) (by decide) (fun t q => by cases q; exact ⟨ha_24, hk_24⟩)) dX2_search_40 (fun σ H locs hI ew ho => ?_)
            have e5 := ew.trans qq.symm
            have e3 := (ho 3 (nn rfl)).trans e3
            have e4 := (ho 4 (nn rfl)).trans e4
            have fr := frs fr ho (by decide)
            refine lv_aload_n hx hb dX2_search_43 rfl (lv_at hl 1 rfl) ?_
            refine lv_aload_n hx hb dX2_search_44 rfl (lv_at hl 2 rfl) ?_
            refine lv_aload_n hx hb dX2_search_45 rfl (lv_at hl 3 rfl) ?_
            refine lv_iload hx hb dX2_search_46 (lv_at hl 4 rfl) ?_
            refine lv_iload hx hb dX2_search_48 (lv_at hl 5 rfl) ?_
            obtain ⟨q_50, hq_50, h⟩ := ob_e h
            refine r_callV (As := [.ref (HB.size + v1), .ref (HB.size + v2), .int v4, .int v5]) (rest := []) hx hb hml hts hown (c_X2_reachBySigns l HB D y F n κ σ hN v0 ha_v0 hk_v0 v1 ha_v1 hk_v1 v2 ha_v2 hk_v2 v4 v5 G3 e3 G4 e4 G5_40 e5 q_50 hq_50) cal_X2_reachBySigns im_X2_reachBySigns se_X2_reachBySigns lm_X2_44 ⟨Nat.le_of_ble_eq_true rfl, Nat.le_of_ble_eq_true rfl⟩ hI.nil hKK (r_recv hKK hI (hE2 HB.size y) rfl ha_v0 hk_v0) rfl hl.1 hI.2.2 rfl (Nat.le_of_ble_eq_true rfl) dX2_search_50 ⟨Nat.le_of_ble_eq_true rfl, Nat.le_of_ble_eq_true rfl⟩ rfl rfl rfl (fun H locs hB hlo => ?_)
            obtain ⟨σ, hB, en5, ho⟩ := hB
            have hI := hB.re hlo
            have e5 := en5
            have e3 := (ho 3 (ni rfl)).trans e3
            have e4 := (ho 4 (ni rfl)).trans e4
            have fr := frc fr ho (by decide)
            refine lv_aload_n hx hb dX2_search_53 rfl (lv_at hl 1 rfl) ?_
            refine lv_aload_n hx hb dX2_search_54 rfl (lv_at hl 2 rfl) ?_
            refine lv_aload_n hx hb dX2_search_55 rfl (lv_at hl 3 rfl) ?_
            refine lv_iload hx hb dX2_search_56 (lv_at hl 4 rfl) ?_
            refine lv_iload hx hb dX2_search_58 (lv_at hl 5 rfl) ?_
            obtain ⟨q_60, hq_60, h⟩ := ob_e h
            refine r_callS (As := [.ref (HB.size + v2), .int v4, .int v5]) (rest := [.ref (HB.size + v1), .ref (HB.size + v0)]) hx hb hml hts hown (c_X2_isBorder l HB D y F n κ σ hN v2 ha_v2 hk_v2 v4 v5 G3 e3 q_60 hq_60) cal_X2_isBorder st_X2_isBorder lm_X2_48 ⟨Nat.le_of_ble_eq_true rfl, Nat.le_of_ble_eq_true rfl⟩ hI.nil hKK rfl hl.1 hI.2.2 rfl (Nat.le_of_ble_eq_true rfl) dX2_search_60 ⟨Nat.le_of_ble_eq_true rfl, Nat.le_of_ble_eq_true rfl⟩ rfl rfl rfl (fun H locs hB hlo => ?_)
            have hI := hB.re hlo
            obtain ⟨q_63, hq_63, h⟩ := ob_e h
            refine r_callV (As := [.ref (HB.size + v1), .int q_60]) (rest := []) hx hb hml hts hown (c_X2_reachByNothing l HB D y F n κ σ hN v0 ha_v0 hk_v0 v1 ha_v1 hk_v1 q_60 G4 e4 q_50 e5 q_63 hq_63) cal_X2_reachByNothing im_X2_reachByNothing se_X2_reachByNothing lm_X2_52 ⟨Nat.le_of_ble_eq_true rfl, Nat.le_of_ble_eq_true rfl⟩ hI.nil hKK (r_recv hKK hI (hE2 HB.size y) rfl ha_v0 hk_v0) rfl hl.1 hI.2.2 rfl (Nat.le_of_ble_eq_true rfl) dX2_search_63 ⟨Nat.le_of_ble_eq_true rfl, Nat.le_of_ble_eq_true rfl⟩ rfl rfl rfl (fun H locs hB hlo => ?_)
            obtain ⟨σ, hB, en5, ho⟩ := hB
            have hI := hB.re hlo
            have e5 := en5
            have e3 := (ho 3 (ni rfl)).trans e3
            have e4 := (ho 4 (ni rfl)).trans e4
            have fr := frc fr ho (by decide)
            refine lv_iload hx hb dX2_search_66 (lv_at hl 5 rfl) ?_
            refine lv_iload hx hb dX2_search_68 (lv_at hl 4 rfl) ?_
            refine lv_icmp_ge (tgt := 80) hx hb dX2_search_70 (by decide) (fun hc => ?_) (fun hc => ?_)
            · replace h := ite_t hc h
              obtain ⟨v5_80, qq, h⟩ := bn_e h
              refine lv_iinc (v := v5_80) (lv' := [(5, .int v5_80), (6, .ref (HB.size + t_24)), (0, .ref (HB.size + v0)), (1, .ref (HB.size + v1)), (2, .ref (HB.size + v2)), (4, .int v4)]) hx hb dX2_search_80 hl (k := 5) rfl (by rw [qq]; rfl) (by decide) rfl (fun ls hl => ?_)
              refine lv_goto (tgt := 18) hx hb dX2_search_83 (by decide) ?_
              exact hk18 σ H locs ls G3 G4 q_63 v0 v1 v2 v4 v5_80 ha_v0 hk_v0 ha_v1 hk_v1 ha_v2 hk_v2 hI e3 e4 e5 fr (lv_sub hl [2, 3, 4, 5, 0] rfl) h
            · replace h := ite_f hc h
              refine lv_aload_n hx hb dX2_search_73 rfl (lv_at hl 1 rfl) ?_
              refine lv_aload_n hx hb dX2_search_74 rfl (lv_at hl 2 rfl) ?_
              refine lv_iload hx hb dX2_search_75 (lv_at hl 5 rfl) ?_
              obtain ⟨q_77, hq_77, h⟩ := ob_e h
              refine r_callV (As := [.ref (HB.size + v1), .int v5]) (rest := []) hx hb hml hts hown (c_X2_noteFirstRule l HB D y F n κ σ hN v0 ha_v0 hk_v0 v1 ha_v1 hk_v1 v5 G4 e4 q_63 e5 q_77 hq_77) cal_X2_noteFirstRule im_X2_noteFirstRule se_X2_noteFirstRule lm_X2_56 ⟨Nat.le_of_ble_eq_true rfl, Nat.le_of_ble_eq_true rfl⟩ hI.nil hKK (r_recv hKK hI (hE2 HB.size y) rfl ha_v0 hk_v0) rfl hl.1 hI.2.2 rfl (Nat.le_of_ble_eq_true rfl) dX2_search_77 ⟨Nat.le_of_ble_eq_true rfl, Nat.le_of_ble_eq_true rfl⟩ rfl rfl rfl (fun H locs hB hlo => ?_)
              obtain ⟨σ, hB, en5, ho⟩ := hB
              have hI := hB.re hlo
              have e5 := en5
              have e3 := (ho 3 (ni rfl)).trans e3
              have e4 := (ho 4 (ni rfl)).trans e4
              have fr := frc fr ho (by decide)
              obtain ⟨v5_80, qq, h⟩ := bn_e h
              refine lv_iinc (v := v5_80) (lv' := [(5, .int v5_80), (6, .ref (HB.size + t_24)), (0, .ref (HB.size + v0)), (1, .ref (HB.size + v1)), (2, .ref (HB.size + v2)), (4, .int v4)]) hx hb dX2_search_80 hl (k := 5) rfl (by rw [qq]; rfl) (by decide) rfl (fun ls hl => ?_)
              refine lv_goto (tgt := 18) hx hb dX2_search_83 (by decide) ?_
              exact hk18 σ H locs ls G3 G4 q_77 v0 v1 v2 v4 v5_80 ha_v0 hk_v0 ha_v1 hk_v1 ha_v2 hk_v2 hI e3 e4 e5 fr (lv_sub hl [2, 3, 4, 5, 0] rfl) h
  obtain ⟨σ, hI, e3, e4, e5, fr⟩ : ∃ σ : St, IV HB D y n n κ σ [] s.heap ∧ σ 3 = G3 ∧ σ 4 = G4 ∧ σ 5 = G5 ∧ ∀ j, j ∉ W_X2_search → σ j = σ0 j := ⟨σ0, hI, e3, e4, e5, fun _ _ => rfl⟩
  show WX RM_X2_search p l e s m args below meth c HB none (B_X2_search HB D y n κ σ0 q) s.heap [] (F0 m 0 ls [])
  generalize s.heap = H at hI ⊢
  unfold f_X2_search at h
  obtain ⟨locs, hlocs⟩ : ∃ x : List Loc, x = [] := ⟨_, rfl⟩
  rw [← hlocs] at hI ⊢
  refine lv_iload_n hx hb dX2_search_0 rfl (lv_at hl 3 rfl) ?_
  refine lv_aload_n hx hb dX2_search_1 rfl (lv_at hl 2 rfl) ?_
  refine r_alen13 hx hb hKK hI e3 ha_v2 hk_v2 dX2_search_2 ?_
  refine lv_sipush (v := 160) hx hb dX2_search_3 (by decide) ?_
  refine va_mmin hx hb (by rw [hl.1]; exact hml) hown (hts _ lm_X2_38) (hts _ mw_min.1) (hts _ mw_ini) (hts _ mw_min.2) (Nat.le_of_ble_eq_true rfl) (Nat.le_of_ble_eq_true rfl) (Nat.zero_le _) (Nat.zero_le _) dX2_search_6 ?_
  refine va_mmin hx hb (by rw [hl.1]; exact hml) hown (hts _ lm_X2_38) (hts _ mw_min.1) (hts _ mw_ini) (hts _ mw_min.2) (Nat.le_of_ble_eq_true rfl) (Nat.le_of_ble_eq_true rfl) (Nat.zero_le _) (Nat.zero_le _) dX2_search_9 ?_
  obtain ⟨v4_12, qq, h⟩ := bn_e h
  refine topi qq ?_
  refine lv_istore (lv' := [(4, .int v4_12), (0, .ref (HB.size + v0)), (1, .ref (HB.size + v1)), (2, .ref (HB.size + v2)), (3, .int v3)]) hx hb dX2_search_12 hl (by decide) rfl (fun ls hl => ?_)
  refine lv_iload hx hb dX2_search_14 (lv_at hl 0 rfl) ?_
  refine lv_istore (lv' := [(5, .int v4_12), (4, .int v4_12), (0, .ref (HB.size + v0)), (1, .ref (HB.size + v1)), (2, .ref (HB.size + v2)), (3, .int v3)]) hx hb dX2_search_16 hl (by decide) rfl (fun ls hl => ?_)
  exact b18  F σ H locs ls G3 G4 G5 v0 v1 v2 v4_12 v4_12 ha_v0 hk_v0 ha_v1 hk_v1 ha_v2 hk_v2 hI e3 e4 e5 fr (lv_sub hl [2, 3, 4, 1, 0] rfl) h
noncomputable def f_X2_hasAny_l2b (F : Nat)  (k2 : Grp → Grp → Nat → Nat → Int32 → Int32 → Option (Int32)) (G4 : Grp) (G5 : Grp) (v0 : Nat) (v1 : Nat) (v2 : Int32) (v3 : Int32) : Option (Int32) :=
  if (G5.1 v0 0) ≤ v3 then some 0 else ck v3 160 (ck (G5.1 (v0 + 1) v3.toNatClampNeg) 12 (if (G4.1 (v1 + 5) (G5.1 (v0 + 1) v3.toNatClampNeg).toNatClampNeg) = v2 then some 1 else bn (v3 + 1) (fun v3_27 => k2 G4 G5 v0 v1 v2 v3_27)))
noncomputable def f_X2_hasAny_l2 (F : Nat)  (fu : Nat) : Grp → Grp → Nat → Nat → Int32 → Int32 → Option (Int32) := Nat.rec (motive := fun _ => Grp → Grp → Nat → Nat → Int32 → Int32 → Option (Int32)) (fun _ _ _ _ _ _ => none) (fun _ ih => f_X2_hasAny_l2b F  ih) fu
noncomputable def f_X2_hasAny (F : Nat) (G4 : Grp) (G5 : Grp) (v0 : Nat) (v1 : Nat) (v2 : Int32) : Option (Int32) :=
  f_X2_hasAny_l2 F  F G4 G5 v0 v1 v2 0
def RM_X2_hasAny : Room := { frames := 0, cells := 0, slots := 0, locals := 0 }
abbrev B_X2_hasAny (HB : Heap) (D : va_G) (y : Nat → ClassId) (n : Nat) (κ : Nat → Nat) (σ : St) (q : Int32) : Heap → Prop := fun H => IV HB D y n n κ σ [] H
set_option maxRecDepth 100000 in
set_option maxHeartbeats 4000000 in
theorem c_X2_hasAny (l : Launch) (HB : Heap) (D : va_G) (y : Nat → ClassId) (F n : Nat) (κ : Nat → Nat) (σ : St) (hN : N0 ≤ n) (v0 : Nat) (ha_v0 : v0 < n) (hk_v0 : κ v0 = 2) (v1 : Nat) (ha_v1 : v1 < n) (hk_v1 : κ v1 = 7) (v2 : Int32)  (G4 : Grp) (e4 : σ 4 = G4) (G5 : Grp) (e5 : σ 5 = G5) (q : Int32) (h : f_X2_hasAny F G4 G5 v0 v1 v2 = some q) : MT l HB D y yX2_hasAny cX2_hasAny 4 (some .boolean) RM_X2_hasAny [.ref (HB.size + v0), .ref (HB.size + v1), .int v2] (IV HB D y n n κ σ []) (some (.int q)) (B_X2_hasAny HB D y n κ σ q) := by
  refine Met.ofW (cc := cX2_hasAny) (maxL := 4) (ret := (some .boolean)) (by decide) rfl ?_
  intro p e s m args below meth c s₁ BL hml hv
  obtain ⟨rfl, hI, hKK⟩ := hv
  have hx := BL.exec
  have hb := BL.bytes
  have hr := BL.returns
  have hts : ∀ w ∈ gtb, w.before _ s = true := fun w hw => atoms_spec BL.pre w (List.mem_cons_of_mem _ hw)
  have hml : c.maxLocals = 4 := hml
  have hown : s.vm.findClass RX2 = some m.cls := findClass_of_methodNamed BL.named
  have hlocks := BL.notSynchronized
  have hk0 := hI.1.2.2.2.2
  have hl := lv_entry ([.ref (HB.size + v0), .ref (HB.size + v1), .int v2]) (n := 4) (Nat.le_of_ble_eq_true rfl)
  rw [lg_entry_eq]
  generalize (lg_sl ([.ref (HB.size + v0), .ref (HB.size + v1), .int v2]) ++ List.replicate (4 - (lg_sl ([.ref (HB.size + v0), .ref (HB.size + v1), .int v2])).length) Slot.unset).toArray = ls at hl ⊢
  have hl : lv_has ls 4 [(0, .ref (HB.size + v0)), (1, .ref (HB.size + v1)), (2, .int v2)] := hl
  generalize hargs : ([.ref (HB.size + v0), .ref (HB.size + v1), .int v2] : List Value).toArray = args at *
  have b2 : ∀ (fu : Nat) (H : Heap) (locs : List Loc) (ls : Array Slot) (G4 : Grp) (G5 : Grp) (v0 : Nat) (v1 : Nat) (v2 : Int32) (v3 : Int32) (ha_v0 : v0 < n) (hk_v0 : κ v0 = 2) (ha_v1 : v1 < n) (hk_v1 : κ v1 = 7), IV HB D y n n κ σ locs H → σ 4 = G4 → σ 5 = G5 → lv_has ls 4 [(0, .ref (HB.size + v0)), (1, .ref (HB.size + v1)), (2, .int v2), (3, .int v3)] → f_X2_hasAny_l2 F  fu G4 G5 v0 v1 v2 v3 = some q → WX RM_X2_hasAny p l e s m args below meth c HB (some (.int q)) (B_X2_hasAny HB D y n κ σ q) H locs (F0 m 2 ls []) := by
    intro  fu
    induction fu with
    | zero =>
      intro H locs ls G4 G5 v0 v1 v2 v3 ha_v0 hk_v0 ha_v1 hk_v1 hI e4 e5 hl h
      exact absurd h (by intro h; cases h)
    | succ fu hk2 =>
      intro H locs ls G4 G5 v0 v1 v2 v3 ha_v0 hk_v0 ha_v1 hk_v1 hI e4 e5 hl h
      have h : f_X2_hasAny_l2b F  (f_X2_hasAny_l2 F  fu) G4 G5 v0 v1 v2 v3 = some q := h
      generalize f_X2_hasAny_l2 F  fu = k2 at h hk2
      unfold f_X2_hasAny_l2b at h
      refine lv_iload_n hx hb dX2_hasAny_2 rfl (lv_at hl 3 rfl) ?_
      refine lv_aload_n hx hb dX2_hasAny_3 rfl (lv_at hl 0 rfl) ?_
      refine gt_X2_90 hx hb hts hown hKK hI e5 ha_v0 hk_v0 dX2_hasAny_4 ?_
      refine lv_icmp_ge (tgt := 33) hx hb dX2_hasAny_7 (by decide) (fun hc => ?_) (fun hc => ?_)
      · replace h := ite_t hc h
        refine lv_iconst (v := 0) hx hb dX2_hasAny_33 (by decide) ?_
        have hq := Option.some.inj h
        exact W.zret (v := 0) (ty := .boolean) hx hb hr rfl (fun t ht hW => qc_mk (congrArg (fun z => Outcome.returned (some (Value.int z))) hq) (by rw [ht]; exact hI.nil)) hI.2.2 dX2_hasAny_34 hlocks
      · replace h := ite_f hc h
        refine lv_aload_n hx hb dX2_hasAny_10 rfl (lv_at hl 1 rfl) ?_
        refine gf_X2_101 hx hb hts hown hKK hI ha_v1 hk_v1 dX2_hasAny_11 ?_
        refine lv_aload_n hx hb dX2_hasAny_14 rfl (lv_at hl 0 rfl) ?_
        refine gf_X2_9 hx hb hts hown hKK hI ha_v0 hk_v0 dX2_hasAny_15 ?_
        refine lv_iload_n hx hb dX2_hasAny_18 rfl (lv_at hl 3 rfl) ?_
        obtain ⟨hin_, h⟩ := ck_e h
        refine la_18 hx hb hKK hI e5 (ownF hI ha_v0 hk_v0 0 rfl).2.1 (ownF hI ha_v0 hk_v0 0 rfl).2.2 hin_ dX2_hasAny_19 ?_
        obtain ⟨hin_, h⟩ := ck_e h
        refine la_16 hx hb hKK hI e4 (ownF hI ha_v1 hk_v1 4 rfl).2.1 (ownF hI ha_v1 hk_v1 4 rfl).2.2 hin_ dX2_hasAny_20 ?_
        refine lv_iload_n hx hb dX2_hasAny_21 rfl (lv_at hl 2 rfl) ?_
        refine lv_icmp_ne (tgt := 27) hx hb dX2_hasAny_22 (by decide) (fun hc => ?_) (fun hc => ?_)
        · replace h := ite_f hc h
          obtain ⟨v3_27, qq, h⟩ := bn_e h
          refine lv_iinc (v := v3_27) (lv' := [(3, .int v3_27), (0, .ref (HB.size + v0)), (1, .ref (HB.size + v1)), (2, .int v2)]) hx hb dX2_hasAny_27 hl (k := 3) rfl (by rw [qq]; rfl) (by decide) rfl (fun ls hl => ?_)
          refine lv_goto (tgt := 2) hx hb dX2_hasAny_30 (by decide) ?_
          exact hk2 H locs ls G4 G5 v0 v1 v2 v3_27 ha_v0 hk_v0 ha_v1 hk_v1 hI e4 e5 (lv_sub hl [1, 2, 3, 0] rfl) h
        · replace h := ite_t hc h
          refine lv_iconst (v := 1) hx hb dX2_hasAny_25 (by decide) ?_
          have hq := Option.some.inj h
          exact W.zret (v := 1) (ty := .boolean) hx hb hr rfl (fun t ht hW => qc_mk (congrArg (fun z => Outcome.returned (some (Value.int z))) hq) (by rw [ht]; exact hI.nil)) hI.2.2 dX2_hasAny_26 hlocks
  show WX RM_X2_hasAny p l e s m args below meth c HB (some (.int q)) (B_X2_hasAny HB D y n κ σ q) s.heap [] (F0 m 0 ls [])
  generalize s.heap = H at hI ⊢
  unfold f_X2_hasAny at h
  obtain ⟨locs, hlocs⟩ : ∃ x : List Loc, x = [] := ⟨_, rfl⟩
  rw [← hlocs] at hI ⊢
  refine lv_iconst (v := 0) hx hb dX2_hasAny_0 (by decide) ?_
  refine lv_istore_n (lv' := [(3, .int 0), (0, .ref (HB.size + v0)), (1, .ref (HB.size + v1)), (2, .int v2)]) hx hb dX2_hasAny_1 rfl hl (by decide) rfl (fun ls hl => ?_)
  exact b2  F H locs ls G4 G5 v0 v1 v2 0 ha_v0 hk_v0 ha_v1 hk_v1 hI e4 e5 (lv_sub hl [1, 2, 3, 0] rfl) h
noncomputable def f_X2_hintBits_l4b (F : Nat)  (k4 : Grp → Grp → Nat → Nat → Int32 → Int32 → Option (Int32)) (G4 : Grp) (G5 : Grp) (v0 : Nat) (v1 : Nat) (v2 : Int32) (v3 : Int32) : Option (Int32) :=
  if (G5.1 v0 0) ≤ v3 then some v2 else ck v3 160 (ck (G5.1 (v0 + 1) v3.toNatClampNeg) 12 (bn ((v2 ||| (G4.1 (v1 + 6) (G5.1 (v0 + 1) v3.toNatClampNeg).toNatClampNeg))) (fun v2_25 => bn (v3 + 1) (fun v3_26 => k4 G4 G5 v0 v1 v2_25 v3_26))))
noncomputable def f_X2_hintBits_l4 (F : Nat)  (fu : Nat) : Grp → Grp → Nat → Nat → Int32 → Int32 → Option (Int32) := Nat.rec (motive := fun _ => Grp → Grp → Nat → Nat → Int32 → Int32 → Option (Int32)) (fun _ _ _ _ _ _ => none) (fun _ ih => f_X2_hintBits_l4b F  ih) fu
noncomputable def f_X2_hintBits (F : Nat) (G4 : Grp) (G5 : Grp) (v0 : Nat) (v1 : Nat) : Option (Int32) :=
  f_X2_hintBits_l4 F  F G4 G5 v0 v1 0 0
def RM_X2_hintBits : Room := { frames := 0, cells := 0, slots := 0, locals := 0 }
abbrev B_X2_hintBits (HB : Heap) (D : va_G) (y : Nat → ClassId) (n : Nat) (κ : Nat → Nat) (σ : St) (q : Int32) : Heap → Prop := fun H => IV HB D y n n κ σ [] H
set_option maxRecDepth 100000 in
set_option maxHeartbeats 4000000 in
theorem c_X2_hintBits (l : Launch) (HB : Heap) (D : va_G) (y : Nat → ClassId) (F n : Nat) (κ : Nat → Nat) (σ : St) (hN : N0 ≤ n) (v0 : Nat) (ha_v0 : v0 < n) (hk_v0 : κ v0 = 2) (v1 : Nat) (ha_v1 : v1 < n) (hk_v1 : κ v1 = 7) (G4 : Grp) (e4 : σ 4 = G4) (G5 : Grp) (e5 : σ 5 = G5) (q : Int32) (h : f_X2_hintBits F G4 G5 v0 v1 = some q) : MT l HB D y yX2_hintBits cX2_hintBits 4 (some .int) RM_X2_hintBits [.ref (HB.size + v0), .ref (HB.size + v1)] (IV HB D y n n κ σ []) (some (.int q)) (B_X2_hintBits HB D y n κ σ q) := by
  refine Met.ofW (cc := cX2_hintBits) (maxL := 4) (ret := (some .int)) (by decide) rfl ?_
  intro p e s m args below meth c s₁ BL hml hv
  obtain ⟨rfl, hI, hKK⟩ := hv
  have hx := BL.exec
  have hb := BL.bytes
  have hr := BL.returns
  have hts : ∀ w ∈ gtb, w.before _ s = true := fun w hw => atoms_spec BL.pre w (List.mem_cons_of_mem _ hw)
  have hml : c.maxLocals = 4 := hml
  have hown : s.vm.findClass RX2 = some m.cls := findClass_of_methodNamed BL.named
  have hlocks := BL.notSynchronized
  have hk0 := hI.1.2.2.2.2
  have hl := lv_entry ([.ref (HB.size + v0), .ref (HB.size + v1)]) (n := 4) (Nat.le_of_ble_eq_true rfl)
  rw [lg_entry_eq]
  generalize (lg_sl ([.ref (HB.size + v0), .ref (HB.size + v1)]) ++ List.replicate (4 - (lg_sl ([.ref (HB.size + v0), .ref (HB.size + v1)])).length) Slot.unset).toArray = ls at hl ⊢
  have hl : lv_has ls 4 [(0, .ref (HB.size + v0)), (1, .ref (HB.size + v1))] := hl
  generalize hargs : ([.ref (HB.size + v0), .ref (HB.size + v1)] : List Value).toArray = args at *
  have b4 : ∀ (fu : Nat) (H : Heap) (locs : List Loc) (ls : Array Slot) (G4 : Grp) (G5 : Grp) (v0 : Nat) (v1 : Nat) (v2 : Int32) (v3 : Int32) (ha_v0 : v0 < n) (hk_v0 : κ v0 = 2) (ha_v1 : v1 < n) (hk_v1 : κ v1 = 7), IV HB D y n n κ σ locs H → σ 4 = G4 → σ 5 = G5 → lv_has ls 4 [(0, .ref (HB.size + v0)), (1, .ref (HB.size + v1)), (2, .int v2), (3, .int v3)] → f_X2_hintBits_l4 F  fu G4 G5 v0 v1 v2 v3 = some q → WX RM_X2_hintBits p l e s m args below meth c HB (some (.int q)) (B_X2_hintBits HB D y n κ σ q) H locs (F0 m 4 ls []) := by
    intro  fu
    induction fu with
    | zero =>
      intro H locs ls G4 G5 v0 v1 v2 v3 ha_v0 hk_v0 ha_v1 hk_v1 hI e4 e5 hl h
      exact absurd h (by intro h; cases h)
    | succ fu hk4 =>
      intro H locs ls G4 G5 v0 v1 v2 v3 ha_v0 hk_v0 ha_v1 hk_v1 hI e4 e5 hl h
      have h : f_X2_hintBits_l4b F  (f_X2_hintBits_l4 F  fu) G4 G5 v0 v1 v2 v3 = some q := h
      generalize f_X2_hintBits_l4 F  fu = k4 at h hk4
      unfold f_X2_hintBits_l4b at h
      refine lv_iload_n hx hb dX2_hintBits_4 rfl (lv_at hl 3 rfl) ?_
      refine lv_aload_n hx hb dX2_hintBits_5 rfl (lv_at hl 0 rfl) ?_
      refine gt_X2_90 hx hb hts hown hKK hI e5 ha_v0 hk_v0 dX2_hintBits_6 ?_
      refine lv_icmp_ge (tgt := 32) hx hb dX2_hintBits_9 (by decide) (fun hc => ?_) (fun hc => ?_)
      · replace h := ite_t hc h
        refine lv_iload_n hx hb dX2_hintBits_32 rfl (lv_at hl 2 rfl) ?_
        have hq := Option.some.inj h
        exact W.iret (v := v2) hx hb hr (fun t ht hW => qc_mk (congrArg (fun z => Outcome.returned (some (Value.int z))) hq) (by rw [ht]; exact hI.nil)) hI.2.2 dX2_hintBits_33 hlocks
      · replace h := ite_f hc h
        refine lv_iload_n hx hb dX2_hintBits_12 rfl (lv_at hl 2 rfl) ?_
        refine lv_aload_n hx hb dX2_hintBits_13 rfl (lv_at hl 1 rfl) ?_
        refine gf_X2_104 hx hb hts hown hKK hI ha_v1 hk_v1 dX2_hintBits_14 ?_
        refine lv_aload_n hx hb dX2_hintBits_17 rfl (lv_at hl 0 rfl) ?_
        refine gf_X2_9 hx hb hts hown hKK hI ha_v0 hk_v0 dX2_hintBits_18 ?_
        refine lv_iload_n hx hb dX2_hintBits_21 rfl (lv_at hl 3 rfl) ?_
        obtain ⟨hin_, h⟩ := ck_e h
        refine la_18 hx hb hKK hI e5 (ownF hI ha_v0 hk_v0 0 rfl).2.1 (ownF hI ha_v0 hk_v0 0 rfl).2.2 hin_ dX2_hintBits_22 ?_
        obtain ⟨hin_, h⟩ := ck_e h
        refine la_16 hx hb hKK hI e4 (ownF hI ha_v1 hk_v1 5 rfl).2.1 (ownF hI ha_v1 hk_v1 5 rfl).2.2 hin_ dX2_hintBits_23 ?_
        refine lv_ior hx hb dX2_hintBits_24 ?_
        obtain ⟨v2_25, qq, h⟩ := bn_e h
        refine topi qq ?_
        refine lv_istore_n (lv' := [(2, .int v2_25), (0, .ref (HB.size + v0)), (1, .ref (HB.size + v1)), (3, .int v3)]) hx hb dX2_hintBits_25 rfl hl (by decide) rfl (fun ls hl => ?_)
        obtain ⟨v3_26, qq, h⟩ := bn_e h
        refine lv_iinc (v := v3_26) (lv' := [(3, .int v3_26), (2, .int v2_25), (0, .ref (HB.size + v0)), (1, .ref (HB.size + v1))]) hx hb dX2_hintBits_26 hl (k := 3) rfl (by rw [qq]; rfl) (by decide) rfl (fun ls hl => ?_)
        refine lv_goto (tgt := 4) hx hb dX2_hintBits_29 (by decide) ?_
        exact hk4 H locs ls G4 G5 v0 v1 v2_25 v3_26 ha_v0 hk_v0 ha_v1 hk_v1 hI e4 e5 (lv_sub hl [2, 3, 1, 0] rfl) h
  show WX RM_X2_hintBits p l e s m args below meth c HB (some (.int q)) (B_X2_hintBits HB D y n κ σ q) s.heap [] (F0 m 0 ls [])
  generalize s.heap = H at hI ⊢
  unfold f_X2_hintBits at h
  obtain ⟨locs, hlocs⟩ : ∃ x : List Loc, x = [] := ⟨_, rfl⟩
  rw [← hlocs] at hI ⊢
  refine lv_iconst (v := 0) hx hb dX2_hintBits_0 (by decide) ?_
  refine lv_istore_n (lv' := [(2, .int 0), (0, .ref (HB.size + v0)), (1, .ref (HB.size + v1))]) hx hb dX2_hintBits_1 rfl hl (by decide) rfl (fun ls hl => ?_)
  refine lv_iconst (v := 0) hx hb dX2_hintBits_2 (by decide) ?_
  refine lv_istore_n (lv' := [(3, .int 0), (2, .int 0), (0, .ref (HB.size + v0)), (1, .ref (HB.size + v1))]) hx hb dX2_hintBits_3 rfl hl (by decide) rfl (fun ls hl => ?_)
  exact b4  F H locs ls G4 G5 v0 v1 0 0 ha_v0 hk_v0 ha_v1 hk_v1 hI e4 e5 (lv_sub hl [2, 3, 1, 0] rfl) h
noncomputable def f_X3_hasVillage (F : Nat) (G6 : Grp) (v1 : Int32) : Option (Int32) :=
  ob (f_X11_within F v1 0 ((G6.1 32 0) - 1)) (fun q_8 => cb q_8 (some q_8))
def RM_X3_hasVillage : Room := { frames := 1, cells := 0, slots := 0, locals := 22 }
abbrev B_X3_hasVillage (HB : Heap) (D : va_G) (y : Nat → ClassId) (n : Nat) (κ : Nat → Nat) (σ : St) (q : Int32) : Heap → Prop := fun H => IV HB D y n n κ σ [] H
set_option maxRecDepth 100000 in
set_option maxHeartbeats 4000000 in
theorem c_X3_hasVillage (l : Launch) (HB : Heap) (D : va_G) (y : Nat → ClassId) (F n : Nat) (κ : Nat → Nat) (σ : St) (hN : N0 ≤ n) (v1 : Int32)  (G6 : Grp) (e6 : σ 6 = G6) (q : Int32) (h : f_X3_hasVillage F G6 v1 = some q) : MT l HB D y yX3_hasVillage cX3_hasVillage 2 (some .boolean) RM_X3_hasVillage [.ref (HB.size + 32), .int v1] (IV HB D y n n κ σ []) (some (.int q)) (B_X3_hasVillage HB D y n κ σ q) := by
  refine Met.ofW (cc := cX3_hasVillage) (maxL := 2) (ret := (some .boolean)) (by decide) rfl ?_
  intro p e s m args below meth c s₁ BL hml hv
  obtain ⟨rfl, hI, hKK⟩ := hv
  have hx := BL.exec
  have hb := BL.bytes
  have hr := BL.returns
  have hts : ∀ w ∈ gtb, w.before _ s = true := fun w hw => atoms_spec BL.pre w (List.mem_cons_of_mem _ hw)
  have hml : c.maxLocals = 2 := hml
  have hown : s.vm.findClass RX3 = some m.cls := findClass_of_methodNamed BL.named
  have hlocks := BL.notSynchronized
  have hk0 := hI.1.2.2.2.2
  have hl := lv_entry ([.ref (HB.size + 32), .int v1]) (n := 2) (Nat.le_of_ble_eq_true rfl)
  rw [lg_entry_eq]
  generalize (lg_sl ([.ref (HB.size + 32), .int v1]) ++ List.replicate (2 - (lg_sl ([.ref (HB.size + 32), .int v1])).length) Slot.unset).toArray = ls at hl ⊢
  have hl : lv_has ls 2 [(0, .ref (HB.size + 32)), (1, .int v1)] := hl
  generalize hargs : ([.ref (HB.size + 32), .int v1] : List Value).toArray = args at *
  show WX RM_X3_hasVillage p l e s m args below meth c HB (some (.int q)) (B_X3_hasVillage HB D y n κ σ q) s.heap [] (F0 m 0 ls [])
  generalize s.heap = H at hI ⊢
  unfold f_X3_hasVillage at h
  obtain ⟨locs, hlocs⟩ : ∃ x : List Loc, x = [] := ⟨_, rfl⟩
  rw [← hlocs] at hI ⊢
  refine lv_iload_n hx hb dX3_hasVillage_0 rfl (lv_at hl 1 rfl) ?_
  refine lv_iconst (v := 0) hx hb dX3_hasVillage_1 (by decide) ?_
  refine lv_aload_n hx hb dX3_hasVillage_2 rfl (lv_at hl 0 rfl) ?_
  refine gt_X3_48 hx hb hts hown hKK hI e6 (lc32 hN) (kc32 hk0) dX3_hasVillage_3 ?_
  refine lv_iconst (v := 1) hx hb dX3_hasVillage_6 (by decide) ?_
  refine lv_isub hx hb dX3_hasVillage_7 ?_
  obtain ⟨q_8, hq_8, h⟩ := ob_e h
  refine r_callSN (As := [.int v1, .int 0, .int ((G6.1 32 0) - 1)]) (rest := []) hx hb hml hts hown (c_X11_within l HB D y F n κ σ hN v1 0 ((G6.1 32 0) - 1)  q_8 hq_8) cal_X11_within st_X11_within (hKK.2.1 _ (List.mem_of_getElem? (i := 9) rfl)) ⟨Nat.le_of_ble_eq_true rfl, Nat.le_of_ble_eq_true rfl⟩ hI.nil hKK rfl hl.1 hI.2.2 rfl (Nat.le_of_ble_eq_true rfl) dX3_hasVillage_8 ⟨Nat.le_of_ble_eq_true rfl, Nat.le_of_ble_eq_true rfl⟩ rfl rfl rfl (fun H locs hB hlo => ?_)
  have hI := hB.re hlo
  obtain ⟨hz, h⟩ := cb_e h
  have hq := Option.some.inj h
  exact W.zret (v := q_8) (ty := .boolean) hx hb hr hz (fun t ht hW => qc_mk (congrArg (fun z => Outcome.returned (some (Value.int z))) hq) (by rw [ht]; exact hI.nil)) hI.2.2 dX3_hasVillage_11 hlocks
noncomputable def f_X3_hasGiver (F : Nat) (G6 : Grp) (v1 : Int32) : Option (Int32) :=
  ob (f_X11_within F v1 0 ((G6.1 32 3) - 1)) (fun q_8 => cb q_8 (some q_8))
def RM_X3_hasGiver : Room := { frames := 1, cells := 0, slots := 0, locals := 22 }
abbrev B_X3_hasGiver (HB : Heap) (D : va_G) (y : Nat → ClassId) (n : Nat) (κ : Nat → Nat) (σ : St) (q : Int32) : Heap → Prop := fun H => IV HB D y n n κ σ [] H
set_option maxRecDepth 100000 in
set_option maxHeartbeats 4000000 in
theorem c_X3_hasGiver (l : Launch) (HB : Heap) (D : va_G) (y : Nat → ClassId) (F n : Nat) (κ : Nat → Nat) (σ : St) (hN : N0 ≤ n) (v1 : Int32)  (G6 : Grp) (e6 : σ 6 = G6) (q : Int32) (h : f_X3_hasGiver F G6 v1 = some q) : MT l HB D y yX3_hasGiver cX3_hasGiver 2 (some .boolean) RM_X3_hasGiver [.ref (HB.size + 32), .int v1] (IV HB D y n n κ σ []) (some (.int q)) (B_X3_hasGiver HB D y n κ σ q) := by
  refine Met.ofW (cc := cX3_hasGiver) (maxL := 2) (ret := (some .boolean)) (by decide) rfl ?_
  intro p e s m args below meth c s₁ BL hml hv
  obtain ⟨rfl, hI, hKK⟩ := hv
  have hx := BL.exec
  have hb := BL.bytes
  have hr := BL.returns
  have hts : ∀ w ∈ gtb, w.before _ s = true := fun w hw => atoms_spec BL.pre w (List.mem_cons_of_mem _ hw)
  have hml : c.maxLocals = 2 := hml
  have hown : s.vm.findClass RX3 = some m.cls := findClass_of_methodNamed BL.named
  have hlocks := BL.notSynchronized
  have hk0 := hI.1.2.2.2.2
  have hl := lv_entry ([.ref (HB.size + 32), .int v1]) (n := 2) (Nat.le_of_ble_eq_true rfl)
  rw [lg_entry_eq]
  generalize (lg_sl ([.ref (HB.size + 32), .int v1]) ++ List.replicate (2 - (lg_sl ([.ref (HB.size + 32), .int v1])).length) Slot.unset).toArray = ls at hl ⊢
  have hl : lv_has ls 2 [(0, .ref (HB.size + 32)), (1, .int v1)] := hl
  generalize hargs : ([.ref (HB.size + 32), .int v1] : List Value).toArray = args at *
  show WX RM_X3_hasGiver p l e s m args below meth c HB (some (.int q)) (B_X3_hasGiver HB D y n κ σ q) s.heap [] (F0 m 0 ls [])
  generalize s.heap = H at hI ⊢
  unfold f_X3_hasGiver at h
  obtain ⟨locs, hlocs⟩ : ∃ x : List Loc, x = [] := ⟨_, rfl⟩
  rw [← hlocs] at hI ⊢
  refine lv_iload_n hx hb dX3_hasGiver_0 rfl (lv_at hl 1 rfl) ?_
  refine lv_iconst (v := 0) hx hb dX3_hasGiver_1 (by decide) ?_
  refine lv_aload_n hx hb dX3_hasGiver_2 rfl (lv_at hl 0 rfl) ?_
  refine gt_X3_56 hx hb hts hown hKK hI e6 (lc32 hN) (kc32 hk0) dX3_hasGiver_3 ?_
  refine lv_iconst (v := 1) hx hb dX3_hasGiver_6 (by decide) ?_
  refine lv_isub hx hb dX3_hasGiver_7 ?_
  obtain ⟨q_8, hq_8, h⟩ := ob_e h
  refine r_callSN (As := [.int v1, .int 0, .int ((G6.1 32 3) - 1)]) (rest := []) hx hb hml hts hown (c_X11_within l HB D y F n κ σ hN v1 0 ((G6.1 32 3) - 1)  q_8 hq_8) cal_X11_within st_X11_within (hKK.2.1 _ (List.mem_of_getElem? (i := 9) rfl)) ⟨Nat.le_of_ble_eq_true rfl, Nat.le_of_ble_eq_true rfl⟩ hI.nil hKK rfl hl.1 hI.2.2 rfl (Nat.le_of_ble_eq_true rfl) dX3_hasGiver_8 ⟨Nat.le_of_ble_eq_true rfl, Nat.le_of_ble_eq_true rfl⟩ rfl rfl rfl (fun H locs hB hlo => ?_)
  have hI := hB.re hlo
  obtain ⟨hz, h⟩ := cb_e h
  have hq := Option.some.inj h
  exact W.zret (v := q_8) (ty := .boolean) hx hb hr hz (fun t ht hW => qc_mk (congrArg (fun z => Outcome.returned (some (Value.int z))) hq) (by rw [ht]; exact hI.nil)) hI.2.2 dX3_hasGiver_11 hlocks
noncomputable def f_X3_hasChild (F : Nat) (G6 : Grp) (v1 : Int32) : Option (Int32) :=
  ob (f_X11_within F v1 0 ((G6.1 32 5) - 1)) (fun q_8 => cb q_8 (some q_8))
def RM_X3_hasChild : Room := { frames := 1, cells := 0, slots := 0, locals := 22 }
abbrev B_X3_hasChild (HB : Heap) (D : va_G) (y : Nat → ClassId) (n : Nat) (κ : Nat → Nat) (σ : St) (q : Int32) : Heap → Prop := fun H => IV HB D y n n κ σ [] H
set_option maxRecDepth 100000 in
set_option maxHeartbeats 4000000 in
theorem c_X3_hasChild (l : Launch) (HB : Heap) (D : va_G) (y : Nat → ClassId) (F n : Nat) (κ : Nat → Nat) (σ : St) (hN : N0 ≤ n) (v1 : Int32)  (G6 : Grp) (e6 : σ 6 = G6) (q : Int32) (h : f_X3_hasChild F G6 v1 = some q) : MT l HB D y yX3_hasChild cX3_hasChild 2 (some .boolean) RM_X3_hasChild [.ref (HB.size + 32), .int v1] (IV HB D y n n κ σ []) (some (.int q)) (B_X3_hasChild HB D y n κ σ q) := by
  refine Met.ofW (cc := cX3_hasChild) (maxL := 2) (ret := (some .boolean)) (by decide) rfl ?_
  intro p e s m args below meth c s₁ BL hml hv
  obtain ⟨rfl, hI, hKK⟩ := hv
  have hx := BL.exec
  have hb := BL.bytes
  have hr := BL.returns
  have hts : ∀ w ∈ gtb, w.before _ s = true := fun w hw => atoms_spec BL.pre w (List.mem_cons_of_mem _ hw)
  have hml : c.maxLocals = 2 := hml
  have hown : s.vm.findClass RX3 = some m.cls := findClass_of_methodNamed BL.named
  have hlocks := BL.notSynchronized
  have hk0 := hI.1.2.2.2.2
  have hl := lv_entry ([.ref (HB.size + 32), .int v1]) (n := 2) (Nat.le_of_ble_eq_true rfl)
  rw [lg_entry_eq]
  generalize (lg_sl ([.ref (HB.size + 32), .int v1]) ++ List.replicate (2 - (lg_sl ([.ref (HB.size + 32), .int v1])).length) Slot.unset).toArray = ls at hl ⊢
  have hl : lv_has ls 2 [(0, .ref (HB.size + 32)), (1, .int v1)] := hl
  generalize hargs : ([.ref (HB.size + 32), .int v1] : List Value).toArray = args at *
  show WX RM_X3_hasChild p l e s m args below meth c HB (some (.int q)) (B_X3_hasChild HB D y n κ σ q) s.heap [] (F0 m 0 ls [])
  generalize s.heap = H at hI ⊢
  unfold f_X3_hasChild at h
  obtain ⟨locs, hlocs⟩ : ∃ x : List Loc, x = [] := ⟨_, rfl⟩
  rw [← hlocs] at hI ⊢
  refine lv_iload_n hx hb dX3_hasChild_0 rfl (lv_at hl 1 rfl) ?_
  refine lv_iconst (v := 0) hx hb dX3_hasChild_1 (by decide) ?_
  refine lv_aload_n hx hb dX3_hasChild_2 rfl (lv_at hl 0 rfl) ?_
  refine gt_X3_59 hx hb hts hown hKK hI e6 (lc32 hN) (kc32 hk0) dX3_hasChild_3 ?_
  refine lv_iconst (v := 1) hx hb dX3_hasChild_6 (by decide) ?_
  refine lv_isub hx hb dX3_hasChild_7 ?_
  obtain ⟨q_8, hq_8, h⟩ := ob_e h
  refine r_callSN (As := [.int v1, .int 0, .int ((G6.1 32 5) - 1)]) (rest := []) hx hb hml hts hown (c_X11_within l HB D y F n κ σ hN v1 0 ((G6.1 32 5) - 1)  q_8 hq_8) cal_X11_within st_X11_within (hKK.2.1 _ (List.mem_of_getElem? (i := 9) rfl)) ⟨Nat.le_of_ble_eq_true rfl, Nat.le_of_ble_eq_true rfl⟩ hI.nil hKK rfl hl.1 hI.2.2 rfl (Nat.le_of_ble_eq_true rfl) dX3_hasChild_8 ⟨Nat.le_of_ble_eq_true rfl, Nat.le_of_ble_eq_true rfl⟩ rfl rfl rfl (fun H locs hB hlo => ?_)
  have hI := hB.re hlo
  obtain ⟨hz, h⟩ := cb_e h
  have hq := Option.some.inj h
  exact W.zret (v := q_8) (ty := .boolean) hx hb hr hz (fun t ht hW => qc_mk (congrArg (fun z => Outcome.returned (some (Value.int z))) hq) (by rw [ht]; exact hI.nil)) hI.2.2 dX3_hasChild_11 hlocks
