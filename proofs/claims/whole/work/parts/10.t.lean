noncomputable def f_X11_within (F : Nat)  (v0 : Int32) (v1 : Int32) (v2 : Int32) : Option (Int32) :=
  if v0 < v1 then some 0 else if v2 < v0 then some 0 else some 1
def RM_X11_within : Room := { frames := 0, cells := 0, slots := 0, locals := 0 }
abbrev B_X11_within (HB : Heap) (D : va_G) (y : Nat → ClassId) (n : Nat) (κ : Nat → Nat) (σ : St) (q : Int32) : Heap → Prop := fun H => IV HB D y n n κ σ [] H
set_option maxRecDepth 100000 in
set_option maxHeartbeats 4000000 in
theorem c_X11_within (l : Launch) (HB : Heap) (D : va_G) (y : Nat → ClassId) (F n : Nat) (κ : Nat → Nat) (σ : St) (hN : N0 ≤ n) (v0 : Int32)  (v1 : Int32)  (v2 : Int32)   (q : Int32) (h : f_X11_within F v0 v1 v2 = some q) : MT l HB D y yX11_within cX11_within 3 (some .boolean) RM_X11_within [.int v0, .int v1, .int v2] (IV HB D y n n κ σ []) (some (.int q)) (B_X11_within HB D y n κ σ q) := by
  refine Met.ofW (cc := cX11_within) (maxL := 3) (ret := (some .boolean)) (by decide) rfl ?_
  intro p e s m args below meth c s₁ BL hml hv
  obtain ⟨rfl, hI, hKK⟩ := hv
  have hx := BL.exec
  have hb := BL.bytes
  have hr := BL.returns
  have hts : ∀ w ∈ gtb, w.before _ s = true := fun w hw => atoms_spec BL.pre w (List.mem_cons_of_mem _ hw)
  have hown : s.vm.findClass RX11 = some m.cls := findClass_of_methodNamed BL.named
  have hlocks := BL.notSynchronized
  have hk0 := hI.1.2.2.2.2
  have hl := lv_entry ([.int v0, .int v1, .int v2]) (n := 3) (Nat.le_of_ble_eq_true rfl)
  rw [lg_entry_eq]
  generalize (lg_sl ([.int v0, .int v1, .int v2]) ++ List.replicate (3 - (lg_sl ([.int v0, .int v1, .int v2])).length) Slot.unset).toArray = ls at hl ⊢
  have hl : lv_has ls 3 [(0, .int v0), (1, .int v1), (2, .int v2)] := hl
  generalize hargs : ([.int v0, .int v1, .int v2] : List Value).toArray = args at *
  show WX RM_X11_within p l e s m args below meth c HB (some (.int q)) (B_X11_within HB D y n κ σ q) s.heap [] (F0 m 0 ls [])
  generalize s.heap = H at hI ⊢
  unfold f_X11_within at h
  obtain ⟨locs, hlocs⟩ : ∃ x : List Loc, x = [] := ⟨_, rfl⟩
  rw [← hlocs] at hI ⊢
  refine lv_iload_n hx hb dX11_within_0 rfl (lv_at hl 0 rfl) ?_
  refine lv_iload_n hx hb dX11_within_1 rfl (lv_at hl 1 rfl) ?_
  refine lv_icmp_lt (tgt := 14) hx hb dX11_within_2 (by decide) (fun hc => ?_) (fun hc => ?_)
  · replace h := ite_t hc h
    refine lv_iconst (v := 0) hx hb dX11_within_14 (by decide) ?_
    have hq := Option.some.inj h
    exact W.zret (v := 0) (ty := .boolean) hx hb hr rfl (fun t ht hW => qc_mk (congrArg (fun z => Outcome.returned (some (Value.int z))) hq) (by rw [ht]; exact hI.nil)) hI.2.2 dX11_within_15 hlocks
  · replace h := ite_f hc h
    refine lv_iload_n hx hb dX11_within_5 rfl (lv_at hl 0 rfl) ?_
    refine lv_iload_n hx hb dX11_within_6 rfl (lv_at hl 2 rfl) ?_
    refine lv_icmp_gt (tgt := 14) hx hb dX11_within_7 (by decide) (fun hc => ?_) (fun hc => ?_)
    · replace h := ite_t hc h
      refine lv_iconst (v := 0) hx hb dX11_within_14 (by decide) ?_
      have hq := Option.some.inj h
      exact W.zret (v := 0) (ty := .boolean) hx hb hr rfl (fun t ht hW => qc_mk (congrArg (fun z => Outcome.returned (some (Value.int z))) hq) (by rw [ht]; exact hI.nil)) hI.2.2 dX11_within_15 hlocks
    · replace h := ite_f hc h
      refine lv_iconst (v := 1) hx hb dX11_within_10 (by decide) ?_
      refine lv_goto (tgt := 15) hx hb dX11_within_11 (by decide) ?_
      have hq := Option.some.inj h
      exact W.zret (v := 1) (ty := .boolean) hx hb hr rfl (fun t ht hW => qc_mk (congrArg (fun z => Outcome.returned (some (Value.int z))) hq) (by rw [ht]; exact hI.nil)) hI.2.2 dX11_within_15 hlocks
noncomputable def f_X3_hasVillage (F : Nat) (G6 : Grp) (v1 : Int32) : Option (Int32) :=
  ob (f_X11_within F v1 0 ((G6.1 32 0) - 1)) (fun q_8 => cb q_8 (some q_8))
def RM_X3_hasVillage : Room := { frames := 1, cells := 0, slots := 0, locals := 22 }
abbrev B_X3_hasVillage (HB : Heap) (D : va_G) (y : Nat → ClassId) (n : Nat) (κ : Nat → Nat) (σ : St) (q : Int32) : Heap → Prop := fun H => IV HB D y n n κ σ [] H
set_option maxRecDepth 100000 in
set_option maxHeartbeats 4000000 in
theorem c_X3_hasVillage (l : Launch) (HB : Heap) (D : va_G) (y : Nat → ClassId) (F n : Nat) (κ : Nat → Nat) (σ : St) (hN : N0 ≤ n) (v1 : Int32)  (G6 : Grp) (e6 : σ 6 = G6) (q : Int32) (h : f_X3_hasVillage F G6 v1 = some q) : MT l HB D y yX3_hasVillage cX3_hasVillage 2 (some .boolean) RM_X3_hasVillage [.ref (HB.size + 32), .int v1] (IV HB D y n n κ σ []) (some (.int q)) (B_X3_hasVillage HB D y n κ σ q) := by
  refine Met.ofW (cc := cX3_hasVillage) (maxL := 2) (ret := (some .boolean)) (by decide) rfl ?_
  intro p e s m args below meth c s₁ BL hml hv
  obtain ⟨rfl, hI, hKK⟩ := hv
  have hx := BL.exec
  have hb := BL.bytes
  have hr := BL.returns
  have hts : ∀ w ∈ gtb, w.before _ s = true := fun w hw => atoms_spec BL.pre w (List.mem_cons_of_mem _ hw)
  have hown : s.vm.findClass RX3 = some m.cls := findClass_of_methodNamed BL.named
  have hlocks := BL.notSynchronized
  have hk0 := hI.1.2.2.2.2
  have hl := lv_entry ([.ref (HB.size + 32), .int v1]) (n := 2) (Nat.le_of_ble_eq_true rfl)
  rw [lg_entry_eq]
  generalize (lg_sl ([.ref (HB.size + 32), .int v1]) ++ List.replicate (2 - (lg_sl ([.ref (HB.size + 32), .int v1])).length) Slot.unset).toArray = ls at hl ⊢
  have hl : lv_has ls 2 [(0, .ref (HB.size + 32)), (1, .int v1)] := hl
  generalize hargs : ([.ref (HB.size + 32), .int v1] : List Value).toArray = args at *
  show WX RM_X3_hasVillage p l e s m args below meth c HB (some (.int q)) (B_X3_hasVillage HB D y n κ σ q) s.heap [] (F0 m 0 ls [])
  generalize s.heap = H at hI ⊢
  unfold f_X3_hasVillage at h
  obtain ⟨locs, hlocs⟩ : ∃ x : List Loc, x = [] := ⟨_, rfl⟩
  rw [← hlocs] at hI ⊢
  refine lv_iload_n hx hb dX3_hasVillage_0 rfl (lv_at hl 1 rfl) ?_
  refine lv_iconst (v := 0) hx hb dX3_hasVillage_1 (by decide) ?_
  refine lv_aload_n hx hb dX3_hasVillage_2 rfl (lv_at hl 0 rfl) ?_
  refine gt_X3_48 hx hb hts hown hKK hI e6 (lc32 hN) (kc32 hk0) dX3_hasVillage_3 ?_
  refine lv_iconst (v := 1) hx hb dX3_hasVillage_6 (by decide) ?_
  refine lv_isub hx hb dX3_hasVillage_7 ?_
  obtain ⟨q_8, hq_8, h⟩ := ob_e h
  refine r_callSN (As := [.int v1, .int 0, .int ((G6.1 32 0) - 1)]) (rest := []) hx hb hml hts hown (c_X11_within l HB D y F n κ σ hN v1 0 ((G6.1 32 0) - 1)  q_8 hq_8) cal_X11_within st_X11_within (hKK.2.1 _ (List.mem_of_getElem? (i := 9) rfl)) ⟨Nat.le_of_ble_eq_true rfl, Nat.le_of_ble_eq_true rfl⟩ hI.nil hKK rfl hl.1 hI.2.2 rfl (Nat.le_of_ble_eq_true rfl) dX3_hasVillage_8 ⟨Nat.le_of_ble_eq_true rfl, Nat.le_of_ble_eq_true rfl⟩ rfl rfl rfl (fun H locs hB hlo => ?_)
  have hI := hB.re hlo
  obtain ⟨hz, h⟩ := cb_e h
  have hq := Option.some.inj h
  exact W.zret (v := q_8) (ty := .boolean) hx hb hr hz (fun t ht hW => qc_mk (congrArg (fun z => Outcome.returned (some (Value.int z))) hq) (by rw [ht]; exact hI.nil)) hI.2.2 dX3_hasVillage_11 hlocks
noncomputable def f_X5_isOpen (F : Nat) (G9 : Grp) (v0 : Nat) : Option (Int32) :=
  if (G9.1 v0 4) = (-1) then some 1 else some 0
def RM_X5_isOpen : Room := { frames := 0, cells := 0, slots := 0, locals := 0 }
abbrev B_X5_isOpen (HB : Heap) (D : va_G) (y : Nat → ClassId) (n : Nat) (κ : Nat → Nat) (σ : St) (q : Int32) : Heap → Prop := fun H => IV HB D y n n κ σ [] H
set_option maxRecDepth 100000 in
set_option maxHeartbeats 4000000 in
theorem c_X5_isOpen (l : Launch) (HB : Heap) (D : va_G) (y : Nat → ClassId) (F n : Nat) (κ : Nat → Nat) (σ : St) (hN : N0 ≤ n) (v0 : Nat) (ha_v0 : v0 < n) (hk_v0 : κ v0 = 5) (G9 : Grp) (e9 : σ 9 = G9) (q : Int32) (h : f_X5_isOpen F G9 v0 = some q) : MT l HB D y yX5_isOpen cX5_isOpen 1 (some .boolean) RM_X5_isOpen [.ref (HB.size + v0)] (IV HB D y n n κ σ []) (some (.int q)) (B_X5_isOpen HB D y n κ σ q) := by
  refine Met.ofW (cc := cX5_isOpen) (maxL := 1) (ret := (some .boolean)) (by decide) rfl ?_
  intro p e s m args below meth c s₁ BL hml hv
  obtain ⟨rfl, hI, hKK⟩ := hv
  have hx := BL.exec
  have hb := BL.bytes
  have hr := BL.returns
  have hts : ∀ w ∈ gtb, w.before _ s = true := fun w hw => atoms_spec BL.pre w (List.mem_cons_of_mem _ hw)
  have hown : s.vm.findClass RX5 = some m.cls := findClass_of_methodNamed BL.named
  have hlocks := BL.notSynchronized
  have hk0 := hI.1.2.2.2.2
  have hl := lv_entry ([.ref (HB.size + v0)]) (n := 1) (Nat.le_of_ble_eq_true rfl)
  rw [lg_entry_eq]
  generalize (lg_sl ([.ref (HB.size + v0)]) ++ List.replicate (1 - (lg_sl ([.ref (HB.size + v0)])).length) Slot.unset).toArray = ls at hl ⊢
  have hl : lv_has ls 1 [(0, .ref (HB.size + v0))] := hl
  generalize hargs : ([.ref (HB.size + v0)] : List Value).toArray = args at *
  show WX RM_X5_isOpen p l e s m args below meth c HB (some (.int q)) (B_X5_isOpen HB D y n κ σ q) s.heap [] (F0 m 0 ls [])
  generalize s.heap = H at hI ⊢
  unfold f_X5_isOpen at h
  obtain ⟨locs, hlocs⟩ : ∃ x : List Loc, x = [] := ⟨_, rfl⟩
  rw [← hlocs] at hI ⊢
  refine lv_aload_n hx hb dX5_isOpen_0 rfl (lv_at hl 0 rfl) ?_
  refine gt_X5_24 hx hb hts hown hKK hI e9 ha_v0 hk_v0 dX5_isOpen_1 ?_
  refine lv_iconst (v := (-1)) hx hb dX5_isOpen_4 (by decide) ?_
  refine lv_icmp_ne (tgt := 12) hx hb dX5_isOpen_5 (by decide) (fun hc => ?_) (fun hc => ?_)
  · replace h := ite_f hc h
    refine lv_iconst (v := 0) hx hb dX5_isOpen_12 (by decide) ?_
    have hq := Option.some.inj h
    exact W.zret (v := 0) (ty := .boolean) hx hb hr rfl (fun t ht hW => qc_mk (congrArg (fun z => Outcome.returned (some (Value.int z))) hq) (by rw [ht]; exact hI.nil)) hI.2.2 dX5_isOpen_13 hlocks
  · replace h := ite_t hc h
    refine lv_iconst (v := 1) hx hb dX5_isOpen_8 (by decide) ?_
    refine lv_goto (tgt := 13) hx hb dX5_isOpen_9 (by decide) ?_
    have hq := Option.some.inj h
    exact W.zret (v := 1) (ty := .boolean) hx hb hr rfl (fun t ht hW => qc_mk (congrArg (fun z => Outcome.returned (some (Value.int z))) hq) (by rw [ht]; exact hI.nil)) hI.2.2 dX5_isOpen_13 hlocks
noncomputable def f_X3_hasRoom_l4b (F : Nat)  (k4 : Grp → Grp → Int32 → Int32 → Int32 → Option (Int32)) (G7 : Grp) (G9 : Grp) (v1 : Int32) (v2 : Int32) (v3 : Int32) : Option (Int32) :=
  if (G7.1 32 10) ≤ v3 then if 2 ≤ v2 then some 0 else some 1 else ck v3 40 (om (G7.2.2 40 v3.toNatClampNeg) (none) (fun t_18 => if (G9.1 t_18 1) = v1 then ck v3 40 (om (G7.2.2 40 v3.toNatClampNeg) (none) (fun t_31 => ob (f_X5_isOpen F G9 t_31) (fun q_32 => if q_32 = 0 then bn ((v2 + 0)) (fun v2_44 => bn (v3 + 1) (fun v3_45 => k4 G7 G9 v1 v2_44 v3_45)) else bn ((v2 + 1)) (fun v2_44 => bn (v3 + 1) (fun v3_45 => k4 G7 G9 v1 v2_44 v3_45))))) else bn ((v2 + 0)) (fun v2_44 => bn (v3 + 1) (fun v3_45 => k4 G7 G9 v1 v2_44 v3_45))))
noncomputable def f_X3_hasRoom_l4 (F : Nat)  (fu : Nat) : Grp → Grp → Int32 → Int32 → Int32 → Option (Int32) := Nat.rec (motive := fun _ => Grp → Grp → Int32 → Int32 → Int32 → Option (Int32)) (fun _ _ _ _ _ => none) (fun _ ih => f_X3_hasRoom_l4b F  ih) fu
noncomputable def f_X3_hasRoom (F : Nat) (G7 : Grp) (G9 : Grp) (v1 : Int32) : Option (Int32) :=
  f_X3_hasRoom_l4 F  F G7 G9 v1 0 0
def RM_X3_hasRoom : Room := { frames := 1, cells := 0, slots := 0, locals := 20 }
abbrev B_X3_hasRoom (HB : Heap) (D : va_G) (y : Nat → ClassId) (n : Nat) (κ : Nat → Nat) (σ : St) (q : Int32) : Heap → Prop := fun H => IV HB D y n n κ σ [] H
set_option maxRecDepth 100000 in
set_option maxHeartbeats 4000000 in
theorem c_X3_hasRoom (l : Launch) (HB : Heap) (D : va_G) (y : Nat → ClassId) (F n : Nat) (κ : Nat → Nat) (σ : St) (hN : N0 ≤ n) (v1 : Int32)  (G7 : Grp) (e7 : σ 7 = G7) (G9 : Grp) (e9 : σ 9 = G9) (q : Int32) (h : f_X3_hasRoom F G7 G9 v1 = some q) : MT l HB D y yX3_hasRoom cX3_hasRoom 4 (some .boolean) RM_X3_hasRoom [.ref (HB.size + 32), .int v1] (IV HB D y n n κ σ []) (some (.int q)) (B_X3_hasRoom HB D y n κ σ q) := by
  refine Met.ofW (cc := cX3_hasRoom) (maxL := 4) (ret := (some .boolean)) (by decide) rfl ?_
  intro p e s m args below meth c s₁ BL hml hv
  obtain ⟨rfl, hI, hKK⟩ := hv
  have hx := BL.exec
  have hb := BL.bytes
  have hr := BL.returns
  have hts : ∀ w ∈ gtb, w.before _ s = true := fun w hw => atoms_spec BL.pre w (List.mem_cons_of_mem _ hw)
  have hown : s.vm.findClass RX3 = some m.cls := findClass_of_methodNamed BL.named
  have hlocks := BL.notSynchronized
  have hk0 := hI.1.2.2.2.2
  have hl := lv_entry ([.ref (HB.size + 32), .int v1]) (n := 4) (Nat.le_of_ble_eq_true rfl)
  rw [lg_entry_eq]
  generalize (lg_sl ([.ref (HB.size + 32), .int v1]) ++ List.replicate (4 - (lg_sl ([.ref (HB.size + 32), .int v1])).length) Slot.unset).toArray = ls at hl ⊢
  have hl : lv_has ls 4 [(0, .ref (HB.size + 32)), (1, .int v1)] := hl
  generalize hargs : ([.ref (HB.size + 32), .int v1] : List Value).toArray = args at *
  have b4 : ∀ (fu : Nat) (H : Heap) (locs : List Loc) (ls : Array Slot) (G7 : Grp) (G9 : Grp) (v1 : Int32) (v2 : Int32) (v3 : Int32) , IV HB D y n n κ σ locs H → σ 7 = G7 → σ 9 = G9 → lv_has ls 4 [(0, .ref (HB.size + 32)), (1, .int v1), (2, .int v2), (3, .int v3)] → f_X3_hasRoom_l4 F  fu G7 G9 v1 v2 v3 = some q → WX RM_X3_hasRoom p l e s m args below meth c HB (some (.int q)) (B_X3_hasRoom HB D y n κ σ q) H locs (F0 m 4 ls []) := by
    intro  fu
    induction fu with
    | zero =>
      intro H locs ls G7 G9 v1 v2 v3 hI e7 e9 hl h
      exact absurd h (by intro h; cases h)
    | succ fu hk4 =>
      intro H locs ls G7 G9 v1 v2 v3 hI e7 e9 hl h
      have h : f_X3_hasRoom_l4b F  (f_X3_hasRoom_l4 F  fu) G7 G9 v1 v2 v3 = some q := h
      generalize f_X3_hasRoom_l4 F  fu = k4 at h hk4
      unfold f_X3_hasRoom_l4b at h
      refine lv_iload_n hx hb dX3_hasRoom_4 rfl (lv_at hl 3 rfl) ?_
      refine lv_aload_n hx hb dX3_hasRoom_5 rfl (lv_at hl 0 rfl) ?_
      refine gt_X3_62 hx hb hts hown hKK hI e7 (lc32 hN) (kc32 hk0) dX3_hasRoom_6 ?_
      refine lv_icmp_ge (tgt := 51) hx hb dX3_hasRoom_9 (by decide) (fun hc => ?_) (fun hc => ?_)
      · replace h := ite_t hc h
        refine lv_iload_n hx hb dX3_hasRoom_51 rfl (lv_at hl 2 rfl) ?_
        refine lv_iconst (v := 2) hx hb dX3_hasRoom_52 (by decide) ?_
        refine lv_icmp_ge (tgt := 60) hx hb dX3_hasRoom_53 (by decide) (fun hc => ?_) (fun hc => ?_)
        · replace h := ite_t hc h
          refine lv_iconst (v := 0) hx hb dX3_hasRoom_60 (by decide) ?_
          have hq := Option.some.inj h
          exact W.zret (v := 0) (ty := .boolean) hx hb hr rfl (fun t ht hW => qc_mk (congrArg (fun z => Outcome.returned (some (Value.int z))) hq) (by rw [ht]; exact hI.nil)) hI.2.2 dX3_hasRoom_61 hlocks
        · replace h := ite_f hc h
          refine lv_iconst (v := 1) hx hb dX3_hasRoom_56 (by decide) ?_
          refine lv_goto (tgt := 61) hx hb dX3_hasRoom_57 (by decide) ?_
          have hq := Option.some.inj h
          exact W.zret (v := 1) (ty := .boolean) hx hb hr rfl (fun t ht hW => qc_mk (congrArg (fun z => Outcome.returned (some (Value.int z))) hq) (by rw [ht]; exact hI.nil)) hI.2.2 dX3_hasRoom_61 hlocks
      · replace h := ite_f hc h
        refine lv_iload_n hx hb dX3_hasRoom_12 rfl (lv_at hl 2 rfl) ?_
        refine lv_aload_n hx hb dX3_hasRoom_13 rfl (lv_at hl 0 rfl) ?_
        refine gf_X3_35 hx hb hts hown hKK hI hN dX3_hasRoom_14 ?_
        refine lv_iload_n hx hb dX3_hasRoom_17 rfl (lv_at hl 3 rfl) ?_
        obtain ⟨hin_, h⟩ := ck_e h
        refine la_22 hx hb hKK hI e7 (lc40 hN) (kc40 hk0) hin_ dX3_hasRoom_18 ?_
        rcases om_e h with ⟨eo, h⟩ | ⟨t_18, eo, h⟩
        · cases h
        · refine topr eo ?_
          obtain ⟨ha_18, hk_18⟩ := tarF hI (lc40 hN) (kc40 hk0) 0 rfl e7 eo
          refine gt_X3_79 hx hb hts hown hKK hI e9 ha_18 hk_18 dX3_hasRoom_19 ?_
          refine lv_iload_n hx hb dX3_hasRoom_22 rfl (lv_at hl 1 rfl) ?_
          refine lv_icmp_ne (tgt := 42) hx hb dX3_hasRoom_23 (by decide) (fun hc => ?_) (fun hc => ?_)
          · replace h := ite_f hc h
            refine lv_iconst (v := 0) hx hb dX3_hasRoom_42 (by decide) ?_
            refine lv_iadd hx hb dX3_hasRoom_43 ?_
            obtain ⟨v2_44, qq, h⟩ := bn_e h
            refine topi qq ?_
            refine lv_istore_n (lv' := [(2, .int v2_44), (0, .ref (HB.size + 32)), (1, .int v1), (3, .int v3)]) hx hb dX3_hasRoom_44 rfl hl (by decide) rfl (fun ls hl => ?_)
            obtain ⟨v3_45, qq, h⟩ := bn_e h
            refine lv_iinc (v := v3_45) (lv' := [(3, .int v3_45), (2, .int v2_44), (0, .ref (HB.size + 32)), (1, .int v1)]) hx hb dX3_hasRoom_45 hl (k := 3) rfl (by rw [qq]; rfl) (by decide) rfl (fun ls hl => ?_)
            refine lv_goto (tgt := 4) hx hb dX3_hasRoom_48 (by decide) ?_
            exact hk4 H locs ls G7 G9 v1 v2_44 v3_45  hI e7 e9 (lv_sub hl [2, 3, 1, 0] rfl) h
          · replace h := ite_t hc h
            refine lv_aload_n hx hb dX3_hasRoom_26 rfl (lv_at hl 0 rfl) ?_
            refine gf_X3_35 hx hb hts hown hKK hI hN dX3_hasRoom_27 ?_
            refine lv_iload_n hx hb dX3_hasRoom_30 rfl (lv_at hl 3 rfl) ?_
            obtain ⟨hin_, h⟩ := ck_e h
            refine la_22 hx hb hKK hI e7 (lc40 hN) (kc40 hk0) hin_ dX3_hasRoom_31 ?_
            rcases om_e h with ⟨eo, h⟩ | ⟨t_31, eo, h⟩
            · cases h
            · refine topr eo ?_
              obtain ⟨ha_31, hk_31⟩ := tarF hI (lc40 hN) (kc40 hk0) 0 rfl e7 eo
              obtain ⟨q_32, hq_32, h⟩ := ob_e h
              refine r_callV (As := []) (rest := [.int v2]) hx hb hml hts hown (c_X5_isOpen l HB D y F n κ σ hN t_31 ha_31 hk_31 G9 e9 q_32 hq_32) cal_X5_isOpen im_X5_isOpen se_X5_isOpen lm_X3_72 ⟨Nat.le_of_ble_eq_true rfl, Nat.le_of_ble_eq_true rfl⟩ hI.nil hKK (r_recv hKK hI (hE5 HB.size y) rfl ha_31 hk_31) rfl hl.1 hI.2.2 rfl (Nat.le_of_ble_eq_true rfl) dX3_hasRoom_32 ⟨Nat.le_of_ble_eq_true rfl, Nat.le_of_ble_eq_true rfl⟩ rfl rfl rfl (fun H locs hB hlo => ?_)
              have hI := hB.re hlo
              refine lv_if_eq (tgt := 42) hx hb dX3_hasRoom_35 (by decide) (fun hc => ?_) (fun hc => ?_)
              · replace h := ite_t hc h
                refine lv_iconst (v := 0) hx hb dX3_hasRoom_42 (by decide) ?_
                refine lv_iadd hx hb dX3_hasRoom_43 ?_
                obtain ⟨v2_44, qq, h⟩ := bn_e h
                refine topi qq ?_
                refine lv_istore_n (lv' := [(2, .int v2_44), (0, .ref (HB.size + 32)), (1, .int v1), (3, .int v3)]) hx hb dX3_hasRoom_44 rfl hl (by decide) rfl (fun ls hl => ?_)
                obtain ⟨v3_45, qq, h⟩ := bn_e h
                refine lv_iinc (v := v3_45) (lv' := [(3, .int v3_45), (2, .int v2_44), (0, .ref (HB.size + 32)), (1, .int v1)]) hx hb dX3_hasRoom_45 hl (k := 3) rfl (by rw [qq]; rfl) (by decide) rfl (fun ls hl => ?_)
                refine lv_goto (tgt := 4) hx hb dX3_hasRoom_48 (by decide) ?_
                exact hk4 H locs ls G7 G9 v1 v2_44 v3_45  hI e7 e9 (lv_sub hl [2, 3, 1, 0] rfl) h
              · replace h := ite_f hc h
                refine lv_iconst (v := 1) hx hb dX3_hasRoom_38 (by decide) ?_
                refine lv_goto (tgt := 43) hx hb dX3_hasRoom_39 (by decide) ?_
                refine lv_iadd hx hb dX3_hasRoom_43 ?_
                obtain ⟨v2_44, qq, h⟩ := bn_e h
                refine topi qq ?_
                refine lv_istore_n (lv' := [(2, .int v2_44), (0, .ref (HB.size + 32)), (1, .int v1), (3, .int v3)]) hx hb dX3_hasRoom_44 rfl hl (by decide) rfl (fun ls hl => ?_)
                obtain ⟨v3_45, qq, h⟩ := bn_e h
                refine lv_iinc (v := v3_45) (lv' := [(3, .int v3_45), (2, .int v2_44), (0, .ref (HB.size + 32)), (1, .int v1)]) hx hb dX3_hasRoom_45 hl (k := 3) rfl (by rw [qq]; rfl) (by decide) rfl (fun ls hl => ?_)
                refine lv_goto (tgt := 4) hx hb dX3_hasRoom_48 (by decide) ?_
                exact hk4 H locs ls G7 G9 v1 v2_44 v3_45  hI e7 e9 (lv_sub hl [2, 3, 1, 0] rfl) h
  show WX RM_X3_hasRoom p l e s m args below meth c HB (some (.int q)) (B_X3_hasRoom HB D y n κ σ q) s.heap [] (F0 m 0 ls [])
  generalize s.heap = H at hI ⊢
  unfold f_X3_hasRoom at h
  obtain ⟨locs, hlocs⟩ : ∃ x : List Loc, x = [] := ⟨_, rfl⟩
  rw [← hlocs] at hI ⊢
  refine lv_iconst (v := 0) hx hb dX3_hasRoom_0 (by decide) ?_
  refine lv_istore_n (lv' := [(2, .int 0), (0, .ref (HB.size + 32)), (1, .int v1)]) hx hb dX3_hasRoom_1 rfl hl (by decide) rfl (fun ls hl => ?_)
  refine lv_iconst (v := 0) hx hb dX3_hasRoom_2 (by decide) ?_
  refine lv_istore_n (lv' := [(3, .int 0), (2, .int 0), (0, .ref (HB.size + 32)), (1, .int v1)]) hx hb dX3_hasRoom_3 rfl hl (by decide) rfl (fun ls hl => ?_)
  exact b4  F H locs ls G7 G9 v1 0 0  hI e7 e9 (lv_sub hl [2, 3, 1, 0] rfl) h
noncomputable def f_X3_pairAt_b24 (F : Nat)  (G7 : Grp) (s0 : Option Nat) : Option (Option Nat) :=
  some s0
noncomputable def f_X3_pairAt (F : Nat) (G7 : Grp) (v1 : Int32) : Option (Option Nat) :=
  ob (f_X11_within F v1 0 ((G7.1 32 10) - 1)) (fun q_8 => if q_8 = 0 then f_X3_pairAt_b24 F  G7 none else ck v1 40 (om (G7.2.2 40 v1.toNatClampNeg) (f_X3_pairAt_b24 F  G7 none) (fun t_19 => f_X3_pairAt_b24 F  G7 (some t_19))))
def RM_X3_pairAt : Room := { frames := 1, cells := 0, slots := 0, locals := 22 }
abbrev B_X3_pairAt (HB : Heap) (D : va_G) (y : Nat → ClassId) (n : Nat) (κ : Nat → Nat) (σ : St) (q : Option Nat) : Heap → Prop := fun H => (IV HB D y n n κ σ [] H) ∧ ∀ t : Nat, q = some t → t < n ∧ κ t = 5
set_option maxRecDepth 100000 in
set_option maxHeartbeats 4000000 in
theorem c_X3_pairAt (l : Launch) (HB : Heap) (D : va_G) (y : Nat → ClassId) (F n : Nat) (κ : Nat → Nat) (σ : St) (hN : N0 ≤ n) (v1 : Int32)  (G7 : Grp) (e7 : σ 7 = G7) (q : Option Nat) (h : f_X3_pairAt F G7 v1 = some q) : MT l HB D y yX3_pairAt cX3_pairAt 2 (some (.object "ChildLetters$Pair")) RM_X3_pairAt [.ref (HB.size + 32), .int v1] (IV HB D y n n κ σ []) (some (rfv HB.size q)) (B_X3_pairAt HB D y n κ σ q) := by
  refine Met.ofW (cc := cX3_pairAt) (maxL := 2) (ret := (some (.object "ChildLetters$Pair"))) (by decide) rfl ?_
  intro p e s m args below meth c s₁ BL hml hv
  obtain ⟨rfl, hI, hKK⟩ := hv
  have hx := BL.exec
  have hb := BL.bytes
  have hr := BL.returns
  have hts : ∀ w ∈ gtb, w.before _ s = true := fun w hw => atoms_spec BL.pre w (List.mem_cons_of_mem _ hw)
  have hown : s.vm.findClass RX3 = some m.cls := findClass_of_methodNamed BL.named
  have hlocks := BL.notSynchronized
  have hk0 := hI.1.2.2.2.2
  have hl := lv_entry ([.ref (HB.size + 32), .int v1]) (n := 2) (Nat.le_of_ble_eq_true rfl)
  rw [lg_entry_eq]
  generalize (lg_sl ([.ref (HB.size + 32), .int v1]) ++ List.replicate (2 - (lg_sl ([.ref (HB.size + 32), .int v1])).length) Slot.unset).toArray = ls at hl ⊢
  have hl : lv_has ls 2 [(0, .ref (HB.size + 32)), (1, .int v1)] := hl
  generalize hargs : ([.ref (HB.size + 32), .int v1] : List Value).toArray = args at *
  have b24 : ∀ (H : Heap) (locs : List Loc) (ls : Array Slot) (G7 : Grp) (s0 : Option Nat) (hf_s0 : ∀ t : Nat, s0 = some t → t < n ∧ κ t = 5), IV HB D y n n κ σ locs H → σ 7 = G7 → lv_has ls 2 [] → f_X3_pairAt_b24 F  G7 s0 = some q → WX RM_X3_pairAt p l e s m args below meth c HB (some (rfv HB.size q)) (B_X3_pairAt HB D y n κ σ q) H locs (F0 m 24 ls [rfv HB.size s0]) := by
    intro  H locs ls G7 s0 hf_s0 hI e7 hl h
    unfold f_X3_pairAt_b24 at h
    have hq := Option.some.inj h
    exact W.aret (v := rfv HB.size s0) hx hb hr (Or.inl ⟨_, rfl⟩) (rfv_or _ _) (fun t ht hW => qc_mk (congrArg (fun z => Outcome.returned (some (rfv HB.size z))) hq) (by rw [ht]; exact ⟨hI.nil, (fun t q => hf_s0 t (hq.trans q))⟩)) hI.2.2 dX3_pairAt_24 hlocks
  show WX RM_X3_pairAt p l e s m args below meth c HB (some (rfv HB.size q)) (B_X3_pairAt HB D y n κ σ q) s.heap [] (F0 m 0 ls [])
  generalize s.heap = H at hI ⊢
  unfold f_X3_pairAt at h
  obtain ⟨locs, hlocs⟩ : ∃ x : List Loc, x = [] := ⟨_, rfl⟩
  rw [← hlocs] at hI ⊢
  refine lv_iload_n hx hb dX3_pairAt_0 rfl (lv_at hl 1 rfl) ?_
  refine lv_iconst (v := 0) hx hb dX3_pairAt_1 (by decide) ?_
  refine lv_aload_n hx hb dX3_pairAt_2 rfl (lv_at hl 0 rfl) ?_
  refine gt_X3_62 hx hb hts hown hKK hI e7 (lc32 hN) (kc32 hk0) dX3_pairAt_3 ?_
  refine lv_iconst (v := 1) hx hb dX3_pairAt_6 (by decide) ?_
  refine lv_isub hx hb dX3_pairAt_7 ?_
  obtain ⟨q_8, hq_8, h⟩ := ob_e h
  refine r_callSN (As := [.int v1, .int 0, .int ((G7.1 32 10) - 1)]) (rest := []) hx hb hml hts hown (c_X11_within l HB D y F n κ σ hN v1 0 ((G7.1 32 10) - 1)  q_8 hq_8) cal_X11_within st_X11_within (hKK.2.1 _ (List.mem_of_getElem? (i := 9) rfl)) ⟨Nat.le_of_ble_eq_true rfl, Nat.le_of_ble_eq_true rfl⟩ hI.nil hKK rfl hl.1 hI.2.2 rfl (Nat.le_of_ble_eq_true rfl) dX3_pairAt_8 ⟨Nat.le_of_ble_eq_true rfl, Nat.le_of_ble_eq_true rfl⟩ rfl rfl rfl (fun H locs hB hlo => ?_)
  have hI := hB.re hlo
  refine lv_if_eq (tgt := 23) hx hb dX3_pairAt_11 (by decide) (fun hc => ?_) (fun hc => ?_)
  · replace h := ite_t hc h
    refine lv_null hx hb dX3_pairAt_23 ?_
    exact b24  H locs ls G7 none (fun _ q => by cases q) hI e7 (lv_sub hl [] rfl) h
  · replace h := ite_f hc h
    refine lv_aload_n hx hb dX3_pairAt_14 rfl (lv_at hl 0 rfl) ?_
    refine gf_X3_35 hx hb hts hown hKK hI hN dX3_pairAt_15 ?_
    refine lv_iload_n hx hb dX3_pairAt_18 rfl (lv_at hl 1 rfl) ?_
    obtain ⟨hin_, h⟩ := ck_e h
    refine la_22 hx hb hKK hI e7 (lc40 hN) (kc40 hk0) hin_ dX3_pairAt_19 ?_
    rcases om_e h with ⟨eo, h⟩ | ⟨t_19, eo, h⟩
    · refine topn eo ?_
      refine lv_goto (tgt := 24) hx hb dX3_pairAt_20 (by decide) ?_
      exact b24  H locs ls G7 none (fun _ q => by cases q) hI e7 (lv_sub hl [] rfl) h
    · refine topr eo ?_
      obtain ⟨ha_19, hk_19⟩ := tarF hI (lc40 hN) (kc40 hk0) 0 rfl e7 eo
      refine lv_goto (tgt := 24) hx hb dX3_pairAt_20 (by decide) ?_
      exact b24  H locs ls G7 (some t_19) (fun _ q => by cases q; exact ⟨ha_19, hk_19⟩) hI e7 (lv_sub hl [] rfl) h
noncomputable def f_X3_openPairAt_b22 (F : Nat)  (G7 : Grp) (G9 : Grp) (s0 : Option Nat) : Option (Option Nat) :=
  some s0
noncomputable def f_X3_openPairAt_b21 (F : Nat)  (G7 : Grp) (G9 : Grp)  : Option (Option Nat) :=
  f_X3_openPairAt_b22 F  G7 G9 none
noncomputable def f_X3_openPairAt (F : Nat) (G7 : Grp) (G9 : Grp) (v1 : Int32) : Option (Option Nat) :=
  ob (f_X3_pairAt F G7 v1) (fun q_2 => om q_2 (f_X3_openPairAt_b21 F  G7 G9) (fun t_2 => ob (f_X5_isOpen F G9 t_2) (fun q_11 => if q_11 = 0 then f_X3_openPairAt_b21 F  G7 G9 else f_X3_openPairAt_b22 F  G7 G9 (some t_2))))
def RM_X3_openPairAt : Room := { frames := 2, cells := 0, slots := 0, locals := 43 }
abbrev B_X3_openPairAt (HB : Heap) (D : va_G) (y : Nat → ClassId) (n : Nat) (κ : Nat → Nat) (σ : St) (q : Option Nat) : Heap → Prop := fun H => (IV HB D y n n κ σ [] H) ∧ ∀ t : Nat, q = some t → t < n ∧ κ t = 5
set_option maxRecDepth 100000 in
set_option maxHeartbeats 4000000 in
theorem c_X3_openPairAt (l : Launch) (HB : Heap) (D : va_G) (y : Nat → ClassId) (F n : Nat) (κ : Nat → Nat) (σ : St) (hN : N0 ≤ n) (v1 : Int32)  (G7 : Grp) (e7 : σ 7 = G7) (G9 : Grp) (e9 : σ 9 = G9) (q : Option Nat) (h : f_X3_openPairAt F G7 G9 v1 = some q) : MT l HB D y yX3_openPairAt cX3_openPairAt 3 (some (.object "ChildLetters$Pair")) RM_X3_openPairAt [.ref (HB.size + 32), .int v1] (IV HB D y n n κ σ []) (some (rfv HB.size q)) (B_X3_openPairAt HB D y n κ σ q) := by
  refine Met.ofW (cc := cX3_openPairAt) (maxL := 3) (ret := (some (.object "ChildLetters$Pair"))) (by decide) rfl ?_
  intro p e s m args below meth c s₁ BL hml hv
  obtain ⟨rfl, hI, hKK⟩ := hv
  have hx := BL.exec
  have hb := BL.bytes
  have hr := BL.returns
  have hts : ∀ w ∈ gtb, w.before _ s = true := fun w hw => atoms_spec BL.pre w (List.mem_cons_of_mem _ hw)
  have hown : s.vm.findClass RX3 = some m.cls := findClass_of_methodNamed BL.named
  have hlocks := BL.notSynchronized
  have hk0 := hI.1.2.2.2.2
  have hl := lv_entry ([.ref (HB.size + 32), .int v1]) (n := 3) (Nat.le_of_ble_eq_true rfl)
  rw [lg_entry_eq]
  generalize (lg_sl ([.ref (HB.size + 32), .int v1]) ++ List.replicate (3 - (lg_sl ([.ref (HB.size + 32), .int v1])).length) Slot.unset).toArray = ls at hl ⊢
  have hl : lv_has ls 3 [(0, .ref (HB.size + 32)), (1, .int v1)] := hl
  generalize hargs : ([.ref (HB.size + 32), .int v1] : List Value).toArray = args at *
  have b22 : ∀ (H : Heap) (locs : List Loc) (ls : Array Slot) (G7 : Grp) (G9 : Grp) (s0 : Option Nat) (hf_s0 : ∀ t : Nat, s0 = some t → t < n ∧ κ t = 5), IV HB D y n n κ σ locs H → σ 7 = G7 → σ 9 = G9 → lv_has ls 3 [] → f_X3_openPairAt_b22 F  G7 G9 s0 = some q → WX RM_X3_openPairAt p l e s m args below meth c HB (some (rfv HB.size q)) (B_X3_openPairAt HB D y n κ σ q) H locs (F0 m 22 ls [rfv HB.size s0]) := by
    intro  H locs ls G7 G9 s0 hf_s0 hI e7 e9 hl h
    unfold f_X3_openPairAt_b22 at h
    have hq := Option.some.inj h
    exact W.aret (v := rfv HB.size s0) hx hb hr (Or.inl ⟨_, rfl⟩) (rfv_or _ _) (fun t ht hW => qc_mk (congrArg (fun z => Outcome.returned (some (rfv HB.size z))) hq) (by rw [ht]; exact ⟨hI.nil, (fun t q => hf_s0 t (hq.trans q))⟩)) hI.2.2 dX3_openPairAt_22 hlocks
  have b21 : ∀ (H : Heap) (locs : List Loc) (ls : Array Slot) (G7 : Grp) (G9 : Grp)  , IV HB D y n n κ σ locs H → σ 7 = G7 → σ 9 = G9 → lv_has ls 3 [] → f_X3_openPairAt_b21 F  G7 G9 = some q → WX RM_X3_openPairAt p l e s m args below meth c HB (some (rfv HB.size q)) (B_X3_openPairAt HB D y n κ σ q) H locs (F0 m 21 ls []) := by
    intro  H locs ls G7 G9 hI e7 e9 hl h
    unfold f_X3_openPairAt_b21 at h
    refine lv_null hx hb dX3_openPairAt_21 ?_
    exact b22  H locs ls G7 G9 none (fun _ q => by cases q) hI e7 e9 (lv_sub hl [] rfl) h
  show WX RM_X3_openPairAt p l e s m args below meth c HB (some (rfv HB.size q)) (B_X3_openPairAt HB D y n κ σ q) s.heap [] (F0 m 0 ls [])
  generalize s.heap = H at hI ⊢
  unfold f_X3_openPairAt at h
  obtain ⟨locs, hlocs⟩ : ∃ x : List Loc, x = [] := ⟨_, rfl⟩
  rw [← hlocs] at hI ⊢
  refine lv_aload_n hx hb dX3_openPairAt_0 rfl (lv_at hl 0 rfl) ?_
  refine lv_iload_n hx hb dX3_openPairAt_1 rfl (lv_at hl 1 rfl) ?_
  obtain ⟨q_2, hq_2, h⟩ := ob_e h
  refine r_callV (As := [.int v1]) (rest := []) hx hb hml hts hown (c_X3_pairAt l HB D y F n κ σ hN v1 G7 e7 q_2 hq_2) cal_X3_pairAt im_X3_pairAt se_X3_pairAt lm_X3_68 ⟨Nat.le_of_ble_eq_true rfl, Nat.le_of_ble_eq_true rfl⟩ hI.nil hKK (r_recv hKK hI (hE3 HB.size y) rfl (lc32 hN) (kc32 hk0)) rfl hl.1 hI.2.2 rfl (Nat.le_of_ble_eq_true rfl) dX3_openPairAt_2 ⟨Nat.le_of_ble_eq_true rfl, Nat.le_of_ble_eq_true rfl⟩ rfl rfl rfl (fun H locs hB hlo => ?_)
  obtain ⟨hB, hf_2⟩ := hB
  have hI := hB.re hlo
  rcases om_e h with ⟨eo, h⟩ | ⟨t_2, eo, h⟩
  · refine topn eo ?_
    refine lv_astore_nN (lv' := [(2, .null), (0, .ref (HB.size + 32)), (1, .int v1)]) hx hb dX3_openPairAt_5 rfl hl (by decide) rfl (fun ls hl => ?_)
    refine lv_aload_nN hx hb dX3_openPairAt_6 rfl (lv_at hl 0 rfl) ?_
    refine lv_ifnullN (tgt := 21) hx hb dX3_openPairAt_7 (by decide) ?_
    exact b21  H locs ls G7 G9  hI e7 e9 (lv_sub hl [] rfl) h
  · refine topr eo ?_
    obtain ⟨ha_2, hk_2⟩ := hf_2 _ eo
    refine lv_astore_n (lv' := [(2, .ref (HB.size + t_2)), (0, .ref (HB.size + 32)), (1, .int v1)]) hx hb dX3_openPairAt_5 rfl hl (by decide) rfl (fun ls hl => ?_)
    refine lv_aload_n hx hb dX3_openPairAt_6 rfl (lv_at hl 0 rfl) ?_
    refine lv_ifnull hx hb dX3_openPairAt_7 ?_
    refine lv_aload_n hx hb dX3_openPairAt_10 rfl (lv_at hl 0 rfl) ?_
    obtain ⟨q_11, hq_11, h⟩ := ob_e h
    refine r_callV (As := []) (rest := []) hx hb hml hts hown (c_X5_isOpen l HB D y F n κ σ hN t_2 ha_2 hk_2 G9 e9 q_11 hq_11) cal_X5_isOpen im_X5_isOpen se_X5_isOpen lm_X3_72 ⟨Nat.le_of_ble_eq_true rfl, Nat.le_of_ble_eq_true rfl⟩ hI.nil hKK (r_recv hKK hI (hE5 HB.size y) rfl ha_2 hk_2) rfl hl.1 hI.2.2 rfl (Nat.le_of_ble_eq_true rfl) dX3_openPairAt_11 ⟨Nat.le_of_ble_eq_true rfl, Nat.le_of_ble_eq_true rfl⟩ rfl rfl rfl (fun H locs hB hlo => ?_)
    have hI := hB.re hlo
    refine lv_if_eq (tgt := 21) hx hb dX3_openPairAt_14 (by decide) (fun hc => ?_) (fun hc => ?_)
    · replace h := ite_t hc h
      exact b21  H locs ls G7 G9  hI e7 e9 (lv_sub hl [] rfl) h
    · replace h := ite_f hc h
      refine lv_aload_n hx hb dX3_openPairAt_17 rfl (lv_at hl 0 rfl) ?_
      refine lv_goto (tgt := 22) hx hb dX3_openPairAt_18 (by decide) ?_
      exact b22  H locs ls G7 G9 (some t_2) (fun _ q => by cases q; exact ⟨ha_2, hk_2⟩) hI e7 e9 (lv_sub hl [] rfl) h
noncomputable def f_X3_addVillage (F : Nat) (G6 : Grp) (v1 : Int32) (v2 : Int32) : Option (Int32 × Grp) :=
  if (G6.1 32 0) < 6 then ck (G6.1 32 0) 6 (bn (gI G6 33 (G6.1 32 0).toNatClampNeg v1) (fun G6_20 => ck (G6_20.1 32 0) 6 (bn (gI G6_20 34 (G6_20.1 32 0).toNatClampNeg v2) (fun G6_30 => bn (gI G6_30 32 0 ((G6_30.1 32 0) + 1)) (fun G6_38 => some (((G6_38.1 32 0) - 1), G6_38)))))) else some ((-1), G6)
def RM_X3_addVillage : Room := { frames := 0, cells := 0, slots := 0, locals := 0 }
abbrev W_X3_addVillage : List Nat := [6]
abbrev B_X3_addVillage (HB : Heap) (D : va_G) (y : Nat → ClassId) (n : Nat) (κ : Nat → Nat) (σ0 : St) (q : Int32 × Grp) : Heap → Prop := fun H => ∃ σ : St, IV HB D y n n κ σ [] H ∧ σ 6 = q.2 ∧ ∀ j, j ∉ W_X3_addVillage → σ j = σ0 j
set_option maxRecDepth 100000 in
set_option maxHeartbeats 4000000 in
theorem c_X3_addVillage (l : Launch) (HB : Heap) (D : va_G) (y : Nat → ClassId) (F n : Nat) (κ : Nat → Nat) (σ0 : St) (hN : N0 ≤ n) (v1 : Int32)  (v2 : Int32)  (G6 : Grp) (e6 : σ0 6 = G6) (q : Int32 × Grp) (h : f_X3_addVillage F G6 v1 v2 = some q) : MT l HB D y yX3_addVillage cX3_addVillage 3 (some .int) RM_X3_addVillage [.ref (HB.size + 32), .int v1, .int v2] (IV HB D y n n κ σ0 []) (some (.int q.1)) (B_X3_addVillage HB D y n κ σ0 q) := by
  refine Met.ofW (cc := cX3_addVillage) (maxL := 3) (ret := (some .int)) (by decide) rfl ?_
  intro p e s m args below meth c s₁ BL hml hv
  obtain ⟨rfl, hI, hKK⟩ := hv
  have hx := BL.exec
  have hb := BL.bytes
  have hr := BL.returns
  have hts : ∀ w ∈ gtb, w.before _ s = true := fun w hw => atoms_spec BL.pre w (List.mem_cons_of_mem _ hw)
  have hown : s.vm.findClass RX3 = some m.cls := findClass_of_methodNamed BL.named
  have hlocks := BL.notSynchronized
  have hk0 := hI.1.2.2.2.2
  have hl := lv_entry ([.ref (HB.size + 32), .int v1, .int v2]) (n := 3) (Nat.le_of_ble_eq_true rfl)
  rw [lg_entry_eq]
  generalize (lg_sl ([.ref (HB.size + 32), .int v1, .int v2]) ++ List.replicate (3 - (lg_sl ([.ref (HB.size + 32), .int v1, .int v2])).length) Slot.unset).toArray = ls at hl ⊢
  have hl : lv_has ls 3 [(0, .ref (HB.size + 32)), (1, .int v1), (2, .int v2)] := hl
  generalize hargs : ([.ref (HB.size + 32), .int v1, .int v2] : List Value).toArray = args at *
  obtain ⟨σ, hI, e6, fr⟩ : ∃ σ : St, IV HB D y n n κ σ [] s.heap ∧ σ 6 = G6 ∧ ∀ j, j ∉ W_X3_addVillage → σ j = σ0 j := ⟨σ0, hI, e6, fun _ _ => rfl⟩
  show WX RM_X3_addVillage p l e s m args below meth c HB (some (.int q.1)) (B_X3_addVillage HB D y n κ σ0 q) s.heap [] (F0 m 0 ls [])
  generalize s.heap = H at hI ⊢
  unfold f_X3_addVillage at h
  obtain ⟨locs, hlocs⟩ : ∃ x : List Loc, x = [] := ⟨_, rfl⟩
  rw [← hlocs] at hI ⊢
  refine lv_aload_n hx hb dX3_addVillage_0 rfl (lv_at hl 0 rfl) ?_
  refine gt_X3_48 hx hb hts hown hKK hI e6 (lc32 hN) (kc32 hk0) dX3_addVillage_1 ?_
  refine lv_bipush (v := 6) hx hb dX3_addVillage_4 (by decide) ?_
  refine lv_icmp_lt (tgt := 11) hx hb dX3_addVillage_6 (by decide) (fun hc => ?_) (fun hc => ?_)
  · replace h := ite_t hc h
    refine lv_aload_n hx hb dX3_addVillage_11 rfl (lv_at hl 0 rfl) ?_
    refine gf_X3_9 hx hb hts hown hKK hI hN dX3_addVillage_12 ?_
    refine lv_aload_n hx hb dX3_addVillage_15 rfl (lv_at hl 0 rfl) ?_
    refine gt_X3_48 hx hb hts hown hKK hI e6 (lc32 hN) (kc32 hk0) dX3_addVillage_16 ?_
    refine lv_iload_n hx hb dX3_addVillage_19 rfl (lv_at hl 1 rfl) ?_
    obtain ⟨hin_, h⟩ := ck_e h
    obtain ⟨G6_20, qq, h⟩ := bn_e h
    refine sa_20 hx hb hKK hI e6 (lc33 hN) (kc33 hk0) hin_ dX3_addVillage_20 (fun σ H locs hI ew ho => ?_)
    have e6 := ew.trans qq.symm
    have fr := frs fr ho (by decide)
    refine lv_aload_n hx hb dX3_addVillage_21 rfl (lv_at hl 0 rfl) ?_
    refine gf_X3_15 hx hb hts hown hKK hI hN dX3_addVillage_22 ?_
    refine lv_aload_n hx hb dX3_addVillage_25 rfl (lv_at hl 0 rfl) ?_
    refine gt_X3_48 hx hb hts hown hKK hI e6 (lc32 hN) (kc32 hk0) dX3_addVillage_26 ?_
    refine lv_iload_n hx hb dX3_addVillage_29 rfl (lv_at hl 2 rfl) ?_
    obtain ⟨hin_, h⟩ := ck_e h
    obtain ⟨G6_30, qq, h⟩ := bn_e h
    refine sa_20 hx hb hKK hI e6 (lc34 hN) (kc34 hk0) hin_ dX3_addVillage_30 (fun σ H locs hI ew ho => ?_)
    have e6 := ew.trans qq.symm
    have fr := frs fr ho (by decide)
    refine lv_aload_n hx hb dX3_addVillage_31 rfl (lv_at hl 0 rfl) ?_
    refine lv_dup hx hb dX3_addVillage_32 rfl ?_
    refine gt_X3_48 hx hb hts hown hKK hI e6 (lc32 hN) (kc32 hk0) dX3_addVillage_33 ?_
    refine lv_iconst (v := 1) hx hb dX3_addVillage_36 (by decide) ?_
    refine lv_iadd hx hb dX3_addVillage_37 ?_
    obtain ⟨G6_38, qq, h⟩ := bn_e h
    refine pt_X3_48 hx hb hts hown hKK hI e6 (lc32 hN) (kc32 hk0) dX3_addVillage_38 (fun σ H locs hI ew ho => ?_)
    have e6 := ew.trans qq.symm
    have fr := frs fr ho (by decide)
    refine lv_aload_n hx hb dX3_addVillage_41 rfl (lv_at hl 0 rfl) ?_
    refine gt_X3_48 hx hb hts hown hKK hI e6 (lc32 hN) (kc32 hk0) dX3_addVillage_42 ?_
    refine lv_iconst (v := 1) hx hb dX3_addVillage_45 (by decide) ?_
    refine lv_isub hx hb dX3_addVillage_46 ?_
    have hq := Option.some.inj h
    exact W.iret (v := ((G6_38.1 32 0) - 1)) hx hb hr (fun t ht hW => qc_mk (congrArg (fun z => Outcome.returned (some (Value.int z.1))) hq) (by rw [ht]; exact ⟨σ, hI.nil, e6.trans (congrArg (fun z => z.2) hq), fr⟩)) hI.2.2 dX3_addVillage_47 hlocks
  · replace h := ite_f hc h
    refine lv_iconst (v := (-1)) hx hb dX3_addVillage_9 (by decide) ?_
    have hq := Option.some.inj h
    exact W.iret (v := (-1)) hx hb hr (fun t ht hW => qc_mk (congrArg (fun z => Outcome.returned (some (Value.int z.1))) hq) (by rw [ht]; exact ⟨σ, hI.nil, e6.trans (congrArg (fun z => z.2) hq), fr⟩)) hI.2.2 dX3_addVillage_10 hlocks
noncomputable def f_X11_village (F : Nat) (G6 : Grp) (v1 : Int32) (v2 : Int32) : Option (Int32 × Grp) :=
  ob (f_X11_within F v1 1 60) (fun q_4 => if q_4 = 0 then some ((-1), G6) else ob (f_X11_within F v2 0 4095) (fun q_15 => if q_15 = 0 then some ((-1), G6) else ob (f_X3_addVillage F G6 v1 v2) (fun q_29 => some (q_29.1, q_29.2))))
def RM_X11_village : Room := { frames := 1, cells := 0, slots := 0, locals := 22 }
abbrev W_X11_village : List Nat := [6]
abbrev B_X11_village (HB : Heap) (D : va_G) (y : Nat → ClassId) (n : Nat) (κ : Nat → Nat) (σ0 : St) (q : Int32 × Grp) : Heap → Prop := fun H => ∃ σ : St, IV HB D y n n κ σ [] H ∧ σ 6 = q.2 ∧ ∀ j, j ∉ W_X11_village → σ j = σ0 j
set_option maxRecDepth 100000 in
set_option maxHeartbeats 4000000 in
theorem c_X11_village (l : Launch) (HB : Heap) (D : va_G) (y : Nat → ClassId) (F n : Nat) (κ : Nat → Nat) (σ0 : St) (hN : N0 ≤ n) (v1 : Int32)  (v2 : Int32)  (G6 : Grp) (e6 : σ0 6 = G6) (q : Int32 × Grp) (h : f_X11_village F G6 v1 v2 = some q) : MT l HB D y yX11_village cX11_village 3 (some .int) RM_X11_village [.ref (HB.size + 0), .int v1, .int v2] (IV HB D y n n κ σ0 []) (some (.int q.1)) (B_X11_village HB D y n κ σ0 q) := by
  refine Met.ofW (cc := cX11_village) (maxL := 3) (ret := (some .int)) (by decide) rfl ?_
  intro p e s m args below meth c s₁ BL hml hv
  obtain ⟨rfl, hI, hKK⟩ := hv
  have hx := BL.exec
  have hb := BL.bytes
  have hr := BL.returns
  have hts : ∀ w ∈ gtb, w.before _ s = true := fun w hw => atoms_spec BL.pre w (List.mem_cons_of_mem _ hw)
  have hown : s.vm.findClass RX11 = some m.cls := findClass_of_methodNamed BL.named
  have hlocks := BL.notSynchronized
  have hk0 := hI.1.2.2.2.2
  have hl := lv_entry ([.ref (HB.size + 0), .int v1, .int v2]) (n := 3) (Nat.le_of_ble_eq_true rfl)
  rw [lg_entry_eq]
  generalize (lg_sl ([.ref (HB.size + 0), .int v1, .int v2]) ++ List.replicate (3 - (lg_sl ([.ref (HB.size + 0), .int v1, .int v2])).length) Slot.unset).toArray = ls at hl ⊢
  have hl : lv_has ls 3 [(0, .ref (HB.size + 0)), (1, .int v1), (2, .int v2)] := hl
  generalize hargs : ([.ref (HB.size + 0), .int v1, .int v2] : List Value).toArray = args at *
  obtain ⟨σ, hI, e6, fr⟩ : ∃ σ : St, IV HB D y n n κ σ [] s.heap ∧ σ 6 = G6 ∧ ∀ j, j ∉ W_X11_village → σ j = σ0 j := ⟨σ0, hI, e6, fun _ _ => rfl⟩
  show WX RM_X11_village p l e s m args below meth c HB (some (.int q.1)) (B_X11_village HB D y n κ σ0 q) s.heap [] (F0 m 0 ls [])
  generalize s.heap = H at hI ⊢
  unfold f_X11_village at h
  obtain ⟨locs, hlocs⟩ : ∃ x : List Loc, x = [] := ⟨_, rfl⟩
  rw [← hlocs] at hI ⊢
  refine lv_iload_n hx hb dX11_village_0 rfl (lv_at hl 1 rfl) ?_
  refine lv_iconst (v := 1) hx hb dX11_village_1 (by decide) ?_
  refine lv_bipush (v := 60) hx hb dX11_village_2 (by decide) ?_
  obtain ⟨q_4, hq_4, h⟩ := ob_e h
  refine r_callS (As := [.int v1, .int 1, .int 60]) (rest := []) hx hb hml hts hown (c_X11_within l HB D y F n κ σ hN v1 1 60  q_4 hq_4) cal_X11_within st_X11_within lm_X11_80 ⟨Nat.le_of_ble_eq_true rfl, Nat.le_of_ble_eq_true rfl⟩ hI.nil hKK rfl hl.1 hI.2.2 rfl (Nat.le_of_ble_eq_true rfl) dX11_village_4 ⟨Nat.le_of_ble_eq_true rfl, Nat.le_of_ble_eq_true rfl⟩ rfl rfl rfl (fun H locs hB hlo => ?_)
  have hI := hB.re hlo
  refine lv_if_eq (tgt := 21) hx hb dX11_village_7 (by decide) (fun hc => ?_) (fun hc => ?_)
  · replace h := ite_t hc h
    refine lv_iconst (v := (-1)) hx hb dX11_village_21 (by decide) ?_
    have hq := Option.some.inj h
    exact W.iret (v := (-1)) hx hb hr (fun t ht hW => qc_mk (congrArg (fun z => Outcome.returned (some (Value.int z.1))) hq) (by rw [ht]; exact ⟨σ, hI.nil, e6.trans (congrArg (fun z => z.2) hq), fr⟩)) hI.2.2 dX11_village_22 hlocks
  · replace h := ite_f hc h
    refine lv_iload_n hx hb dX11_village_10 rfl (lv_at hl 2 rfl) ?_
    refine lv_iconst (v := 0) hx hb dX11_village_11 (by decide) ?_
    refine lv_sipush (v := 4095) hx hb dX11_village_12 (by decide) ?_
    obtain ⟨q_15, hq_15, h⟩ := ob_e h
    refine r_callS (As := [.int v2, .int 0, .int 4095]) (rest := []) hx hb hml hts hown (c_X11_within l HB D y F n κ σ hN v2 0 4095  q_15 hq_15) cal_X11_within st_X11_within lm_X11_80 ⟨Nat.le_of_ble_eq_true rfl, Nat.le_of_ble_eq_true rfl⟩ hI.nil hKK rfl hl.1 hI.2.2 rfl (Nat.le_of_ble_eq_true rfl) dX11_village_15 ⟨Nat.le_of_ble_eq_true rfl, Nat.le_of_ble_eq_true rfl⟩ rfl rfl rfl (fun H locs hB hlo => ?_)
    have hI := hB.re hlo
    refine lv_if_ne (tgt := 23) hx hb dX11_village_18 (by decide) (fun hc => ?_) (fun hc => ?_)
    · replace h := ite_f hc h
      refine lv_aload_n hx hb dX11_village_23 rfl (lv_at hl 0 rfl) ?_
      refine gf_X11_37 hx hb hts hown hKK hI hN dX11_village_24 ?_
      refine lv_iload_n hx hb dX11_village_27 rfl (lv_at hl 1 rfl) ?_
      refine lv_iload_n hx hb dX11_village_28 rfl (lv_at hl 2 rfl) ?_
      obtain ⟨q_29, hq_29, h⟩ := ob_e h
      refine r_callV (As := [.int v1, .int v2]) (rest := []) hx hb hml hts hown (c_X3_addVillage l HB D y F n κ σ hN v1 v2 G6 e6 q_29 hq_29) cal_X3_addVillage im_X3_addVillage se_X3_addVillage lm_X11_84 ⟨Nat.le_of_ble_eq_true rfl, Nat.le_of_ble_eq_true rfl⟩ hI.nil hKK (r_recv hKK hI (hE3 HB.size y) rfl (lc32 hN) (kc32 hk0)) rfl hl.1 hI.2.2 rfl (Nat.le_of_ble_eq_true rfl) dX11_village_29 ⟨Nat.le_of_ble_eq_true rfl, Nat.le_of_ble_eq_true rfl⟩ rfl rfl rfl (fun H locs hB hlo => ?_)
      obtain ⟨σ, hB, en6, ho⟩ := hB
      have hI := hB.re hlo
      have e6 := en6
      have fr := frc fr ho (by decide)
      have hq := Option.some.inj h
      exact W.iret (v := q_29.1) hx hb hr (fun t ht hW => qc_mk (congrArg (fun z => Outcome.returned (some (Value.int z.1))) hq) (by rw [ht]; exact ⟨σ, hI.nil, e6.trans (congrArg (fun z => z.2) hq), fr⟩)) hI.2.2 dX11_village_32 hlocks
    · replace h := ite_t hc h
      refine lv_iconst (v := (-1)) hx hb dX11_village_21 (by decide) ?_
      have hq := Option.some.inj h
      exact W.iret (v := (-1)) hx hb hr (fun t ht hW => qc_mk (congrArg (fun z => Outcome.returned (some (Value.int z.1))) hq) (by rw [ht]; exact ⟨σ, hI.nil, e6.trans (congrArg (fun z => z.2) hq), fr⟩)) hI.2.2 dX11_village_22 hlocks
noncomputable def f_X3_leftAsKnown_l7b (F : Nat)  (k7 : Grp → Int32 → Int32 → Int32 → Option (Int32)) (G8 : Grp) (v1 : Int32) (v2 : Int32) (v3 : Int32) : Option (Int32) :=
  if v3 < 0 then some (-1) else ck v3 100 (if (G8.1 41 v3.toNatClampNeg) = v1 then ck v3 100 (if v2 < (G8.1 42 v3.toNatClampNeg) then bn (v3 + (-1)) (fun v3_38 => k7 G8 v1 v2 v3_38) else ck v3 100 (some (G8.1 43 v3.toNatClampNeg))) else bn (v3 + (-1)) (fun v3_38 => k7 G8 v1 v2 v3_38))
noncomputable def f_X3_leftAsKnown_l7 (F : Nat)  (fu : Nat) : Grp → Int32 → Int32 → Int32 → Option (Int32) := Nat.rec (motive := fun _ => Grp → Int32 → Int32 → Int32 → Option (Int32)) (fun _ _ _ _ => none) (fun _ ih => f_X3_leftAsKnown_l7b F  ih) fu
noncomputable def f_X3_leftAsKnown (F : Nat) (G8 : Grp) (v1 : Int32) (v2 : Int32) : Option (Int32) :=
  bn (((G8.1 32 12) - 1)) (fun v3_6 => f_X3_leftAsKnown_l7 F  F G8 v1 v2 v3_6)
def RM_X3_leftAsKnown : Room := { frames := 0, cells := 0, slots := 0, locals := 0 }
abbrev B_X3_leftAsKnown (HB : Heap) (D : va_G) (y : Nat → ClassId) (n : Nat) (κ : Nat → Nat) (σ : St) (q : Int32) : Heap → Prop := fun H => IV HB D y n n κ σ [] H
set_option maxRecDepth 100000 in
set_option maxHeartbeats 4000000 in
theorem c_X3_leftAsKnown (l : Launch) (HB : Heap) (D : va_G) (y : Nat → ClassId) (F n : Nat) (κ : Nat → Nat) (σ : St) (hN : N0 ≤ n) (v1 : Int32)  (v2 : Int32)  (G8 : Grp) (e8 : σ 8 = G8) (q : Int32) (h : f_X3_leftAsKnown F G8 v1 v2 = some q) : MT l HB D y yX3_leftAsKnown cX3_leftAsKnown 4 (some .int) RM_X3_leftAsKnown [.ref (HB.size + 32), .int v1, .int v2] (IV HB D y n n κ σ []) (some (.int q)) (B_X3_leftAsKnown HB D y n κ σ q) := by
  refine Met.ofW (cc := cX3_leftAsKnown) (maxL := 4) (ret := (some .int)) (by decide) rfl ?_
  intro p e s m args below meth c s₁ BL hml hv
  obtain ⟨rfl, hI, hKK⟩ := hv
  have hx := BL.exec
  have hb := BL.bytes
  have hr := BL.returns
  have hts : ∀ w ∈ gtb, w.before _ s = true := fun w hw => atoms_spec BL.pre w (List.mem_cons_of_mem _ hw)
  have hown : s.vm.findClass RX3 = some m.cls := findClass_of_methodNamed BL.named
  have hlocks := BL.notSynchronized
  have hk0 := hI.1.2.2.2.2
  have hl := lv_entry ([.ref (HB.size + 32), .int v1, .int v2]) (n := 4) (Nat.le_of_ble_eq_true rfl)
  rw [lg_entry_eq]
  generalize (lg_sl ([.ref (HB.size + 32), .int v1, .int v2]) ++ List.replicate (4 - (lg_sl ([.ref (HB.size + 32), .int v1, .int v2])).length) Slot.unset).toArray = ls at hl ⊢
  have hl : lv_has ls 4 [(0, .ref (HB.size + 32)), (1, .int v1), (2, .int v2)] := hl
  generalize hargs : ([.ref (HB.size + 32), .int v1, .int v2] : List Value).toArray = args at *
  have b7 : ∀ (fu : Nat) (H : Heap) (locs : List Loc) (ls : Array Slot) (G8 : Grp) (v1 : Int32) (v2 : Int32) (v3 : Int32) , IV HB D y n n κ σ locs H → σ 8 = G8 → lv_has ls 4 [(0, .ref (HB.size + 32)), (1, .int v1), (2, .int v2), (3, .int v3)] → f_X3_leftAsKnown_l7 F  fu G8 v1 v2 v3 = some q → WX RM_X3_leftAsKnown p l e s m args below meth c HB (some (.int q)) (B_X3_leftAsKnown HB D y n κ σ q) H locs (F0 m 7 ls []) := by
    intro  fu
    induction fu with
    | zero =>
      intro H locs ls G8 v1 v2 v3 hI e8 hl h
      exact absurd h (by intro h; cases h)
    | succ fu hk7 =>
      intro H locs ls G8 v1 v2 v3 hI e8 hl h
      have h : f_X3_leftAsKnown_l7b F  (f_X3_leftAsKnown_l7 F  fu) G8 v1 v2 v3 = some q := h
      generalize f_X3_leftAsKnown_l7 F  fu = k7 at h hk7
      unfold f_X3_leftAsKnown_l7b at h
      refine lv_iload_n hx hb dX3_leftAsKnown_7 rfl (lv_at hl 3 rfl) ?_
      refine lv_if_lt (tgt := 44) hx hb dX3_leftAsKnown_8 (by decide) (fun hc => ?_) (fun hc => ?_)
      · replace h := ite_t hc h
        refine lv_iconst (v := (-1)) hx hb dX3_leftAsKnown_44 (by decide) ?_
        have hq := Option.some.inj h
        exact W.iret (v := (-1)) hx hb hr (fun t ht hW => qc_mk (congrArg (fun z => Outcome.returned (some (Value.int z))) hq) (by rw [ht]; exact hI.nil)) hI.2.2 dX3_leftAsKnown_45 hlocks
      · replace h := ite_f hc h
        refine lv_aload_n hx hb dX3_leftAsKnown_11 rfl (lv_at hl 0 rfl) ?_
        refine gf_X3_39 hx hb hts hown hKK hI hN dX3_leftAsKnown_12 ?_
        refine lv_iload_n hx hb dX3_leftAsKnown_15 rfl (lv_at hl 3 rfl) ?_
        obtain ⟨hin_, h⟩ := ck_e h
        refine la_23 hx hb hKK hI e8 (lc41 hN) (kc41 hk0) hin_ dX3_leftAsKnown_16 ?_
        refine lv_iload_n hx hb dX3_leftAsKnown_17 rfl (lv_at hl 1 rfl) ?_
        refine lv_icmp_ne (tgt := 38) hx hb dX3_leftAsKnown_18 (by decide) (fun hc => ?_) (fun hc => ?_)
        · replace h := ite_f hc h
          obtain ⟨v3_38, qq, h⟩ := bn_e h
          refine lv_iinc (v := v3_38) (lv' := [(3, .int v3_38), (0, .ref (HB.size + 32)), (1, .int v1), (2, .int v2)]) hx hb dX3_leftAsKnown_38 hl (k := 3) rfl (by rw [qq]; rfl) (by decide) rfl (fun ls hl => ?_)
          refine lv_goto (tgt := 7) hx hb dX3_leftAsKnown_41 (by decide) ?_
          exact hk7 H locs ls G8 v1 v2 v3_38  hI e8 (lv_sub hl [1, 2, 3, 0] rfl) h
        · replace h := ite_t hc h
          refine lv_aload_n hx hb dX3_leftAsKnown_21 rfl (lv_at hl 0 rfl) ?_
          refine gf_X3_42 hx hb hts hown hKK hI hN dX3_leftAsKnown_22 ?_
          refine lv_iload_n hx hb dX3_leftAsKnown_25 rfl (lv_at hl 3 rfl) ?_
          obtain ⟨hin_, h⟩ := ck_e h
          refine la_23 hx hb hKK hI e8 (lc42 hN) (kc42 hk0) hin_ dX3_leftAsKnown_26 ?_
          refine lv_iload_n hx hb dX3_leftAsKnown_27 rfl (lv_at hl 2 rfl) ?_
          refine lv_icmp_gt (tgt := 38) hx hb dX3_leftAsKnown_28 (by decide) (fun hc => ?_) (fun hc => ?_)
          · replace h := ite_t hc h
            obtain ⟨v3_38, qq, h⟩ := bn_e h
            refine lv_iinc (v := v3_38) (lv' := [(3, .int v3_38), (0, .ref (HB.size + 32)), (1, .int v1), (2, .int v2)]) hx hb dX3_leftAsKnown_38 hl (k := 3) rfl (by rw [qq]; rfl) (by decide) rfl (fun ls hl => ?_)
            refine lv_goto (tgt := 7) hx hb dX3_leftAsKnown_41 (by decide) ?_
            exact hk7 H locs ls G8 v1 v2 v3_38  hI e8 (lv_sub hl [1, 2, 3, 0] rfl) h
          · replace h := ite_f hc h
            refine lv_aload_n hx hb dX3_leftAsKnown_31 rfl (lv_at hl 0 rfl) ?_
            refine gf_X3_45 hx hb hts hown hKK hI hN dX3_leftAsKnown_32 ?_
            refine lv_iload_n hx hb dX3_leftAsKnown_35 rfl (lv_at hl 3 rfl) ?_
            obtain ⟨hin_, h⟩ := ck_e h
            refine la_23 hx hb hKK hI e8 (lc43 hN) (kc43 hk0) hin_ dX3_leftAsKnown_36 ?_
            have hq := Option.some.inj h
            exact W.iret (v := (G8.1 43 v3.toNatClampNeg)) hx hb hr (fun t ht hW => qc_mk (congrArg (fun z => Outcome.returned (some (Value.int z))) hq) (by rw [ht]; exact hI.nil)) hI.2.2 dX3_leftAsKnown_37 hlocks
  show WX RM_X3_leftAsKnown p l e s m args below meth c HB (some (.int q)) (B_X3_leftAsKnown HB D y n κ σ q) s.heap [] (F0 m 0 ls [])
  generalize s.heap = H at hI ⊢
  unfold f_X3_leftAsKnown at h
  obtain ⟨locs, hlocs⟩ : ∃ x : List Loc, x = [] := ⟨_, rfl⟩
  rw [← hlocs] at hI ⊢
  refine lv_aload_n hx hb dX3_leftAsKnown_0 rfl (lv_at hl 0 rfl) ?_
  refine gt_X3_97 hx hb hts hown hKK hI e8 (lc32 hN) (kc32 hk0) dX3_leftAsKnown_1 ?_
  refine lv_iconst (v := 1) hx hb dX3_leftAsKnown_4 (by decide) ?_
  refine lv_isub hx hb dX3_leftAsKnown_5 ?_
  obtain ⟨v3_6, qq, h⟩ := bn_e h
  refine topi qq ?_
  refine lv_istore_n (lv' := [(3, .int v3_6), (0, .ref (HB.size + 32)), (1, .int v1), (2, .int v2)]) hx hb dX3_leftAsKnown_6 rfl hl (by decide) rfl (fun ls hl => ?_)
  exact b7  F H locs ls G8 v1 v2 v3_6  hI e8 (lv_sub hl [1, 2, 3, 0] rfl) h
