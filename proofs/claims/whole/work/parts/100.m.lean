noncomputable def f_X0_clear_l42b (F : Nat)  (k42 : Grp → Nat → Int32 → Option (Grp)) (G17 : Grp) (v0 : Nat) (v2 : Int32) : Option (Grp) :=
  if 36 ≤ v2 then some G17 else ck v2 36 (bn (gI G17 (v0 + 3) v2.toNatClampNeg (-1)) (fun G17_54 => bn (v2 + 1) (fun v2_55 => k42 G17_54 v0 v2_55)))
noncomputable def f_X0_clear_l42 (F : Nat)  (fu : Nat) : Grp → Nat → Int32 → Option (Grp) := Nat.rec (motive := fun _ => Grp → Nat → Int32 → Option (Grp)) (fun _ _ _ => none) (fun _ ih => f_X0_clear_l42b F  ih) fu
noncomputable def f_X0_clear_l21b (F : Nat)  (k21 : Grp → Nat → Int32 → Option (Grp)) (G17 : Grp) (v0 : Nat) (v2 : Int32) : Option (Grp) :=
  if 6 ≤ v2 then f_X0_clear_l42 F  F G17 v0 0 else ck v2 6 (bn (gI G17 (v0 + 1) v2.toNatClampNeg 0) (fun G17_33 => bn (v2 + 1) (fun v2_34 => k21 G17_33 v0 v2_34)))
noncomputable def f_X0_clear_l21 (F : Nat)  (fu : Nat) : Grp → Nat → Int32 → Option (Grp) := Nat.rec (motive := fun _ => Grp → Nat → Int32 → Option (Grp)) (fun _ _ _ => none) (fun _ ih => f_X0_clear_l21b F  ih) fu
noncomputable def f_X0_clear (F : Nat) (G17 : Grp) (v0 : Nat) (v1 : Int32) : Option (Grp) :=
  bn (gI G17 v0 2 (if 0 < (if 6 < v1 then 6 else v1) then (if 6 < v1 then 6 else v1) else 0)) (fun G17_11 => bn (gI G17_11 v0 5 0) (fun G17_16 => f_X0_clear_l21 F  F G17_16 v0 0))
def RM_X0_clear : Room := { frames := 1, cells := 0, slots := 0, locals := 40 }
abbrev W_X0_clear : List Nat := [17]
abbrev B_X0_clear (HB : Heap) (D : va_G) (y : Nat → ClassId) (n : Nat) (κ : Nat → Nat) (σ0 : St) (q : Grp) : Heap → Prop := fun H => ∃ σ : St, IV HB D y n n κ σ [] H ∧ σ 17 = q ∧ ∀ j, j ∉ W_X0_clear → σ j = σ0 j
set_option maxRecDepth 100000 in
set_option maxHeartbeats 4000000 in
theorem c_X0_clear (l : Launch) (HB : Heap) (D : va_G) (y : Nat → ClassId) (F n : Nat) (κ : Nat → Nat) (σ0 : St) (hN : N0 ≤ n) (v0 : Nat) (ha_v0 : v0 < n) (hk_v0 : κ v0 = 0) (v1 : Int32)  (G17 : Grp) (e17 : σ0 17 = G17) (q : Grp) (h : f_X0_clear F G17 v0 v1 = some q) : MT l HB D y yX0_clear cX0_clear 3 none RM_X0_clear [.ref (HB.size + v0), .int v1] (IV HB D y n n κ σ0 []) none (B_X0_clear HB D y n κ σ0 q) := by
  refine Met.ofW (cc := cX0_clear) (maxL := 3) (ret := none) (by decide) rfl ?_
  intro p e s m args below meth c s₁ BL hml hv
  obtain ⟨rfl, hI, hKK⟩ := hv
  have hx := BL.exec
  have hb := BL.bytes
  have hr := BL.returns
  have hts : ∀ w ∈ gtb, w.before _ s = true := fun w hw => atoms_spec BL.pre w (List.mem_cons_of_mem _ hw)
  have hml : c.maxLocals = 3 := hml
  have hown : s.vm.findClass RX0 = some m.cls := findClass_of_methodNamed BL.named
  have hlocks := BL.notSynchronized
  have hk0 := hI.1.2.2.2.2
  have hl := lv_entry ([.ref (HB.size + v0), .int v1]) (n := 3) (Nat.le_of_ble_eq_true rfl)
  rw [lg_entry_eq]
  generalize (lg_sl ([.ref (HB.size + v0), .int v1]) ++ List.replicate (3 - (lg_sl ([.ref (HB.size + v0), .int v1])).length) Slot.unset).toArray = ls at hl ⊢
  have hl : lv_has ls 3 [(0, .ref (HB.size + v0)), (1, .int v1)] := hl
  generalize hargs : ([.ref (HB.size + v0), .int v1] : List Value).toArray = args at *
  have b42 : ∀ (fu : Nat) (σ : St) (H : Heap) (locs : List Loc) (ls : Array Slot) (G17 : Grp) (v0 : Nat) (v2 : Int32) (ha_v0 : v0 < n) (hk_v0 : κ v0 = 0), IV HB D y n n κ σ locs H → σ 17 = G17 → (∀ j, j ∉ W_X0_clear → σ j = σ0 j) → lv_has ls 3 [(0, .ref (HB.size + v0)), (2, .int v2)] → f_X0_clear_l42 F  fu G17 v0 v2 = some q → WX RM_X0_clear p l e s m args below meth c HB none (B_X0_clear HB D y n κ σ0 q) H locs (F0 m 42 ls []) := by
    intro  fu
    induction fu with
    | zero =>
      intro σ H locs ls G17 v0 v2 ha_v0 hk_v0 hI e17 fr hl h
      exact absurd h (by intro h; cases h)
    | succ fu hk42 =>
      intro σ H locs ls G17 v0 v2 ha_v0 hk_v0 hI e17 fr hl h
      have h : f_X0_clear_l42b F  (f_X0_clear_l42 F  fu) G17 v0 v2 = some q := h
      generalize f_X0_clear_l42 F  fu = k42 at h hk42
      unfold f_X0_clear_l42b at h
      refine lv_iload_n hx hb dX0_clear_42 rfl (lv_at hl 1 rfl) ?_
      refine lv_bipush (v := 36) hx hb dX0_clear_43 (by decide) ?_
      refine lv_icmp_ge (tgt := 61) hx hb dX0_clear_45 (by decide) (fun hc => ?_) (fun hc => ?_)
      · replace h := ite_t hc h
        have hq := Option.some.inj h
        exact W.vret hx hb hr (fun t ht hW => qc_mk (rfl) (by rw [ht]; exact ⟨σ, hI.nil, e17.trans (congrArg (fun z => z) hq), fr⟩)) hI.2.2 dX0_clear_61 hlocks
      · replace h := ite_f hc h
        refine lv_aload_n hx hb dX0_clear_48 rfl (lv_at hl 0 rfl) ?_
        refine gf_X0_18 hx hb hts hown hKK hI ha_v0 hk_v0 dX0_clear_49 ?_
        refine lv_iload_n hx hb dX0_clear_52 rfl (lv_at hl 1 rfl) ?_
        refine lv_iconst (v := (-1)) hx hb dX0_clear_53 (by decide) ?_
        obtain ⟨hin_, h⟩ := ck_e h
        obtain ⟨G17_54, qq, h⟩ := bn_e h
        refine sa_33 hx hb hKK hI e17 (ownF hI ha_v0 hk_v0 2 rfl).2.1 (ownF hI ha_v0 hk_v0 2 rfl).2.2 hin_ dX0_clear_54 (fun σ H locs hI ew ho => ?_)
        have e17 := ew.trans qq.symm
        have fr := frs fr ho (by decide)
        obtain ⟨v2_55, qq, h⟩ := bn_e h
        refine lv_iinc (v := v2_55) (lv' := [(2, .int v2_55), (0, .ref (HB.size + v0))]) hx hb dX0_clear_55 hl (k := 1) rfl (by rw [qq]; rfl) (by decide) rfl (fun ls hl => ?_)
        refine lv_goto (tgt := 42) hx hb dX0_clear_58 (by decide) ?_
        exact hk42 σ H locs ls G17_54 v0 v2_55 ha_v0 hk_v0 hI e17 fr (lv_sub hl [1, 0] rfl) h
  have b21 : ∀ (fu : Nat) (σ : St) (H : Heap) (locs : List Loc) (ls : Array Slot) (G17 : Grp) (v0 : Nat) (v2 : Int32) (ha_v0 : v0 < n) (hk_v0 : κ v0 = 0), IV HB D y n n κ σ locs H → σ 17 = G17 → (∀ j, j ∉ W_X0_clear → σ j = σ0 j) → lv_has ls 3 [(0, .ref (HB.size + v0)), (2, .int v2)] → f_X0_clear_l21 F  fu G17 v0 v2 = some q → WX RM_X0_clear p l e s m args below meth c HB none (B_X0_clear HB D y n κ σ0 q) H locs (F0 m 21 ls []) := by
    intro  fu
    induction fu with
    | zero =>
      intro σ H locs ls G17 v0 v2 ha_v0 hk_v0 hI e17 fr hl h
      exact absurd h (by intro h; cases h)
    | succ fu hk21 =>
      intro σ H locs ls G17 v0 v2 ha_v0 hk_v0 hI e17 fr hl h
      have h : f_X0_clear_l21b F  (f_X0_clear_l21 F  fu) G17 v0 v2 = some q := h
      generalize f_X0_clear_l21 F  fu = k21 at h hk21
      unfold f_X0_clear_l21b at h
      refine lv_iload_n hx hb dX0_clear_21 rfl (lv_at hl 1 rfl) ?_
      refine lv_bipush (v := 6) hx hb dX0_clear_22 (by decide) ?_
      refine lv_icmp_ge (tgt := 40) hx hb dX0_clear_24 (by decide) (fun hc => ?_) (fun hc => ?_)
      · replace h := ite_t hc h
        refine lv_iconst (v := 0) hx hb dX0_clear_40 (by decide) ?_
        refine lv_istore_n (lv' := [(2, .int 0), (0, .ref (HB.size + v0))]) hx hb dX0_clear_41 rfl hl (by decide) rfl (fun ls hl => ?_)
        exact b42  F σ H locs ls G17 v0 0 ha_v0 hk_v0 hI e17 fr (lv_sub hl [1, 0] rfl) h
      · replace h := ite_f hc h
        refine lv_aload_n hx hb dX0_clear_27 rfl (lv_at hl 0 rfl) ?_
        refine gf_X0_9 hx hb hts hown hKK hI ha_v0 hk_v0 dX0_clear_28 ?_
        refine lv_iload_n hx hb dX0_clear_31 rfl (lv_at hl 1 rfl) ?_
        refine lv_iconst (v := 0) hx hb dX0_clear_32 (by decide) ?_
        obtain ⟨hin_, h⟩ := ck_e h
        obtain ⟨G17_33, qq, h⟩ := bn_e h
        refine sa_32 hx hb hKK hI e17 (ownF hI ha_v0 hk_v0 0 rfl).2.1 (ownF hI ha_v0 hk_v0 0 rfl).2.2 hin_ dX0_clear_33 (fun σ H locs hI ew ho => ?_)
        have e17 := ew.trans qq.symm
        have fr := frs fr ho (by decide)
        obtain ⟨v2_34, qq, h⟩ := bn_e h
        refine lv_iinc (v := v2_34) (lv' := [(2, .int v2_34), (0, .ref (HB.size + v0))]) hx hb dX0_clear_34 hl (k := 1) rfl (by rw [qq]; rfl) (by decide) rfl (fun ls hl => ?_)
        refine lv_goto (tgt := 21) hx hb dX0_clear_37 (by decide) ?_
        exact hk21 σ H locs ls G17_33 v0 v2_34 ha_v0 hk_v0 hI e17 fr (lv_sub hl [1, 0] rfl) h
  obtain ⟨σ, hI, e17, fr⟩ : ∃ σ : St, IV HB D y n n κ σ [] s.heap ∧ σ 17 = G17 ∧ ∀ j, j ∉ W_X0_clear → σ j = σ0 j := ⟨σ0, hI, e17, fun _ _ => rfl⟩
  show WX RM_X0_clear p l e s m args below meth c HB none (B_X0_clear HB D y n κ σ0 q) s.heap [] (F0 m 0 ls [])
  generalize s.heap = H at hI ⊢
  unfold f_X0_clear at h
  obtain ⟨locs, hlocs⟩ : ∃ x : List Loc, x = [] := ⟨_, rfl⟩
  rw [← hlocs] at hI ⊢
  refine lv_aload_n hx hb dX0_clear_0 rfl (lv_at hl 0 rfl) ?_
  refine lv_iconst (v := 0) hx hb dX0_clear_1 (by decide) ?_
  refine lv_iload_n hx hb dX0_clear_2 rfl (lv_at hl 1 rfl) ?_
  refine lv_bipush (v := 6) hx hb dX0_clear_3 (by decide) ?_
  refine va_mmin hx hb (by rw [hl.1]; exact hml) hown (hts _ lm_X0_24) (hts _ mw_min.1) (hts _ mw_ini) (hts _ mw_min.2) (Nat.le_of_ble_eq_true rfl) (Nat.le_of_ble_eq_true rfl) (Nat.zero_le _) (Nat.zero_le _) dX0_clear_5 ?_
  refine va_mmax hx hb (by rw [hl.1]; exact hml) hown (hts _ lm_X0_30) (hts _ mw_max.1) (hts _ mw_ini) (hts _ mw_max.2) (Nat.le_of_ble_eq_true rfl) (Nat.le_of_ble_eq_true rfl) (Nat.zero_le _) (Nat.zero_le _) dX0_clear_8 ?_
  obtain ⟨G17_11, qq, h⟩ := bn_e h
  refine pt_X0_33 hx hb hts hown hKK hI e17 ha_v0 hk_v0 dX0_clear_11 (fun σ H locs hI ew ho => ?_)
  have e17 := ew.trans qq.symm
  have fr := frs fr ho (by decide)
  refine lv_aload_n hx hb dX0_clear_14 rfl (lv_at hl 0 rfl) ?_
  refine lv_iconst (v := 0) hx hb dX0_clear_15 (by decide) ?_
  obtain ⟨G17_16, qq, h⟩ := bn_e h
  refine pt_X0_37 hx hb hts hown hKK hI e17 ha_v0 hk_v0 dX0_clear_16 (fun σ H locs hI ew ho => ?_)
  have e17 := ew.trans qq.symm
  have fr := frs fr ho (by decide)
  refine lv_iconst (v := 0) hx hb dX0_clear_19 (by decide) ?_
  refine lv_istore_n (lv' := [(2, .int 0), (0, .ref (HB.size + v0)), (1, .int v1)]) hx hb dX0_clear_20 rfl hl (by decide) rfl (fun ls hl => ?_)
  exact b21  F σ H locs ls G17_16 v0 0 ha_v0 hk_v0 hI e17 fr (lv_sub hl [1, 0] rfl) h
noncomputable def f_X0_allow (F : Nat) (G17 : Grp) (v0 : Nat) (v1 : Int32) (v2 : Int32) (v3 : Int32) : Option (Grp) :=
  ck ((6 * v1) + v2) 36 (bn (gI G17 (v0 + 3) ((6 * v1) + v2).toNatClampNeg v3) (fun G17_11 => bn (gI G17_11 v0 5 (if (G17_11.1 v0 5) < v3 then v3 else (G17_11.1 v0 5))) (fun G17_21 => some G17_21)))
def RM_X0_allow : Room := { frames := 1, cells := 0, slots := 0, locals := 40 }
abbrev W_X0_allow : List Nat := [17]
abbrev B_X0_allow (HB : Heap) (D : va_G) (y : Nat → ClassId) (n : Nat) (κ : Nat → Nat) (σ0 : St) (q : Grp) : Heap → Prop := fun H => ∃ σ : St, IV HB D y n n κ σ [] H ∧ σ 17 = q ∧ ∀ j, j ∉ W_X0_allow → σ j = σ0 j
set_option maxRecDepth 100000 in
set_option maxHeartbeats 4000000 in
theorem c_X0_allow (l : Launch) (HB : Heap) (D : va_G) (y : Nat → ClassId) (F n : Nat) (κ : Nat → Nat) (σ0 : St) (hN : N0 ≤ n) (v0 : Nat) (ha_v0 : v0 < n) (hk_v0 : κ v0 = 0) (v1 : Int32)  (v2 : Int32)  (v3 : Int32)  (G17 : Grp) (e17 : σ0 17 = G17) (q : Grp) (h : f_X0_allow F G17 v0 v1 v2 v3 = some q) : MT l HB D y yX0_allow cX0_allow 4 none RM_X0_allow [.ref (HB.size + v0), .int v1, .int v2, .int v3] (IV HB D y n n κ σ0 []) none (B_X0_allow HB D y n κ σ0 q) := by
  refine Met.ofW (cc := cX0_allow) (maxL := 4) (ret := none) (by decide) rfl ?_
  intro p e s m args below meth c s₁ BL hml hv
  obtain ⟨rfl, hI, hKK⟩ := hv
  have hx := BL.exec
  have hb := BL.bytes
  have hr := BL.returns
  have hts : ∀ w ∈ gtb, w.before _ s = true := fun w hw => atoms_spec BL.pre w (List.mem_cons_of_mem _ hw)
  have hml : c.maxLocals = 4 := hml
  have hown : s.vm.findClass RX0 = some m.cls := findClass_of_methodNamed BL.named
  have hlocks := BL.notSynchronized
  have hk0 := hI.1.2.2.2.2
  have hl := lv_entry ([.ref (HB.size + v0), .int v1, .int v2, .int v3]) (n := 4) (Nat.le_of_ble_eq_true rfl)
  rw [lg_entry_eq]
  generalize (lg_sl ([.ref (HB.size + v0), .int v1, .int v2, .int v3]) ++ List.replicate (4 - (lg_sl ([.ref (HB.size + v0), .int v1, .int v2, .int v3])).length) Slot.unset).toArray = ls at hl ⊢
  have hl : lv_has ls 4 [(0, .ref (HB.size + v0)), (1, .int v1), (2, .int v2), (3, .int v3)] := hl
  generalize hargs : ([.ref (HB.size + v0), .int v1, .int v2, .int v3] : List Value).toArray = args at *
  obtain ⟨σ, hI, e17, fr⟩ : ∃ σ : St, IV HB D y n n κ σ [] s.heap ∧ σ 17 = G17 ∧ ∀ j, j ∉ W_X0_allow → σ j = σ0 j := ⟨σ0, hI, e17, fun _ _ => rfl⟩
  show WX RM_X0_allow p l e s m args below meth c HB none (B_X0_allow HB D y n κ σ0 q) s.heap [] (F0 m 0 ls [])
  generalize s.heap = H at hI ⊢
  unfold f_X0_allow at h
  obtain ⟨locs, hlocs⟩ : ∃ x : List Loc, x = [] := ⟨_, rfl⟩
  rw [← hlocs] at hI ⊢
  refine lv_aload_n hx hb dX0_allow_0 rfl (lv_at hl 0 rfl) ?_
  refine gf_X0_18 hx hb hts hown hKK hI ha_v0 hk_v0 dX0_allow_1 ?_
  refine lv_bipush (v := 6) hx hb dX0_allow_4 (by decide) ?_
  refine lv_iload_n hx hb dX0_allow_6 rfl (lv_at hl 1 rfl) ?_
  refine lv_imul hx hb dX0_allow_7 ?_
  refine lv_iload_n hx hb dX0_allow_8 rfl (lv_at hl 2 rfl) ?_
  refine lv_iadd hx hb dX0_allow_9 ?_
  refine lv_iload_n hx hb dX0_allow_10 rfl (lv_at hl 3 rfl) ?_
  obtain ⟨hin_, h⟩ := ck_e h
  obtain ⟨G17_11, qq, h⟩ := bn_e h
  refine sa_33 hx hb hKK hI e17 (ownF hI ha_v0 hk_v0 2 rfl).2.1 (ownF hI ha_v0 hk_v0 2 rfl).2.2 hin_ dX0_allow_11 (fun σ H locs hI ew ho => ?_)
  have e17 := ew.trans qq.symm
  have fr := frs fr ho (by decide)
  refine lv_aload_n hx hb dX0_allow_12 rfl (lv_at hl 0 rfl) ?_
  refine lv_aload_n hx hb dX0_allow_13 rfl (lv_at hl 0 rfl) ?_
  refine gt_X0_37 hx hb hts hown hKK hI e17 ha_v0 hk_v0 dX0_allow_14 ?_
  refine lv_iload_n hx hb dX0_allow_17 rfl (lv_at hl 3 rfl) ?_
  refine va_mmax hx hb (by rw [hl.1]; exact hml) hown (hts _ lm_X0_30) (hts _ mw_max.1) (hts _ mw_ini) (hts _ mw_max.2) (Nat.le_of_ble_eq_true rfl) (Nat.le_of_ble_eq_true rfl) (Nat.zero_le _) (Nat.zero_le _) dX0_allow_18 ?_
  obtain ⟨G17_21, qq, h⟩ := bn_e h
  refine pt_X0_37 hx hb hts hown hKK hI e17 ha_v0 hk_v0 dX0_allow_21 (fun σ H locs hI ew ho => ?_)
  have e17 := ew.trans qq.symm
  have fr := frs fr ho (by decide)
  have hq := Option.some.inj h
  exact W.vret hx hb hr (fun t ht hW => qc_mk (rfl) (by rw [ht]; exact ⟨σ, hI.nil, e17.trans (congrArg (fun z => z) hq), fr⟩)) hI.2.2 dX0_allow_24 hlocks
noncomputable def f_X0_keepWay (F : Nat) (G17 : Grp) (v0 : Nat) (v1 : Int32) (v2 : Int32) : Option (Grp) :=
  bn (gI G17 v0 6 v1) (fun G17_2 => bn (gI G17_2 v0 7 v2) (fun G17_7 => cy 0 0 (G17_7.1 v0 2) 6 (bn (gC G17_7 (v0 + 2) (va_cpy (G17_7.1 (v0 + 4)) (G17_7.1 (v0 + 2)) (0 : Int32).toNatClampNeg (0 : Int32).toNatClampNeg (G17_7.1 v0 2).toNatClampNeg)) (fun G17_24 => some G17_24))))
def RM_X0_keepWay : Room := { frames := 1, cells := 0, slots := 0, locals := 60 }
abbrev W_X0_keepWay : List Nat := [17]
abbrev B_X0_keepWay (HB : Heap) (D : va_G) (y : Nat → ClassId) (n : Nat) (κ : Nat → Nat) (σ0 : St) (q : Grp) : Heap → Prop := fun H => ∃ σ : St, IV HB D y n n κ σ [] H ∧ σ 17 = q ∧ ∀ j, j ∉ W_X0_keepWay → σ j = σ0 j
set_option maxRecDepth 100000 in
set_option maxHeartbeats 4000000 in
theorem c_X0_keepWay (l : Launch) (HB : Heap) (D : va_G) (y : Nat → ClassId) (F n : Nat) (κ : Nat → Nat) (σ0 : St) (hN : N0 ≤ n) (v0 : Nat) (ha_v0 : v0 < n) (hk_v0 : κ v0 = 0) (v1 : Int32)  (v2 : Int32)  (G17 : Grp) (e17 : σ0 17 = G17) (q : Grp) (h : f_X0_keepWay F G17 v0 v1 v2 = some q) : MT l HB D y yX0_keepWay cX0_keepWay 3 none RM_X0_keepWay [.ref (HB.size + v0), .int v1, .int v2] (IV HB D y n n κ σ0 []) none (B_X0_keepWay HB D y n κ σ0 q) := by
  refine Met.ofW (cc := cX0_keepWay) (maxL := 3) (ret := none) (by decide) rfl ?_
  intro p e s m args below meth c s₁ BL hml hv
  obtain ⟨rfl, hI, hKK⟩ := hv
  have hx := BL.exec
  have hb := BL.bytes
  have hr := BL.returns
  have hts : ∀ w ∈ gtb, w.before _ s = true := fun w hw => atoms_spec BL.pre w (List.mem_cons_of_mem _ hw)
  have hml : c.maxLocals = 3 := hml
  have hown : s.vm.findClass RX0 = some m.cls := findClass_of_methodNamed BL.named
  have hlocks := BL.notSynchronized
  have hk0 := hI.1.2.2.2.2
  have hl := lv_entry ([.ref (HB.size + v0), .int v1, .int v2]) (n := 3) (Nat.le_of_ble_eq_true rfl)
  rw [lg_entry_eq]
  generalize (lg_sl ([.ref (HB.size + v0), .int v1, .int v2]) ++ List.replicate (3 - (lg_sl ([.ref (HB.size + v0), .int v1, .int v2])).length) Slot.unset).toArray = ls at hl ⊢
  have hl : lv_has ls 3 [(0, .ref (HB.size + v0)), (1, .int v1), (2, .int v2)] := hl
  generalize hargs : ([.ref (HB.size + v0), .int v1, .int v2] : List Value).toArray = args at *
  obtain ⟨σ, hI, e17, fr⟩ : ∃ σ : St, IV HB D y n n κ σ [] s.heap ∧ σ 17 = G17 ∧ ∀ j, j ∉ W_X0_keepWay → σ j = σ0 j := ⟨σ0, hI, e17, fun _ _ => rfl⟩
  show WX RM_X0_keepWay p l e s m args below meth c HB none (B_X0_keepWay HB D y n κ σ0 q) s.heap [] (F0 m 0 ls [])
  generalize s.heap = H at hI ⊢
  unfold f_X0_keepWay at h
  obtain ⟨locs, hlocs⟩ : ∃ x : List Loc, x = [] := ⟨_, rfl⟩
  rw [← hlocs] at hI ⊢
  refine lv_aload_n hx hb dX0_keepWay_0 rfl (lv_at hl 0 rfl) ?_
  refine lv_iload_n hx hb dX0_keepWay_1 rfl (lv_at hl 1 rfl) ?_
  obtain ⟨G17_2, qq, h⟩ := bn_e h
  refine pt_X0_40 hx hb hts hown hKK hI e17 ha_v0 hk_v0 dX0_keepWay_2 (fun σ H locs hI ew ho => ?_)
  have e17 := ew.trans qq.symm
  have fr := frs fr ho (by decide)
  refine lv_aload_n hx hb dX0_keepWay_5 rfl (lv_at hl 0 rfl) ?_
  refine lv_iload_n hx hb dX0_keepWay_6 rfl (lv_at hl 2 rfl) ?_
  obtain ⟨G17_7, qq, h⟩ := bn_e h
  refine pt_X0_43 hx hb hts hown hKK hI e17 ha_v0 hk_v0 dX0_keepWay_7 (fun σ H locs hI ew ho => ?_)
  have e17 := ew.trans qq.symm
  have fr := frs fr ho (by decide)
  refine lv_aload_n hx hb dX0_keepWay_10 rfl (lv_at hl 0 rfl) ?_
  refine gf_X0_21 hx hb hts hown hKK hI ha_v0 hk_v0 dX0_keepWay_11 ?_
  refine lv_iconst (v := 0) hx hb dX0_keepWay_14 (by decide) ?_
  refine lv_aload_n hx hb dX0_keepWay_15 rfl (lv_at hl 0 rfl) ?_
  refine gf_X0_15 hx hb hts hown hKK hI ha_v0 hk_v0 dX0_keepWay_16 ?_
  refine lv_iconst (v := 0) hx hb dX0_keepWay_19 (by decide) ?_
  refine lv_aload_n hx hb dX0_keepWay_20 rfl (lv_at hl 0 rfl) ?_
  refine gt_X0_33 hx hb hts hown hKK hI e17 ha_v0 hk_v0 dX0_keepWay_21 ?_
  obtain ⟨hcy, h⟩ := cy_e h
  obtain ⟨G17_24, qq, h⟩ := bn_e h
  refine r_acopy hx hb (by rw [hl.1]; exact hml) hts hown hKK hI (kd := 32) (g := 17) (L := 6) (fun _ _ _ => rfl) e17 (ownF hI ha_v0 hk_v0 3 rfl).2.1 (ownF hI ha_v0 hk_v0 3 rfl).2.2 (ownF hI ha_v0 hk_v0 1 rfl).2.1 (ownF hI ha_v0 hk_v0 1 rfl).2.2 hcy (gtb_t 927 (by decide +kernel) (by decide +kernel)) (Nat.le_of_ble_eq_true rfl) (Nat.le_of_ble_eq_true rfl) dX0_keepWay_24 (fun σ H locs hI ew ho => ?_)
  have e17 := ew.trans qq.symm
  have fr := frs fr ho (by decide)
  have hq := Option.some.inj h
  exact W.vret hx hb hr (fun t ht hW => qc_mk (rfl) (by rw [ht]; exact ⟨σ, hI.nil, e17.trans (congrArg (fun z => z) hq), fr⟩)) hI.2.2 dX0_keepWay_27 hlocks
noncomputable def f_X0_tryRows_l64b (F : Nat) (rc : Grp → Nat → Int32 → Int32 → Int32 → Option (Grp))  (k64 : Grp → Nat → Int32 → Int32 → Int32 → Int32 → Option (Grp)) (G17 : Grp) (v0 : Nat) (v1 : Int32) (v2 : Int32) (v3 : Int32) (v6 : Int32) : Option (Grp) :=
  if 6 ≤ v6 then ck v1 6 (bn (gI G17 (v0 + 4) v1.toNatClampNeg 6) (fun G17_158 => ob (rc G17_158 v0 (v1 + 1) v2 v3) (fun q_165 => some q_165))) else ck ((6 * v1) + v6) 36 (bn ((G17.1 (v0 + 3) ((6 * v1) + v6).toNatClampNeg)) (fun v7_83 => if v7_83 = (-1) then bn (v6 + 1) (fun v6_145 => k64 G17 v0 v1 v2 v3 v6_145) else ck v6 6 (if (G17.1 (v0 + 1) v6.toNatClampNeg) ≤ 0 then bn (v6 + 1) (fun v6_145 => k64 G17 v0 v1 v2 v3 v6_145) else ck v6 6 (ck v6 6 (bn (gI G17 (v0 + 1) v6.toNatClampNeg ((G17.1 (v0 + 1) v6.toNatClampNeg) - 1)) (fun G17_111 => ck v1 6 (bn (gI G17_111 (v0 + 4) v1.toNatClampNeg v6) (fun G17_119 => ob (rc G17_119 v0 (v1 + 1) (v2 + 1) (v3 + v7_83)) (fun q_131 => ck v6 6 (ck v6 6 (bn (gI q_131 (v0 + 1) v6.toNatClampNeg ((q_131.1 (v0 + 1) v6.toNatClampNeg) + 1)) (fun G17_144 => bn (v6 + 1) (fun v6_145 => k64 G17_144 v0 v1 v2 v3 v6_145)))))))))))))
noncomputable def f_X0_tryRows_l64 (F : Nat) (rc : Grp → Nat → Int32 → Int32 → Int32 → Option (Grp))  (fu : Nat) : Grp → Nat → Int32 → Int32 → Int32 → Int32 → Option (Grp) := Nat.rec (motive := fun _ => Grp → Nat → Int32 → Int32 → Int32 → Int32 → Option (Grp)) (fun _ _ _ _ _ _ => none) (fun _ ih => f_X0_tryRows_l64b F rc  ih) fu
noncomputable def f_X0_tryRows_b49 (F : Nat) (rc : Grp → Nat → Int32 → Int32 → Int32 → Option (Grp))  (G17 : Grp) (v0 : Nat) (v1 : Int32) (v2 : Int32) (v3 : Int32) (v4 : Int32) : Option (Grp) :=
  if 0 < v4 then f_X0_tryRows_l64 F rc  F G17 v0 v1 v2 v3 0 else ob (f_X0_keepWay F G17 v0 v2 v3) (fun q_57 => some q_57)
noncomputable def f_X0_tryRows_r (F : Nat) (rc : Grp → Nat → Int32 → Int32 → Int32 → Option (Grp)) (G17 : Grp) (v0 : Nat) (v1 : Int32) (v2 : Int32) (v3 : Int32) : Option (Grp) :=
  bn (((G17.1 v0 2) - v1)) (fun v4_6 => bn ((v2 + v4_6)) (fun v5_12 => if v5_12 < (G17.1 v0 6) then some G17 else if v5_12 = (G17.1 v0 6) then if (G17.1 v0 7) < (v3 + (v4_6 * (G17.1 v0 5))) then f_X0_tryRows_b49 F rc  G17 v0 v1 v2 v3 v4_6 else some G17 else f_X0_tryRows_b49 F rc  G17 v0 v1 v2 v3 v4_6))
noncomputable def f_X0_tryRows (F : Nat) (d : Nat) : Grp → Nat → Int32 → Int32 → Int32 → Option (Grp) := Nat.rec (motive := fun _ => Grp → Nat → Int32 → Int32 → Int32 → Option (Grp)) (fun _ _ _ _ _ => none) (fun _ rc => f_X0_tryRows_r F rc) d
def RM_X0_tryRows (d : Nat) : Room := { frames := d + 1, cells := 0, slots := 0, locals := (d + 1) * 27 + 100 }
abbrev W_X0_tryRows : List Nat := [17]
abbrev B_X0_tryRows (HB : Heap) (D : va_G) (y : Nat → ClassId) (n : Nat) (κ : Nat → Nat) (σ0 : St) (q : Grp) : Heap → Prop := fun H => ∃ σ : St, IV HB D y n n κ σ [] H ∧ σ 17 = q ∧ ∀ j, j ∉ W_X0_tryRows → σ j = σ0 j
set_option maxRecDepth 100000 in
set_option maxHeartbeats 4000000 in
theorem c_X0_tryRows (l : Launch) (HB : Heap) (D : va_G) (y : Nat → ClassId) (F n : Nat) (κ : Nat → Nat) (d : Nat) : ∀ (σ0 : St) (hN : N0 ≤ n) (v0 : Nat) (ha_v0 : v0 < n) (hk_v0 : κ v0 = 0) (v1 : Int32)  (v2 : Int32)  (v3 : Int32)  (G17 : Grp) (e17 : σ0 17 = G17) (q : Grp) (h : f_X0_tryRows F d G17 v0 v1 v2 v3 = some q), MT l HB D y yX0_tryRows cX0_tryRows 8 none (RM_X0_tryRows d) [.ref (HB.size + v0), .int v1, .int v2, .int v3] (IV HB D y n n κ σ0 []) none (B_X0_tryRows HB D y n κ σ0 q) := by
  induction d with
  | zero => intro σ0 hN v0 ha_v0 hk_v0 v1 v2 v3 G17 e17 q h; exact absurd h (by intro h; cases h)
  | succ d ih =>
  intro σ0 hN v0 ha_v0 hk_v0 v1 v2 v3 G17 e17 q h
  have h : f_X0_tryRows_r F (f_X0_tryRows F d) G17 v0 v1 v2 v3 = some q := h
  have ih := fun σ => ih σ hN
  generalize f_X0_tryRows F d = rc at h ih
  refine Met.ofW (cc := cX0_tryRows) (maxL := 8) (ret := none) (by decide) rfl ?_
  intro p e s m args below meth c s₁ BL hml hv
  obtain ⟨rfl, hI, hKK⟩ := hv
  have hx := BL.exec
  have hb := BL.bytes
  have hr := BL.returns
  have hts : ∀ w ∈ gtb, w.before _ s = true := fun w hw => atoms_spec BL.pre w (List.mem_cons_of_mem _ hw)
  have hml : c.maxLocals = 8 := hml
  have hown : s.vm.findClass RX0 = some m.cls := findClass_of_methodNamed BL.named
  have hlocks := BL.notSynchronized
  have hk0 := hI.1.2.2.2.2
  have hl := lv_entry ([.ref (HB.size + v0), .int v1, .int v2, .int v3]) (n := 8) (Nat.le_of_ble_eq_true rfl)
  rw [lg_entry_eq]
  generalize (lg_sl ([.ref (HB.size + v0), .int v1, .int v2, .int v3]) ++ List.replicate (8 - (lg_sl ([.ref (HB.size + v0), .int v1, .int v2, .int v3])).length) Slot.unset).toArray = ls at hl ⊢
  have hl : lv_has ls 8 [(0, .ref (HB.size + v0)), (1, .int v1), (2, .int v2), (3, .int v3)] := hl
  generalize hargs : ([.ref (HB.size + v0), .int v1, .int v2, .int v3] : List Value).toArray = args at *
  have b64 : ∀ (fu : Nat) (σ : St) (H : Heap) (locs : List Loc) (ls : Array Slot) (G17 : Grp) (v0 : Nat) (v1 : Int32) (v2 : Int32) (v3 : Int32) (v6 : Int32) (ha_v0 : v0 < n) (hk_v0 : κ v0 = 0), IV HB D y n n κ σ locs H → σ 17 = G17 → (∀ j, j ∉ W_X0_tryRows → σ j = σ0 j) → lv_has ls 8 [(0, .ref (HB.size + v0)), (1, .int v1), (2, .int v2), (3, .int v3), (6, .int v6)] → f_X0_tryRows_l64 F rc  fu G17 v0 v1 v2 v3 v6 = some q → WX (RM_X0_tryRows (d + 1)) p l e s m args below meth c HB none (B_X0_tryRows HB D y n κ σ0 q) H locs (F0 m 64 ls []) := by
    intro  fu
    induction fu with
    | zero =>
      intro σ H locs ls G17 v0 v1 v2 v3 v6 ha_v0 hk_v0 hI e17 fr hl h
      exact absurd h (by intro h; cases h)
    | succ fu hk64 =>
      intro σ H locs ls G17 v0 v1 v2 v3 v6 ha_v0 hk_v0 hI e17 fr hl h
      have h : f_X0_tryRows_l64b F rc  (f_X0_tryRows_l64 F rc  fu) G17 v0 v1 v2 v3 v6 = some q := h
      generalize f_X0_tryRows_l64 F rc  fu = k64 at h hk64
      unfold f_X0_tryRows_l64b at h
      refine lv_iload hx hb dX0_tryRows_64 (lv_at hl 4 rfl) ?_
      refine lv_bipush (v := 6) hx hb dX0_tryRows_66 (by decide) ?_
      refine lv_icmp_ge (tgt := 151) hx hb dX0_tryRows_68 (by decide) (fun hc => ?_) (fun hc => ?_)
      · replace h := ite_t hc h
        refine lv_aload_n hx hb dX0_tryRows_151 rfl (lv_at hl 0 rfl) ?_
        refine gf_X0_21 hx hb hts hown hKK hI ha_v0 hk_v0 dX0_tryRows_152 ?_
        refine lv_iload_n hx hb dX0_tryRows_155 rfl (lv_at hl 1 rfl) ?_
        refine lv_bipush (v := 6) hx hb dX0_tryRows_156 (by decide) ?_
        obtain ⟨hin_, h⟩ := ck_e h
        obtain ⟨G17_158, qq, h⟩ := bn_e h
        refine sa_32 hx hb hKK hI e17 (ownF hI ha_v0 hk_v0 3 rfl).2.1 (ownF hI ha_v0 hk_v0 3 rfl).2.2 hin_ dX0_tryRows_158 (fun σ H locs hI ew ho => ?_)
        have e17 := ew.trans qq.symm
        have fr := frs fr ho (by decide)
        refine lv_aload_n hx hb dX0_tryRows_159 rfl (lv_at hl 0 rfl) ?_
        refine lv_iload_n hx hb dX0_tryRows_160 rfl (lv_at hl 1 rfl) ?_
        refine lv_iconst (v := 1) hx hb dX0_tryRows_161 (by decide) ?_
        refine lv_iadd hx hb dX0_tryRows_162 ?_
        refine lv_iload_n hx hb dX0_tryRows_163 rfl (lv_at hl 2 rfl) ?_
        refine lv_iload_n hx hb dX0_tryRows_164 rfl (lv_at hl 3 rfl) ?_
        obtain ⟨q_165, hq_165, h⟩ := ob_e h
        refine r_callS (As := [.ref (HB.size + v0), .int (v1 + 1), .int v2, .int v3]) (rest := []) hx hb hml hts hown (ih σ v0 ha_v0 hk_v0 (v1 + 1) v2 v3 G17_158 e17 q_165 hq_165) cal_X0_tryRows st_X0_tryRows lm_X0_46 ⟨Nat.le_refl _, by simp only [RM_X0_tryRows, headSpec]; omega⟩ hI.nil hKK rfl hl.1 hI.2.2 rfl (Nat.le_of_ble_eq_true rfl) dX0_tryRows_165 ⟨Nat.le_of_ble_eq_true rfl, Nat.le_of_ble_eq_true rfl⟩ rfl rfl rfl (fun H locs hB hlo => ?_)
        obtain ⟨σ, hB, en17, ho⟩ := hB
        have hI := hB.re hlo
        have e17 := en17
        have fr := frc fr ho (by decide)
        have hq := Option.some.inj h
        exact W.vret hx hb hr (fun t ht hW => qc_mk (rfl) (by rw [ht]; exact ⟨σ, hI.nil, e17.trans (congrArg (fun z => z) hq), fr⟩)) hI.2.2 dX0_tryRows_168 hlocks
      · replace h := ite_f hc h
        refine lv_aload_n hx hb dX0_tryRows_71 rfl (lv_at hl 0 rfl) ?_
        refine gf_X0_18 hx hb hts hown hKK hI ha_v0 hk_v0 dX0_tryRows_72 ?_
        refine lv_bipush (v := 6) hx hb dX0_tryRows_75 (by decide) ?_
        refine lv_iload_n hx hb dX0_tryRows_77 rfl (lv_at hl 1 rfl) ?_
        refine lv_imul hx hb dX0_tryRows_78 ?_
        refine lv_iload hx hb dX0_tryRows_79 (lv_at hl 4 rfl) ?_
        refine lv_iadd hx hb dX0_tryRows_81 ?_
        obtain ⟨hin_, h⟩ := ck_e h
        refine la_33 hx hb hKK hI e17 (ownF hI ha_v0 hk_v0 2 rfl).2.1 (ownF hI ha_v0 hk_v0 2 rfl).2.2 hin_ dX0_tryRows_82 ?_
        obtain ⟨v7_83, qq, h⟩ := bn_e h
        refine topi qq ?_
        refine lv_istore (lv' := [(7, .int v7_83), (0, .ref (HB.size + v0)), (1, .int v1), (2, .int v2), (3, .int v3), (6, .int v6)]) hx hb dX0_tryRows_83 hl (by decide) rfl (fun ls hl => ?_)
        refine lv_iload hx hb dX0_tryRows_85 (lv_at hl 0 rfl) ?_
        refine lv_iconst (v := (-1)) hx hb dX0_tryRows_87 (by decide) ?_
        refine lv_icmp_eq (tgt := 145) hx hb dX0_tryRows_88 (by decide) (fun hc => ?_) (fun hc => ?_)
        · replace h := ite_t hc h
          obtain ⟨v6_145, qq, h⟩ := bn_e h
          refine lv_iinc (v := v6_145) (lv' := [(6, .int v6_145), (7, .int v7_83), (0, .ref (HB.size + v0)), (1, .int v1), (2, .int v2), (3, .int v3)]) hx hb dX0_tryRows_145 hl (k := 5) rfl (by rw [qq]; rfl) (by decide) rfl (fun ls hl => ?_)
          refine lv_goto (tgt := 64) hx hb dX0_tryRows_148 (by decide) ?_
          exact hk64 σ H locs ls G17 v0 v1 v2 v3 v6_145 ha_v0 hk_v0 hI e17 fr (lv_sub hl [2, 3, 4, 5, 0] rfl) h
        · replace h := ite_f hc h
          refine lv_aload_n hx hb dX0_tryRows_91 rfl (lv_at hl 1 rfl) ?_
          refine gf_X0_9 hx hb hts hown hKK hI ha_v0 hk_v0 dX0_tryRows_92 ?_
          refine lv_iload hx hb dX0_tryRows_95 (lv_at hl 5 rfl) ?_
          obtain ⟨hin_, h⟩ := ck_e h
          refine la_32 hx hb hKK hI e17 (ownF hI ha_v0 hk_v0 0 rfl).2.1 (ownF hI ha_v0 hk_v0 0 rfl).2.2 hin_ dX0_tryRows_97 ?_
          refine lv_if_le (tgt := 145) hx hb dX0_tryRows_98 (by decide) (fun hc => ?_) (fun hc => ?_)
          · replace h := ite_t hc h
            obtain ⟨v6_145, qq, h⟩ := bn_e h
            refine lv_iinc (v := v6_145) (lv' := [(6, .int v6_145), (7, .int v7_83), (0, .ref (HB.size + v0)), (1, .int v1), (2, .int v2), (3, .int v3)]) hx hb dX0_tryRows_145 hl (k := 5) rfl (by rw [qq]; rfl) (by decide) rfl (fun ls hl => ?_)
            refine lv_goto (tgt := 64) hx hb dX0_tryRows_148 (by decide) ?_
            exact hk64 σ H locs ls G17 v0 v1 v2 v3 v6_145 ha_v0 hk_v0 hI e17 fr (lv_sub hl [2, 3, 4, 5, 0] rfl) h
          · replace h := ite_f hc h
            refine lv_aload_n hx hb dX0_tryRows_101 rfl (lv_at hl 1 rfl) ?_
            refine gf_X0_9 hx hb hts hown hKK hI ha_v0 hk_v0 dX0_tryRows_102 ?_
            refine lv_iload hx hb dX0_tryRows_105 (lv_at hl 5 rfl) ?_
            refine lv_dup2_11 hx hb dX0_tryRows_107 rfl rfl ?_
            obtain ⟨hin_, h⟩ := ck_e h
            refine la_32 hx hb hKK hI e17 (ownF hI ha_v0 hk_v0 0 rfl).2.1 (ownF hI ha_v0 hk_v0 0 rfl).2.2 hin_ dX0_tryRows_108 ?_
            refine lv_iconst (v := 1) hx hb dX0_tryRows_109 (by decide) ?_
            refine lv_isub hx hb dX0_tryRows_110 ?_
            obtain ⟨hin_, h⟩ := ck_e h
            obtain ⟨G17_111, qq, h⟩ := bn_e h
            refine sa_32 hx hb hKK hI e17 (ownF hI ha_v0 hk_v0 0 rfl).2.1 (ownF hI ha_v0 hk_v0 0 rfl).2.2 hin_ dX0_tryRows_111 (fun σ H locs hI ew ho => ?_)
            have e17 := ew.trans qq.symm
            have fr := frs fr ho (by decide)
            refine lv_aload_n hx hb dX0_tryRows_112 rfl (lv_at hl 1 rfl) ?_
            refine gf_X0_21 hx hb hts hown hKK hI ha_v0 hk_v0 dX0_tryRows_113 ?_
            refine lv_iload_n hx hb dX0_tryRows_116 rfl (lv_at hl 2 rfl) ?_
            refine lv_iload hx hb dX0_tryRows_117 (lv_at hl 5 rfl) ?_
            obtain ⟨hin_, h⟩ := ck_e h
            obtain ⟨G17_119, qq, h⟩ := bn_e h
            refine sa_32 hx hb hKK hI e17 (ownF hI ha_v0 hk_v0 3 rfl).2.1 (ownF hI ha_v0 hk_v0 3 rfl).2.2 hin_ dX0_tryRows_119 (fun σ H locs hI ew ho => ?_)
            have e17 := ew.trans qq.symm
            have fr := frs fr ho (by decide)
            refine lv_aload_n hx hb dX0_tryRows_120 rfl (lv_at hl 1 rfl) ?_
            refine lv_iload_n hx hb dX0_tryRows_121 rfl (lv_at hl 2 rfl) ?_
            refine lv_iconst (v := 1) hx hb dX0_tryRows_122 (by decide) ?_
            refine lv_iadd hx hb dX0_tryRows_123 ?_
            refine lv_iload_n hx hb dX0_tryRows_124 rfl (lv_at hl 3 rfl) ?_
            refine lv_iconst (v := 1) hx hb dX0_tryRows_125 (by decide) ?_
            refine lv_iadd hx hb dX0_tryRows_126 ?_
            refine lv_iload_n hx hb dX0_tryRows_127 rfl (lv_at hl 4 rfl) ?_
            refine lv_iload hx hb dX0_tryRows_128 (lv_at hl 0 rfl) ?_
            refine lv_iadd hx hb dX0_tryRows_130 ?_
            obtain ⟨q_131, hq_131, h⟩ := ob_e h
            refine r_callS (As := [.ref (HB.size + v0), .int (v1 + 1), .int (v2 + 1), .int (v3 + v7_83)]) (rest := []) hx hb hml hts hown (ih σ v0 ha_v0 hk_v0 (v1 + 1) (v2 + 1) (v3 + v7_83) G17_119 e17 q_131 hq_131) cal_X0_tryRows st_X0_tryRows lm_X0_46 ⟨Nat.le_refl _, by simp only [RM_X0_tryRows, headSpec]; omega⟩ hI.nil hKK rfl hl.1 hI.2.2 rfl (Nat.le_of_ble_eq_true rfl) dX0_tryRows_131 ⟨Nat.le_of_ble_eq_true rfl, Nat.le_of_ble_eq_true rfl⟩ rfl rfl rfl (fun H locs hB hlo => ?_)
            obtain ⟨σ, hB, en17, ho⟩ := hB
            have hI := hB.re hlo
            have e17 := en17
            have fr := frc fr ho (by decide)
            refine lv_aload_n hx hb dX0_tryRows_134 rfl (lv_at hl 1 rfl) ?_
            refine gf_X0_9 hx hb hts hown hKK hI ha_v0 hk_v0 dX0_tryRows_135 ?_
            refine lv_iload hx hb dX0_tryRows_138 (lv_at hl 5 rfl) ?_
            refine lv_dup2_11 hx hb dX0_tryRows_140 rfl rfl ?_
            obtain ⟨hin_, h⟩ := ck_e h
            refine la_32 hx hb hKK hI e17 (ownF hI ha_v0 hk_v0 0 rfl).2.1 (ownF hI ha_v0 hk_v0 0 rfl).2.2 hin_ dX0_tryRows_141 ?_
            refine lv_iconst (v := 1) hx hb dX0_tryRows_142 (by decide) ?_
            refine lv_iadd hx hb dX0_tryRows_143 ?_
            obtain ⟨hin_, h⟩ := ck_e h
            obtain ⟨G17_144, qq, h⟩ := bn_e h
            refine sa_32 hx hb hKK hI e17 (ownF hI ha_v0 hk_v0 0 rfl).2.1 (ownF hI ha_v0 hk_v0 0 rfl).2.2 hin_ dX0_tryRows_144 (fun σ H locs hI ew ho => ?_)
            have e17 := ew.trans qq.symm
            have fr := frs fr ho (by decide)
            obtain ⟨v6_145, qq, h⟩ := bn_e h
            refine lv_iinc (v := v6_145) (lv' := [(6, .int v6_145), (7, .int v7_83), (0, .ref (HB.size + v0)), (1, .int v1), (2, .int v2), (3, .int v3)]) hx hb dX0_tryRows_145 hl (k := 5) rfl (by rw [qq]; rfl) (by decide) rfl (fun ls hl => ?_)
            refine lv_goto (tgt := 64) hx hb dX0_tryRows_148 (by decide) ?_
            exact hk64 σ H locs ls G17_144 v0 v1 v2 v3 v6_145 ha_v0 hk_v0 hI e17 fr (lv_sub hl [2, 3, 4, 5, 0] rfl) h
  have b49 : ∀ (σ : St) (H : Heap) (locs : List Loc) (ls : Array Slot) (G17 : Grp) (v0 : Nat) (v1 : Int32) (v2 : Int32) (v3 : Int32) (v4 : Int32) (ha_v0 : v0 < n) (hk_v0 : κ v0 = 0), IV HB D y n n κ σ locs H → σ 17 = G17 → (∀ j, j ∉ W_X0_tryRows → σ j = σ0 j) → lv_has ls 8 [(0, .ref (HB.size + v0)), (1, .int v1), (2, .int v2), (3, .int v3), (4, .int v4)] → f_X0_tryRows_b49 F rc  G17 v0 v1 v2 v3 v4 = some q → WX (RM_X0_tryRows (d + 1)) p l e s m args below meth c HB none (B_X0_tryRows HB D y n κ σ0 q) H locs (F0 m 49 ls []) := by
    intro  σ H locs ls G17 v0 v1 v2 v3 v4 ha_v0 hk_v0 hI e17 fr hl h
    unfold f_X0_tryRows_b49 at h
    refine lv_iload hx hb dX0_tryRows_49 (lv_at hl 4 rfl) ?_
    refine lv_if_gt (tgt := 61) hx hb dX0_tryRows_51 (by decide) (fun hc => ?_) (fun hc => ?_)
    · replace h := ite_t hc h
      refine lv_iconst (v := 0) hx hb dX0_tryRows_61 (by decide) ?_
      refine lv_istore (lv' := [(6, .int 0), (0, .ref (HB.size + v0)), (1, .int v1), (2, .int v2), (3, .int v3), (4, .int v4)]) hx hb dX0_tryRows_62 hl (by decide) rfl (fun ls hl => ?_)
      exact b64  F σ H locs ls G17 v0 v1 v2 v3 0 ha_v0 hk_v0 hI e17 fr (lv_sub hl [1, 2, 3, 4, 0] rfl) h
    · replace h := ite_f hc h
      refine lv_aload_n hx hb dX0_tryRows_54 rfl (lv_at hl 0 rfl) ?_
      refine lv_iload_n hx hb dX0_tryRows_55 rfl (lv_at hl 2 rfl) ?_
      refine lv_iload_n hx hb dX0_tryRows_56 rfl (lv_at hl 3 rfl) ?_
      obtain ⟨q_57, hq_57, h⟩ := ob_e h
      refine r_callV (As := [.int v2, .int v3]) (rest := []) hx hb hml hts hown (c_X0_keepWay l HB D y F n κ σ hN v0 ha_v0 hk_v0 v2 v3 G17 e17 q_57 hq_57) cal_X0_keepWay im_X0_keepWay se_X0_keepWay lm_X0_50 ⟨by simp only [RM_X0_tryRows, RM_X0_keepWay, headSpec]; omega, by simp only [RM_X0_tryRows, RM_X0_keepWay, headSpec]; omega⟩ hI.nil hKK (r_recv hKK hI (hE0 HB.size y) rfl ha_v0 hk_v0) rfl hl.1 hI.2.2 rfl (Nat.le_of_ble_eq_true rfl) dX0_tryRows_57 ⟨Nat.le_of_ble_eq_true rfl, Nat.le_of_ble_eq_true rfl⟩ rfl rfl rfl (fun H locs hB hlo => ?_)
      obtain ⟨σ, hB, en17, ho⟩ := hB
      have hI := hB.re hlo
      have e17 := en17
      have fr := frc fr ho (by decide)
      have hq := Option.some.inj h
      exact W.vret hx hb hr (fun t ht hW => qc_mk (rfl) (by rw [ht]; exact ⟨σ, hI.nil, e17.trans (congrArg (fun z => z) hq), fr⟩)) hI.2.2 dX0_tryRows_60 hlocks
  obtain ⟨σ, hI, e17, fr⟩ : ∃ σ : St, IV HB D y n n κ σ [] s.heap ∧ σ 17 = G17 ∧ ∀ j, j ∉ W_X0_tryRows → σ j = σ0 j := ⟨σ0, hI, e17, fun _ _ => rfl⟩
  show WX (RM_X0_tryRows (d + 1)) p l e s m args below meth c HB none (B_X0_tryRows HB D y n κ σ0 q) s.heap [] (F0 m 0 ls [])
  generalize s.heap = H at hI ⊢
  unfold f_X0_tryRows_r at h
  obtain ⟨locs, hlocs⟩ : ∃ x : List Loc, x = [] := ⟨_, rfl⟩
  rw [← hlocs] at hI ⊢
  refine lv_aload_n hx hb dX0_tryRows_0 rfl (lv_at hl 0 rfl) ?_
  refine gt_X0_33 hx hb hts hown hKK hI e17 ha_v0 hk_v0 dX0_tryRows_1 ?_
  refine lv_iload_n hx hb dX0_tryRows_4 rfl (lv_at hl 1 rfl) ?_
  refine lv_isub hx hb dX0_tryRows_5 ?_
  obtain ⟨v4_6, qq, h⟩ := bn_e h
  refine topi qq ?_
  refine lv_istore (lv' := [(4, .int v4_6), (0, .ref (HB.size + v0)), (1, .int v1), (2, .int v2), (3, .int v3)]) hx hb dX0_tryRows_6 hl (by decide) rfl (fun ls hl => ?_)
  refine lv_iload_n hx hb dX0_tryRows_8 rfl (lv_at hl 3 rfl) ?_
  refine lv_iload hx hb dX0_tryRows_9 (lv_at hl 0 rfl) ?_
  refine lv_iadd hx hb dX0_tryRows_11 ?_
  obtain ⟨v5_12, qq, h⟩ := bn_e h
  refine topi qq ?_
  refine lv_istore (lv' := [(5, .int v5_12), (4, .int v4_6), (0, .ref (HB.size + v0)), (1, .int v1), (2, .int v2), (3, .int v3)]) hx hb dX0_tryRows_12 hl (by decide) rfl (fun ls hl => ?_)
  refine lv_iload hx hb dX0_tryRows_14 (lv_at hl 0 rfl) ?_
  refine lv_aload_n hx hb dX0_tryRows_16 rfl (lv_at hl 2 rfl) ?_
  refine gt_X0_40 hx hb hts hown hKK hI e17 ha_v0 hk_v0 dX0_tryRows_17 ?_
  refine lv_icmp_lt (tgt := 48) hx hb dX0_tryRows_20 (by decide) (fun hc => ?_) (fun hc => ?_)
  · replace h := ite_t hc h
    have hq := Option.some.inj h
    exact W.vret hx hb hr (fun t ht hW => qc_mk (rfl) (by rw [ht]; exact ⟨σ, hI.nil, e17.trans (congrArg (fun z => z) hq), fr⟩)) hI.2.2 dX0_tryRows_48 hlocks
  · replace h := ite_f hc h
    refine lv_iload hx hb dX0_tryRows_23 (lv_at hl 0 rfl) ?_
    refine lv_aload_n hx hb dX0_tryRows_25 rfl (lv_at hl 2 rfl) ?_
    refine gt_X0_40 hx hb hts hown hKK hI e17 ha_v0 hk_v0 dX0_tryRows_26 ?_
    refine lv_icmp_ne (tgt := 49) hx hb dX0_tryRows_29 (by decide) (fun hc => ?_) (fun hc => ?_)
    · replace h := ite_f hc h
      exact b49  σ H locs ls G17 v0 v1 v2 v3 v4_6 ha_v0 hk_v0 hI e17 fr (lv_sub hl [2, 3, 4, 5, 1] rfl) h
    · replace h := ite_t hc h
      refine lv_iload_n hx hb dX0_tryRows_32 rfl (lv_at hl 5 rfl) ?_
      refine lv_iload hx hb dX0_tryRows_33 (lv_at hl 1 rfl) ?_
      refine lv_aload_n hx hb dX0_tryRows_35 rfl (lv_at hl 2 rfl) ?_
      refine gt_X0_37 hx hb hts hown hKK hI e17 ha_v0 hk_v0 dX0_tryRows_36 ?_
      refine lv_imul hx hb dX0_tryRows_39 ?_
      refine lv_iadd hx hb dX0_tryRows_40 ?_
      refine lv_aload_n hx hb dX0_tryRows_41 rfl (lv_at hl 2 rfl) ?_
      refine gt_X0_43 hx hb hts hown hKK hI e17 ha_v0 hk_v0 dX0_tryRows_42 ?_
      refine lv_icmp_gt (tgt := 49) hx hb dX0_tryRows_45 (by decide) (fun hc => ?_) (fun hc => ?_)
      · replace h := ite_t hc h
        exact b49  σ H locs ls G17 v0 v1 v2 v3 v4_6 ha_v0 hk_v0 hI e17 fr (lv_sub hl [2, 3, 4, 5, 1] rfl) h
      · replace h := ite_f hc h
        have hq := Option.some.inj h
        exact W.vret hx hb hr (fun t ht hW => qc_mk (rfl) (by rw [ht]; exact ⟨σ, hI.nil, e17.trans (congrArg (fun z => z) hq), fr⟩)) hI.2.2 dX0_tryRows_48 hlocks
noncomputable def f_X0_solve (F : Nat) (G17 : Grp) (v0 : Nat) : Option (Grp) :=
  bn (gI G17 v0 6 (-1)) (fun G17_2 => bn (gI G17_2 v0 7 (-1)) (fun G17_7 => ob (f_X0_tryRows F 8 G17_7 v0 0 0 0) (fun q_14 => some q_14)))
def RM_X0_solve : Room := { frames := 10, cells := 0, slots := 0, locals := 370 }
abbrev W_X0_solve : List Nat := [17]
abbrev B_X0_solve (HB : Heap) (D : va_G) (y : Nat → ClassId) (n : Nat) (κ : Nat → Nat) (σ0 : St) (q : Grp) : Heap → Prop := fun H => ∃ σ : St, IV HB D y n n κ σ [] H ∧ σ 17 = q ∧ ∀ j, j ∉ W_X0_solve → σ j = σ0 j
set_option maxRecDepth 100000 in
set_option maxHeartbeats 4000000 in
theorem c_X0_solve (l : Launch) (HB : Heap) (D : va_G) (y : Nat → ClassId) (F n : Nat) (κ : Nat → Nat) (σ0 : St) (hN : N0 ≤ n) (v0 : Nat) (ha_v0 : v0 < n) (hk_v0 : κ v0 = 0) (G17 : Grp) (e17 : σ0 17 = G17) (q : Grp) (h : f_X0_solve F G17 v0 = some q) : MT l HB D y yX0_solve cX0_solve 1 none RM_X0_solve [.ref (HB.size + v0)] (IV HB D y n n κ σ0 []) none (B_X0_solve HB D y n κ σ0 q) := by
  refine Met.ofW (cc := cX0_solve) (maxL := 1) (ret := none) (by decide) rfl ?_
  intro p e s m args below meth c s₁ BL hml hv
  obtain ⟨rfl, hI, hKK⟩ := hv
  have hx := BL.exec
  have hb := BL.bytes
  have hr := BL.returns
  have hts : ∀ w ∈ gtb, w.before _ s = true := fun w hw => atoms_spec BL.pre w (List.mem_cons_of_mem _ hw)
  have hml : c.maxLocals = 1 := hml
  have hown : s.vm.findClass RX0 = some m.cls := findClass_of_methodNamed BL.named
  have hlocks := BL.notSynchronized
  have hk0 := hI.1.2.2.2.2
  have hl := lv_entry ([.ref (HB.size + v0)]) (n := 1) (Nat.le_of_ble_eq_true rfl)
  rw [lg_entry_eq]
  generalize (lg_sl ([.ref (HB.size + v0)]) ++ List.replicate (1 - (lg_sl ([.ref (HB.size + v0)])).length) Slot.unset).toArray = ls at hl ⊢
  have hl : lv_has ls 1 [(0, .ref (HB.size + v0))] := hl
  generalize hargs : ([.ref (HB.size + v0)] : List Value).toArray = args at *
  obtain ⟨σ, hI, e17, fr⟩ : ∃ σ : St, IV HB D y n n κ σ [] s.heap ∧ σ 17 = G17 ∧ ∀ j, j ∉ W_X0_solve → σ j = σ0 j := ⟨σ0, hI, e17, fun _ _ => rfl⟩
  show WX RM_X0_solve p l e s m args below meth c HB none (B_X0_solve HB D y n κ σ0 q) s.heap [] (F0 m 0 ls [])
  generalize s.heap = H at hI ⊢
  unfold f_X0_solve at h
  obtain ⟨locs, hlocs⟩ : ∃ x : List Loc, x = [] := ⟨_, rfl⟩
  rw [← hlocs] at hI ⊢
  refine lv_aload_n hx hb dX0_solve_0 rfl (lv_at hl 0 rfl) ?_
  refine lv_iconst (v := (-1)) hx hb dX0_solve_1 (by decide) ?_
  obtain ⟨G17_2, qq, h⟩ := bn_e h
  refine pt_X0_40 hx hb hts hown hKK hI e17 ha_v0 hk_v0 dX0_solve_2 (fun σ H locs hI ew ho => ?_)
  have e17 := ew.trans qq.symm
  have fr := frs fr ho (by decide)
  refine lv_aload_n hx hb dX0_solve_5 rfl (lv_at hl 0 rfl) ?_
  refine lv_iconst (v := (-1)) hx hb dX0_solve_6 (by decide) ?_
  obtain ⟨G17_7, qq, h⟩ := bn_e h
  refine pt_X0_43 hx hb hts hown hKK hI e17 ha_v0 hk_v0 dX0_solve_7 (fun σ H locs hI ew ho => ?_)
  have e17 := ew.trans qq.symm
  have fr := frs fr ho (by decide)
  refine lv_aload_n hx hb dX0_solve_10 rfl (lv_at hl 0 rfl) ?_
  refine lv_iconst (v := 0) hx hb dX0_solve_11 (by decide) ?_
  refine lv_iconst (v := 0) hx hb dX0_solve_12 (by decide) ?_
  refine lv_iconst (v := 0) hx hb dX0_solve_13 (by decide) ?_
  obtain ⟨q_14, hq_14, h⟩ := ob_e h
  refine r_callS (As := [.ref (HB.size + v0), .int 0, .int 0, .int 0]) (rest := []) hx hb hml hts hown (c_X0_tryRows l HB D y F n κ 8 σ hN v0 ha_v0 hk_v0 0 0 0 G17_7 e17 q_14 hq_14) cal_X0_tryRows st_X0_tryRows lm_X0_46 ⟨Nat.le_of_ble_eq_true rfl, Nat.le_of_ble_eq_true rfl⟩ hI.nil hKK rfl hl.1 hI.2.2 rfl (Nat.le_of_ble_eq_true rfl) dX0_solve_14 ⟨Nat.le_of_ble_eq_true rfl, Nat.le_of_ble_eq_true rfl⟩ rfl rfl rfl (fun H locs hB hlo => ?_)
  obtain ⟨σ, hB, en17, ho⟩ := hB
  have hI := hB.re hlo
  have e17 := en17
  have fr := frc fr ho (by decide)
  have hq := Option.some.inj h
  exact W.vret hx hb hr (fun t ht hW => qc_mk (rfl) (by rw [ht]; exact ⟨σ, hI.nil, e17.trans (congrArg (fun z => z) hq), fr⟩)) hI.2.2 dX0_solve_17 hlocks
noncomputable def f_X1_inYear (F : Nat) (G18 : Grp) (v1 : Int32) (v2 : Int32) : Option (Int32) :=
  ck v1 16 (if (G18.1 74 v1.toNatClampNeg) = v2 then ck v1 16 (some (G18.1 73 v1.toNatClampNeg)) else some 0)
def RM_X1_inYear : Room := { frames := 0, cells := 0, slots := 0, locals := 0 }
abbrev B_X1_inYear (HB : Heap) (D : va_G) (y : Nat → ClassId) (n : Nat) (κ : Nat → Nat) (σ : St) (q : Int32) : Heap → Prop := fun H => IV HB D y n n κ σ [] H
set_option maxRecDepth 100000 in
set_option maxHeartbeats 4000000 in
theorem c_X1_inYear (l : Launch) (HB : Heap) (D : va_G) (y : Nat → ClassId) (F n : Nat) (κ : Nat → Nat) (σ : St) (hN : N0 ≤ n) (v1 : Int32)  (v2 : Int32)  (G18 : Grp) (e18 : σ 18 = G18) (q : Int32) (h : f_X1_inYear F G18 v1 v2 = some q) : MT l HB D y yX1_inYear cX1_inYear 3 (some .int) RM_X1_inYear [.ref (HB.size + 70), .int v1, .int v2] (IV HB D y n n κ σ []) (some (.int q)) (B_X1_inYear HB D y n κ σ q) := by
  refine Met.ofW (cc := cX1_inYear) (maxL := 3) (ret := (some .int)) (by decide) rfl ?_
  intro p e s m args below meth c s₁ BL hml hv
  obtain ⟨rfl, hI, hKK⟩ := hv
  have hx := BL.exec
  have hb := BL.bytes
  have hr := BL.returns
  have hts : ∀ w ∈ gtb, w.before _ s = true := fun w hw => atoms_spec BL.pre w (List.mem_cons_of_mem _ hw)
  have hml : c.maxLocals = 3 := hml
  have hown : s.vm.findClass RX1 = some m.cls := findClass_of_methodNamed BL.named
  have hlocks := BL.notSynchronized
  have hk0 := hI.1.2.2.2.2
  have hl := lv_entry ([.ref (HB.size + 70), .int v1, .int v2]) (n := 3) (Nat.le_of_ble_eq_true rfl)
  rw [lg_entry_eq]
  generalize (lg_sl ([.ref (HB.size + 70), .int v1, .int v2]) ++ List.replicate (3 - (lg_sl ([.ref (HB.size + 70), .int v1, .int v2])).length) Slot.unset).toArray = ls at hl ⊢
  have hl : lv_has ls 3 [(0, .ref (HB.size + 70)), (1, .int v1), (2, .int v2)] := hl
  generalize hargs : ([.ref (HB.size + 70), .int v1, .int v2] : List Value).toArray = args at *
  show WX RM_X1_inYear p l e s m args below meth c HB (some (.int q)) (B_X1_inYear HB D y n κ σ q) s.heap [] (F0 m 0 ls [])
  generalize s.heap = H at hI ⊢
  unfold f_X1_inYear at h
  obtain ⟨locs, hlocs⟩ : ∃ x : List Loc, x = [] := ⟨_, rfl⟩
  rw [← hlocs] at hI ⊢
  refine lv_aload_n hx hb dX1_inYear_0 rfl (lv_at hl 0 rfl) ?_
  refine gf_X1_22 hx hb hts hown hKK hI hN dX1_inYear_1 ?_
  refine lv_iload_n hx hb dX1_inYear_4 rfl (lv_at hl 1 rfl) ?_
  obtain ⟨hin_, h⟩ := ck_e h
  refine la_36 hx hb hKK hI e18 (lc74 hN) (kc74 hk0) hin_ dX1_inYear_5 ?_
  refine lv_iload_n hx hb dX1_inYear_6 rfl (lv_at hl 2 rfl) ?_
  refine lv_icmp_ne (tgt := 19) hx hb dX1_inYear_7 (by decide) (fun hc => ?_) (fun hc => ?_)
  · replace h := ite_f hc h
    refine lv_iconst (v := 0) hx hb dX1_inYear_19 (by decide) ?_
    have hq := Option.some.inj h
    exact W.iret (v := 0) hx hb hr (fun t ht hW => qc_mk (congrArg (fun z => Outcome.returned (some (Value.int z))) hq) (by rw [ht]; exact hI.nil)) hI.2.2 dX1_inYear_20 hlocks
  · replace h := ite_t hc h
    refine lv_aload_n hx hb dX1_inYear_10 rfl (lv_at hl 0 rfl) ?_
    refine gf_X1_18 hx hb hts hown hKK hI hN dX1_inYear_11 ?_
    refine lv_iload_n hx hb dX1_inYear_14 rfl (lv_at hl 1 rfl) ?_
    obtain ⟨hin_, h⟩ := ck_e h
    refine la_36 hx hb hKK hI e18 (lc73 hN) (kc73 hk0) hin_ dX1_inYear_15 ?_
    refine lv_goto (tgt := 20) hx hb dX1_inYear_16 (by decide) ?_
    have hq := Option.some.inj h
    exact W.iret (v := (G18.1 73 v1.toNatClampNeg)) hx hb hr (fun t ht hW => qc_mk (congrArg (fun z => Outcome.returned (some (Value.int z))) hq) (by rw [ht]; exact hI.nil)) hI.2.2 dX1_inYear_20 hlocks
noncomputable def f_X1_give (F : Nat) (G2 : Grp) (G18 : Grp) (v1 : Int32) (v2 : Int32) (v3 : Int32) (v4 : Int32) : Option (Int32 × Grp) :=
  ck 5 8 (bn (((v3 * (G2.1 2 (5 : Int32).toNatClampNeg)) / 100)) (fun v5_11 => ck 6 8 (bn (((v3 * (G2.1 2 (6 : Int32).toNatClampNeg)) / 100)) (fun v6_25 => bn (((v3 - v5_11) - v6_25)) (fun v7_34 => ob (f_X1_inYear F G18 v1 v4) (fun q_40 => ck 7 8 (bn ((if (if 0 < ((G2.1 2 (7 : Int32).toNatClampNeg) - q_40) then ((G2.1 2 (7 : Int32).toNatClampNeg) - q_40) else 0) < v7_34 then (if 0 < ((G2.1 2 (7 : Int32).toNatClampNeg) - q_40) then ((G2.1 2 (7 : Int32).toNatClampNeg) - q_40) else 0) else v7_34)) (fun v9_64 => bn (gJ G18 70 1 ((G18.2.1 70 1) + v3.toInt64)) (fun G18_74 => bn (gJ G18_74 70 0 ((G18_74.2.1 70 0) + v5_11.toInt64)) (fun G18_86 => ck v2 6 (ck v2 6 (bn (gJ G18_86 71 v2.toNatClampNeg ((G18_86.2.1 71 v2.toNatClampNeg) + ((v6_25 + v7_34) - v9_64).toInt64)) (fun G18_106 => ck v1 16 (ck v1 16 (bn (gJ G18_106 72 v1.toNatClampNeg ((G18_106.2.1 72 v1.toNatClampNeg) + v9_64.toInt64)) (fun G18_118 => ck v1 16 (bn (gI G18_118 73 v1.toNatClampNeg (q_40 + v9_64)) (fun G18_129 => ck v1 16 (bn (gI G18_129 74 v1.toNatClampNeg v4) (fun G18_137 => some (v9_64, G18_137)))))))))))))))))))))
def RM_X1_give : Room := { frames := 1, cells := 0, slots := 0, locals := 40 }
abbrev W_X1_give : List Nat := [18]
abbrev B_X1_give (HB : Heap) (D : va_G) (y : Nat → ClassId) (n : Nat) (κ : Nat → Nat) (σ0 : St) (q : Int32 × Grp) : Heap → Prop := fun H => ∃ σ : St, IV HB D y n n κ σ [] H ∧ σ 18 = q.2 ∧ ∀ j, j ∉ W_X1_give → σ j = σ0 j
set_option maxRecDepth 100000 in
set_option maxHeartbeats 4000000 in
theorem c_X1_give (l : Launch) (HB : Heap) (D : va_G) (y : Nat → ClassId) (F n : Nat) (κ : Nat → Nat) (σ0 : St) (hN : N0 ≤ n) (v1 : Int32)  (v2 : Int32)  (v3 : Int32)  (v4 : Int32)  (G2 : Grp) (e2 : σ0 2 = G2) (G18 : Grp) (e18 : σ0 18 = G18) (q : Int32 × Grp) (h : f_X1_give F G2 G18 v1 v2 v3 v4 = some q) : MT l HB D y yX1_give cX1_give 10 (some .int) RM_X1_give [.ref (HB.size + 70), .int v1, .int v2, .int v3, .int v4] (IV HB D y n n κ σ0 []) (some (.int q.1)) (B_X1_give HB D y n κ σ0 q) := by
  refine Met.ofW (cc := cX1_give) (maxL := 10) (ret := (some .int)) (by decide) rfl ?_
  intro p e s m args below meth c s₁ BL hml hv
  obtain ⟨rfl, hI, hKK⟩ := hv
  have hx := BL.exec
  have hb := BL.bytes
  have hr := BL.returns
  have hts : ∀ w ∈ gtb, w.before _ s = true := fun w hw => atoms_spec BL.pre w (List.mem_cons_of_mem _ hw)
  have hml : c.maxLocals = 10 := hml
  have hown : s.vm.findClass RX1 = some m.cls := findClass_of_methodNamed BL.named
  have hlocks := BL.notSynchronized
  have hk0 := hI.1.2.2.2.2
  have hl := lv_entry ([.ref (HB.size + 70), .int v1, .int v2, .int v3, .int v4]) (n := 10) (Nat.le_of_ble_eq_true rfl)
  rw [lg_entry_eq]
  generalize (lg_sl ([.ref (HB.size + 70), .int v1, .int v2, .int v3, .int v4]) ++ List.replicate (10 - (lg_sl ([.ref (HB.size + 70), .int v1, .int v2, .int v3, .int v4])).length) Slot.unset).toArray = ls at hl ⊢
  have hl : lv_has ls 10 [(0, .ref (HB.size + 70)), (1, .int v1), (2, .int v2), (3, .int v3), (4, .int v4)] := hl
  generalize hargs : ([.ref (HB.size + 70), .int v1, .int v2, .int v3, .int v4] : List Value).toArray = args at *
  obtain ⟨σ, hI, e2, e18, fr⟩ : ∃ σ : St, IV HB D y n n κ σ [] s.heap ∧ σ 2 = G2 ∧ σ 18 = G18 ∧ ∀ j, j ∉ W_X1_give → σ j = σ0 j := ⟨σ0, hI, e2, e18, fun _ _ => rfl⟩
  show WX RM_X1_give p l e s m args below meth c HB (some (.int q.1)) (B_X1_give HB D y n κ σ0 q) s.heap [] (F0 m 0 ls [])
  generalize s.heap = H at hI ⊢
  unfold f_X1_give at h
  obtain ⟨locs, hlocs⟩ : ∃ x : List Loc, x = [] := ⟨_, rfl⟩
  rw [← hlocs] at hI ⊢
  refine lv_iload_n hx hb dX1_give_0 rfl (lv_at hl 3 rfl) ?_
  refine lv_aload_n hx hb dX1_give_1 rfl (lv_at hl 0 rfl) ?_
  refine gf_X1_34 hx hb hts hown hKK hI hN dX1_give_2 ?_
  refine lv_iconst (v := 5) hx hb dX1_give_5 (by decide) ?_
  obtain ⟨hin_, h⟩ := ck_e h
  refine la_14 hx hb hKK hI e2 (lc2 hN) (kc2 hk0) hin_ dX1_give_6 ?_
  refine lv_imul hx hb dX1_give_7 ?_
  refine lv_bipush (v := 100) hx hb dX1_give_8 (by decide) ?_
  refine lv_idiv hx hb dX1_give_10 (by decide) ?_
  obtain ⟨v5_11, qq, h⟩ := bn_e h
  refine topi qq ?_
  refine lv_istore (lv' := [(5, .int v5_11), (0, .ref (HB.size + 70)), (1, .int v1), (2, .int v2), (3, .int v3), (4, .int v4)]) hx hb dX1_give_11 hl (by decide) rfl (fun ls hl => ?_)
  refine lv_iload_n hx hb dX1_give_13 rfl (lv_at hl 4 rfl) ?_
  refine lv_aload_n hx hb dX1_give_14 rfl (lv_at hl 1 rfl) ?_
  refine gf_X1_34 hx hb hts hown hKK hI hN dX1_give_15 ?_
  refine lv_bipush (v := 6) hx hb dX1_give_18 (by decide) ?_
  obtain ⟨hin_, h⟩ := ck_e h
  refine la_14 hx hb hKK hI e2 (lc2 hN) (kc2 hk0) hin_ dX1_give_20 ?_
  refine lv_imul hx hb dX1_give_21 ?_
  refine lv_bipush (v := 100) hx hb dX1_give_22 (by decide) ?_
  refine lv_idiv hx hb dX1_give_24 (by decide) ?_
  obtain ⟨v6_25, qq, h⟩ := bn_e h
  refine topi qq ?_
  refine lv_istore (lv' := [(6, .int v6_25), (5, .int v5_11), (0, .ref (HB.size + 70)), (1, .int v1), (2, .int v2), (3, .int v3), (4, .int v4)]) hx hb dX1_give_25 hl (by decide) rfl (fun ls hl => ?_)
  refine lv_iload_n hx hb dX1_give_27 rfl (lv_at hl 5 rfl) ?_
  refine lv_iload hx hb dX1_give_28 (lv_at hl 1 rfl) ?_
  refine lv_isub hx hb dX1_give_30 ?_
  refine lv_iload hx hb dX1_give_31 (lv_at hl 0 rfl) ?_
  refine lv_isub hx hb dX1_give_33 ?_
  obtain ⟨v7_34, qq, h⟩ := bn_e h
  refine topi qq ?_
  refine lv_istore (lv' := [(7, .int v7_34), (6, .int v6_25), (5, .int v5_11), (0, .ref (HB.size + 70)), (1, .int v1), (2, .int v2), (3, .int v3), (4, .int v4)]) hx hb dX1_give_34 hl (by decide) rfl (fun ls hl => ?_)
  refine lv_aload_n hx hb dX1_give_36 rfl (lv_at hl 3 rfl) ?_
  refine lv_iload_n hx hb dX1_give_37 rfl (lv_at hl 4 rfl) ?_
  refine lv_iload hx hb dX1_give_38 (lv_at hl 7 rfl) ?_
  obtain ⟨q_40, hq_40, h⟩ := ob_e h
  refine r_callV (As := [.int v1, .int v4]) (rest := []) hx hb hml hts hown (c_X1_inYear l HB D y F n κ σ hN v1 v4 G18 e18 q_40 hq_40) cal_X1_inYear im_X1_inYear se_X1_inYear lm_X1_37 ⟨Nat.le_of_ble_eq_true rfl, Nat.le_of_ble_eq_true rfl⟩ hI.nil hKK (r_recv hKK hI (hE1 HB.size y) rfl (lc70 hN) (kc70 hk0)) rfl hl.1 hI.2.2 rfl (Nat.le_of_ble_eq_true rfl) dX1_give_40 ⟨Nat.le_of_ble_eq_true rfl, Nat.le_of_ble_eq_true rfl⟩ rfl rfl rfl (fun H locs hB hlo => ?_)
  have hI := hB.re hlo
  refine lv_istore (lv' := [(8, .int q_40), (7, .int v7_34), (6, .int v6_25), (5, .int v5_11), (0, .ref (HB.size + 70)), (1, .int v1), (2, .int v2), (3, .int v3), (4, .int v4)]) hx hb dX1_give_43 hl (by decide) rfl (fun ls hl => ?_)
  refine lv_iload hx hb dX1_give_45 (lv_at hl 1 rfl) ?_
  refine lv_iconst (v := 0) hx hb dX1_give_47 (by decide) ?_
  refine lv_aload_n hx hb dX1_give_48 rfl (lv_at hl 4 rfl) ?_
  refine gf_X1_34 hx hb hts hown hKK hI hN dX1_give_49 ?_
  refine lv_bipush (v := 7) hx hb dX1_give_52 (by decide) ?_
  obtain ⟨hin_, h⟩ := ck_e h
  refine la_14 hx hb hKK hI e2 (lc2 hN) (kc2 hk0) hin_ dX1_give_54 ?_
  refine lv_iload hx hb dX1_give_55 (lv_at hl 0 rfl) ?_
  refine lv_isub hx hb dX1_give_57 ?_
  refine va_mmax hx hb (by rw [hl.1]; exact hml) hown (hts _ lm_X1_41) (hts _ mw_max.1) (hts _ mw_ini) (hts _ mw_max.2) (Nat.le_of_ble_eq_true rfl) (Nat.le_of_ble_eq_true rfl) (Nat.zero_le _) (Nat.zero_le _) dX1_give_58 ?_
  refine va_mmin hx hb (by rw [hl.1]; exact hml) hown (hts _ lm_X1_46) (hts _ mw_min.1) (hts _ mw_ini) (hts _ mw_min.2) (Nat.le_of_ble_eq_true rfl) (Nat.le_of_ble_eq_true rfl) (Nat.zero_le _) (Nat.zero_le _) dX1_give_61 ?_
  obtain ⟨v9_64, qq, h⟩ := bn_e h
  refine topi qq ?_
  refine lv_istore (lv' := [(9, .int v9_64), (8, .int q_40), (7, .int v7_34), (6, .int v6_25), (5, .int v5_11), (0, .ref (HB.size + 70)), (1, .int v1), (2, .int v2), (3, .int v3), (4, .int v4)]) hx hb dX1_give_64 hl (by decide) rfl (fun ls hl => ?_)
  refine lv_aload_n hx hb dX1_give_66 rfl (lv_at hl 5 rfl) ?_
  refine lv_dup hx hb dX1_give_67 rfl ?_
  refine gt_X1_49 hx hb hts hown hKK hI e18 (lc70 hN) (kc70 hk0) dX1_give_68 ?_
  refine lv_iload_n hx hb dX1_give_71 rfl (lv_at hl 8 rfl) ?_
  refine lv_i2l hx hb dX1_give_72 rfl ?_
  refine lv_ladd hx hb dX1_give_73 ?_
  obtain ⟨G18_74, qq, h⟩ := bn_e h
  refine pt_X1_49 hx hb hts hown hKK hI e18 (lc70 hN) (kc70 hk0) dX1_give_74 (fun σ H locs hI ew ho => ?_)
  have e18 := ew.trans qq.symm
  have e2 := (ho 2 (nn rfl)).trans e2
  have fr := frs fr ho (by decide)
  refine lv_aload_n hx hb dX1_give_77 rfl (lv_at hl 5 rfl) ?_
  refine lv_dup hx hb dX1_give_78 rfl ?_
  refine gt_X1_53 hx hb hts hown hKK hI e18 (lc70 hN) (kc70 hk0) dX1_give_79 ?_
  refine lv_iload hx hb dX1_give_82 (lv_at hl 4 rfl) ?_
  refine lv_i2l hx hb dX1_give_84 rfl ?_
  refine lv_ladd hx hb dX1_give_85 ?_
  obtain ⟨G18_86, qq, h⟩ := bn_e h
  refine pt_X1_53 hx hb hts hown hKK hI e18 (lc70 hN) (kc70 hk0) dX1_give_86 (fun σ H locs hI ew ho => ?_)
  have e18 := ew.trans qq.symm
  have e2 := (ho 2 (nn rfl)).trans e2
  have fr := frs fr ho (by decide)
  refine lv_aload_n hx hb dX1_give_89 rfl (lv_at hl 5 rfl) ?_
  refine gf_X1_9 hx hb hts hown hKK hI hN dX1_give_90 ?_
  refine lv_iload_n hx hb dX1_give_93 rfl (lv_at hl 7 rfl) ?_
  refine lv_dup2_11 hx hb dX1_give_94 rfl rfl ?_
  obtain ⟨hin_, h⟩ := ck_e h
  refine la_34 hx hb hKK hI e18 (lc71 hN) (kc71 hk0) hin_ dX1_give_95 ?_
  refine lv_iload hx hb dX1_give_96 (lv_at hl 3 rfl) ?_
  refine lv_iload hx hb dX1_give_98 (lv_at hl 2 rfl) ?_
  refine lv_iadd hx hb dX1_give_100 ?_
  refine lv_iload hx hb dX1_give_101 (lv_at hl 0 rfl) ?_
  refine lv_isub hx hb dX1_give_103 ?_
  refine lv_i2l hx hb dX1_give_104 rfl ?_
  refine lv_ladd hx hb dX1_give_105 ?_
  obtain ⟨hin_, h⟩ := ck_e h
  obtain ⟨G18_106, qq, h⟩ := bn_e h
  refine sa_34 hx hb hKK hI e18 (lc71 hN) (kc71 hk0) hin_ dX1_give_106 (fun σ H locs hI ew ho => ?_)
  have e18 := ew.trans qq.symm
  have e2 := (ho 2 (nn rfl)).trans e2
  have fr := frs fr ho (by decide)
  refine lv_aload_n hx hb dX1_give_107 rfl (lv_at hl 5 rfl) ?_
  refine gf_X1_15 hx hb hts hown hKK hI hN dX1_give_108 ?_
  refine lv_iload_n hx hb dX1_give_111 rfl (lv_at hl 6 rfl) ?_
  refine lv_dup2_11 hx hb dX1_give_112 rfl rfl ?_
  obtain ⟨hin_, h⟩ := ck_e h
  refine la_35 hx hb hKK hI e18 (lc72 hN) (kc72 hk0) hin_ dX1_give_113 ?_
  refine lv_iload hx hb dX1_give_114 (lv_at hl 0 rfl) ?_
  refine lv_i2l hx hb dX1_give_116 rfl ?_
  refine lv_ladd hx hb dX1_give_117 ?_
  obtain ⟨hin_, h⟩ := ck_e h
  obtain ⟨G18_118, qq, h⟩ := bn_e h
  refine sa_35 hx hb hKK hI e18 (lc72 hN) (kc72 hk0) hin_ dX1_give_118 (fun σ H locs hI ew ho => ?_)
  have e18 := ew.trans qq.symm
  have e2 := (ho 2 (nn rfl)).trans e2
  have fr := frs fr ho (by decide)
  refine lv_aload_n hx hb dX1_give_119 rfl (lv_at hl 5 rfl) ?_
  refine gf_X1_18 hx hb hts hown hKK hI hN dX1_give_120 ?_
  refine lv_iload_n hx hb dX1_give_123 rfl (lv_at hl 6 rfl) ?_
  refine lv_iload hx hb dX1_give_124 (lv_at hl 1 rfl) ?_
  refine lv_iload hx hb dX1_give_126 (lv_at hl 0 rfl) ?_
  refine lv_iadd hx hb dX1_give_128 ?_
  obtain ⟨hin_, h⟩ := ck_e h
  obtain ⟨G18_129, qq, h⟩ := bn_e h
  refine sa_36 hx hb hKK hI e18 (lc73 hN) (kc73 hk0) hin_ dX1_give_129 (fun σ H locs hI ew ho => ?_)
  have e18 := ew.trans qq.symm
  have e2 := (ho 2 (nn rfl)).trans e2
  have fr := frs fr ho (by decide)
  refine lv_aload_n hx hb dX1_give_130 rfl (lv_at hl 5 rfl) ?_
  refine gf_X1_22 hx hb hts hown hKK hI hN dX1_give_131 ?_
  refine lv_iload_n hx hb dX1_give_134 rfl (lv_at hl 6 rfl) ?_
  refine lv_iload hx hb dX1_give_135 (lv_at hl 9 rfl) ?_
  obtain ⟨hin_, h⟩ := ck_e h
  obtain ⟨G18_137, qq, h⟩ := bn_e h
  refine sa_36 hx hb hKK hI e18 (lc74 hN) (kc74 hk0) hin_ dX1_give_137 (fun σ H locs hI ew ho => ?_)
  have e18 := ew.trans qq.symm
  have e2 := (ho 2 (nn rfl)).trans e2
  have fr := frs fr ho (by decide)
  refine lv_iload hx hb dX1_give_138 (lv_at hl 0 rfl) ?_
  have hq := Option.some.inj h
  exact W.iret (v := v9_64) hx hb hr (fun t ht hW => qc_mk (congrArg (fun z => Outcome.returned (some (Value.int z.1))) hq) (by rw [ht]; exact ⟨σ, hI.nil, e18.trans (congrArg (fun z => z.2) hq), fr⟩)) hI.2.2 dX1_give_140 hlocks
noncomputable def f_X11_within (F : Nat)  (v0 : Int32) (v1 : Int32) (v2 : Int32) : Option (Int32) :=
  if v0 < v1 then some 0 else if v2 < v0 then some 0 else some 1
def RM_X11_within : Room := { frames := 0, cells := 0, slots := 0, locals := 0 }
abbrev B_X11_within (HB : Heap) (D : va_G) (y : Nat → ClassId) (n : Nat) (κ : Nat → Nat) (σ : St) (q : Int32) : Heap → Prop := fun H => IV HB D y n n κ σ [] H
set_option maxRecDepth 100000 in
set_option maxHeartbeats 4000000 in
theorem c_X11_within (l : Launch) (HB : Heap) (D : va_G) (y : Nat → ClassId) (F n : Nat) (κ : Nat → Nat) (σ : St) (hN : N0 ≤ n) (v0 : Int32)  (v1 : Int32)  (v2 : Int32)   (q : Int32) (h : f_X11_within F v0 v1 v2 = some q) : MT l HB D y yX11_within cX11_within 3 (some .boolean) RM_X11_within [.int v0, .int v1, .int v2] (IV HB D y n n κ σ []) (some (.int q)) (B_X11_within HB D y n κ σ q) := by
  refine Met.ofW (cc := cX11_within) (maxL := 3) (ret := (some .boolean)) (by decide) rfl ?_
  intro p e s m args below meth c s₁ BL hml hv
  obtain ⟨rfl, hI, hKK⟩ := hv
  have hx := BL.exec
  have hb := BL.bytes
  have hr := BL.returns
  have hts : ∀ w ∈ gtb, w.before _ s = true := fun w hw => atoms_spec BL.pre w (List.mem_cons_of_mem _ hw)
  have hml : c.maxLocals = 3 := hml
  have hown : s.vm.findClass RX11 = some m.cls := findClass_of_methodNamed BL.named
  have hlocks := BL.notSynchronized
  have hk0 := hI.1.2.2.2.2
  have hl := lv_entry ([.int v0, .int v1, .int v2]) (n := 3) (Nat.le_of_ble_eq_true rfl)
  rw [lg_entry_eq]
  generalize (lg_sl ([.int v0, .int v1, .int v2]) ++ List.replicate (3 - (lg_sl ([.int v0, .int v1, .int v2])).length) Slot.unset).toArray = ls at hl ⊢
  have hl : lv_has ls 3 [(0, .int v0), (1, .int v1), (2, .int v2)] := hl
  generalize hargs : ([.int v0, .int v1, .int v2] : List Value).toArray = args at *
  show WX RM_X11_within p l e s m args below meth c HB (some (.int q)) (B_X11_within HB D y n κ σ q) s.heap [] (F0 m 0 ls [])
  generalize s.heap = H at hI ⊢
  unfold f_X11_within at h
  obtain ⟨locs, hlocs⟩ : ∃ x : List Loc, x = [] := ⟨_, rfl⟩
  rw [← hlocs] at hI ⊢
  refine lv_iload_n hx hb dX11_within_0 rfl (lv_at hl 0 rfl) ?_
  refine lv_iload_n hx hb dX11_within_1 rfl (lv_at hl 1 rfl) ?_
  refine lv_icmp_lt (tgt := 14) hx hb dX11_within_2 (by decide) (fun hc => ?_) (fun hc => ?_)
  · replace h := ite_t hc h
    refine lv_iconst (v := 0) hx hb dX11_within_14 (by decide) ?_
    have hq := Option.some.inj h
    exact W.zret (v := 0) (ty := .boolean) hx hb hr rfl (fun t ht hW => qc_mk (congrArg (fun z => Outcome.returned (some (Value.int z))) hq) (by rw [ht]; exact hI.nil)) hI.2.2 dX11_within_15 hlocks
  · replace h := ite_f hc h
    refine lv_iload_n hx hb dX11_within_5 rfl (lv_at hl 0 rfl) ?_
    refine lv_iload_n hx hb dX11_within_6 rfl (lv_at hl 2 rfl) ?_
    refine lv_icmp_gt (tgt := 14) hx hb dX11_within_7 (by decide) (fun hc => ?_) (fun hc => ?_)
    · replace h := ite_t hc h
      refine lv_iconst (v := 0) hx hb dX11_within_14 (by decide) ?_
      have hq := Option.some.inj h
      exact W.zret (v := 0) (ty := .boolean) hx hb hr rfl (fun t ht hW => qc_mk (congrArg (fun z => Outcome.returned (some (Value.int z))) hq) (by rw [ht]; exact hI.nil)) hI.2.2 dX11_within_15 hlocks
    · replace h := ite_f hc h
      refine lv_iconst (v := 1) hx hb dX11_within_10 (by decide) ?_
      refine lv_goto (tgt := 15) hx hb dX11_within_11 (by decide) ?_
      have hq := Option.some.inj h
      exact W.zret (v := 1) (ty := .boolean) hx hb hr rfl (fun t ht hW => qc_mk (congrArg (fun z => Outcome.returned (some (Value.int z))) hq) (by rw [ht]; exact hI.nil)) hI.2.2 dX11_within_15 hlocks
noncomputable def f_X1_tell (F : Nat) (G18 : Grp) (v1 : Int32) (v2 : Int32) : Option (Int64) :=
  ob (f_X11_within F v1 10 15) (fun q_5 => if q_5 = 0 then ob (f_X11_within F v1 20 35) (fun q_26 => if q_26 = 0 then ob (f_X11_within F v1 40 55) (fun q_47 => if q_47 = 0 then if v1 = 0 then some (G18.2.1 70 0) else if v1 = 1 then some (G18.2.1 70 1) else if v1 = 2 then some (G18.2.1 70 2) else some 0 else ob (f_X1_inYear F G18 (v1 - 40) v2) (fun q_59 => some (q_59.toInt64))) else ck (v1 - 20) 16 (some (G18.2.1 72 (v1 - 20).toNatClampNeg))) else ck (v1 - 10) 6 (some (G18.2.1 71 (v1 - 10).toNatClampNeg)))
def RM_X1_tell : Room := { frames := 1, cells := 0, slots := 0, locals := 22 }
abbrev B_X1_tell (HB : Heap) (D : va_G) (y : Nat → ClassId) (n : Nat) (κ : Nat → Nat) (σ : St) (q : Int64) : Heap → Prop := fun H => IV HB D y n n κ σ [] H
set_option maxRecDepth 100000 in
set_option maxHeartbeats 4000000 in
theorem c_X1_tell (l : Launch) (HB : Heap) (D : va_G) (y : Nat → ClassId) (F n : Nat) (κ : Nat → Nat) (σ : St) (hN : N0 ≤ n) (v1 : Int32)  (v2 : Int32)  (G18 : Grp) (e18 : σ 18 = G18) (q : Int64) (h : f_X1_tell F G18 v1 v2 = some q) : MT l HB D y yX1_tell cX1_tell 3 (some .long) RM_X1_tell [.ref (HB.size + 70), .int v1, .int v2] (IV HB D y n n κ σ []) (some (.long q)) (B_X1_tell HB D y n κ σ q) := by
  refine Met.ofW (cc := cX1_tell) (maxL := 3) (ret := (some .long)) (by decide) rfl ?_
  intro p e s m args below meth c s₁ BL hml hv
  obtain ⟨rfl, hI, hKK⟩ := hv
  have hx := BL.exec
  have hb := BL.bytes
  have hr := BL.returns
  have hts : ∀ w ∈ gtb, w.before _ s = true := fun w hw => atoms_spec BL.pre w (List.mem_cons_of_mem _ hw)
  have hml : c.maxLocals = 3 := hml
  have hown : s.vm.findClass RX1 = some m.cls := findClass_of_methodNamed BL.named
  have hlocks := BL.notSynchronized
  have hk0 := hI.1.2.2.2.2
  have hl := lv_entry ([.ref (HB.size + 70), .int v1, .int v2]) (n := 3) (Nat.le_of_ble_eq_true rfl)
  rw [lg_entry_eq]
  generalize (lg_sl ([.ref (HB.size + 70), .int v1, .int v2]) ++ List.replicate (3 - (lg_sl ([.ref (HB.size + 70), .int v1, .int v2])).length) Slot.unset).toArray = ls at hl ⊢
  have hl : lv_has ls 3 [(0, .ref (HB.size + 70)), (1, .int v1), (2, .int v2)] := hl
  generalize hargs : ([.ref (HB.size + 70), .int v1, .int v2] : List Value).toArray = args at *
  show WX RM_X1_tell p l e s m args below meth c HB (some (.long q)) (B_X1_tell HB D y n κ σ q) s.heap [] (F0 m 0 ls [])
  generalize s.heap = H at hI ⊢
  unfold f_X1_tell at h
  obtain ⟨locs, hlocs⟩ : ∃ x : List Loc, x = [] := ⟨_, rfl⟩
  rw [← hlocs] at hI ⊢
  refine lv_iload_n hx hb dX1_tell_0 rfl (lv_at hl 1 rfl) ?_
  refine lv_bipush (v := 10) hx hb dX1_tell_1 (by decide) ?_
  refine lv_bipush (v := 15) hx hb dX1_tell_3 (by decide) ?_
  obtain ⟨q_5, hq_5, h⟩ := ob_e h
  refine r_callSN (As := [.int v1, .int 10, .int 15]) (rest := []) hx hb hml hts hown (c_X11_within l HB D y F n κ σ hN v1 10 15  q_5 hq_5) cal_X11_within st_X11_within (hKK.2.1 _ (List.mem_of_getElem? (i := 17) rfl)) ⟨Nat.le_of_ble_eq_true rfl, Nat.le_of_ble_eq_true rfl⟩ hI.nil hKK rfl hl.1 hI.2.2 rfl (Nat.le_of_ble_eq_true rfl) dX1_tell_5 ⟨Nat.le_of_ble_eq_true rfl, Nat.le_of_ble_eq_true rfl⟩ rfl rfl rfl (fun H locs hB hlo => ?_)
  have hI := hB.re hlo
  refine lv_if_eq (tgt := 21) hx hb dX1_tell_8 (by decide) (fun hc => ?_) (fun hc => ?_)
  · replace h := ite_t hc h
    refine lv_iload_n hx hb dX1_tell_21 rfl (lv_at hl 1 rfl) ?_
    refine lv_bipush (v := 20) hx hb dX1_tell_22 (by decide) ?_
    refine lv_bipush (v := 35) hx hb dX1_tell_24 (by decide) ?_
    obtain ⟨q_26, hq_26, h⟩ := ob_e h
    refine r_callSN (As := [.int v1, .int 20, .int 35]) (rest := []) hx hb hml hts hown (c_X11_within l HB D y F n κ σ hN v1 20 35  q_26 hq_26) cal_X11_within st_X11_within (hKK.2.1 _ (List.mem_of_getElem? (i := 17) rfl)) ⟨Nat.le_of_ble_eq_true rfl, Nat.le_of_ble_eq_true rfl⟩ hI.nil hKK rfl hl.1 hI.2.2 rfl (Nat.le_of_ble_eq_true rfl) dX1_tell_26 ⟨Nat.le_of_ble_eq_true rfl, Nat.le_of_ble_eq_true rfl⟩ rfl rfl rfl (fun H locs hB hlo => ?_)
    have hI := hB.re hlo
    refine lv_if_eq (tgt := 42) hx hb dX1_tell_29 (by decide) (fun hc => ?_) (fun hc => ?_)
    · replace h := ite_t hc h
      refine lv_iload_n hx hb dX1_tell_42 rfl (lv_at hl 1 rfl) ?_
      refine lv_bipush (v := 40) hx hb dX1_tell_43 (by decide) ?_
      refine lv_bipush (v := 55) hx hb dX1_tell_45 (by decide) ?_
      obtain ⟨q_47, hq_47, h⟩ := ob_e h
      refine r_callSN (As := [.int v1, .int 40, .int 55]) (rest := []) hx hb hml hts hown (c_X11_within l HB D y F n κ σ hN v1 40 55  q_47 hq_47) cal_X11_within st_X11_within (hKK.2.1 _ (List.mem_of_getElem? (i := 17) rfl)) ⟨Nat.le_of_ble_eq_true rfl, Nat.le_of_ble_eq_true rfl⟩ hI.nil hKK rfl hl.1 hI.2.2 rfl (Nat.le_of_ble_eq_true rfl) dX1_tell_47 ⟨Nat.le_of_ble_eq_true rfl, Nat.le_of_ble_eq_true rfl⟩ rfl rfl rfl (fun H locs hB hlo => ?_)
      have hI := hB.re hlo
      refine lv_if_eq (tgt := 64) hx hb dX1_tell_50 (by decide) (fun hc => ?_) (fun hc => ?_)
      · replace h := ite_t hc h
        refine lv_iload_n hx hb dX1_tell_64 rfl (lv_at hl 1 rfl) ?_
        by_cases hc0 : v1 = 0
        · replace h := ite_t hc0 h
          refine lv_tableIn (off := 27) (tgt := 92) hx hb dX1_tell_65 (by rw [hc0]; decide) (by rw [hc0]; decide) (by rw [hc0]; decide) (by decide) ?_
          refine lv_aload_n hx hb dX1_tell_92 rfl (lv_at hl 0 rfl) ?_
          refine gt_X1_53 hx hb hts hown hKK hI e18 (lc70 hN) (kc70 hk0) dX1_tell_93 ?_
          have hq := Option.some.inj h
          exact W.lret (v := (G18.2.1 70 0)) hx hb hr (fun t ht hW => qc_mk (congrArg (fun z => Outcome.returned (some (Value.long z))) hq) (by rw [ht]; exact hI.nil)) hI.2.2 dX1_tell_96 hlocks
        · replace h := ite_f hc0 h
          by_cases hc1 : v1 = 1
          · replace h := ite_t hc1 h
            refine lv_tableIn (off := 32) (tgt := 97) hx hb dX1_tell_65 (by rw [hc1]; decide) (by rw [hc1]; decide) (by rw [hc1]; decide) (by decide) ?_
            refine lv_aload_n hx hb dX1_tell_97 rfl (lv_at hl 0 rfl) ?_
            refine gt_X1_49 hx hb hts hown hKK hI e18 (lc70 hN) (kc70 hk0) dX1_tell_98 ?_
            have hq := Option.some.inj h
            exact W.lret (v := (G18.2.1 70 1)) hx hb hr (fun t ht hW => qc_mk (congrArg (fun z => Outcome.returned (some (Value.long z))) hq) (by rw [ht]; exact hI.nil)) hI.2.2 dX1_tell_101 hlocks
          · replace h := ite_f hc1 h
            by_cases hc2 : v1 = 2
            · replace h := ite_t hc2 h
              refine lv_tableIn (off := 37) (tgt := 102) hx hb dX1_tell_65 (by rw [hc2]; decide) (by rw [hc2]; decide) (by rw [hc2]; decide) (by decide) ?_
              refine lv_aload_n hx hb dX1_tell_102 rfl (lv_at hl 0 rfl) ?_
              refine gt_X1_60 hx hb hts hown hKK hI e18 (lc70 hN) (kc70 hk0) dX1_tell_103 ?_
              have hq := Option.some.inj h
              exact W.lret (v := (G18.2.1 70 2)) hx hb hr (fun t ht hW => qc_mk (congrArg (fun z => Outcome.returned (some (Value.long z))) hq) (by rw [ht]; exact hI.nil)) hI.2.2 dX1_tell_106 hlocks
            · replace h := ite_f hc2 h
              refine lv_tableOut (tgt := 107) hx hb dX1_tell_65 (swo (fun j h1 h2 => ?_)) (by decide) ?_
              · have hj : j = 0 ∨ j = 1 ∨ j = 2 := by omega
                rcases hj with rfl | rfl | rfl
                · exact lv_neT hc0 (by decide)
                · exact lv_neT hc1 (by decide)
                · exact lv_neT hc2 (by decide)
              · refine lv_lconst (v := 0) hx hb dX1_tell_107 rfl ?_
                have hq := Option.some.inj h
                exact W.lret (v := 0) hx hb hr (fun t ht hW => qc_mk (congrArg (fun z => Outcome.returned (some (Value.long z))) hq) (by rw [ht]; exact hI.nil)) hI.2.2 dX1_tell_108 hlocks
      · replace h := ite_f hc h
        refine lv_aload_n hx hb dX1_tell_53 rfl (lv_at hl 0 rfl) ?_
        refine lv_iload_n hx hb dX1_tell_54 rfl (lv_at hl 1 rfl) ?_
        refine lv_bipush (v := 40) hx hb dX1_tell_55 (by decide) ?_
        refine lv_isub hx hb dX1_tell_57 ?_
        refine lv_iload_n hx hb dX1_tell_58 rfl (lv_at hl 2 rfl) ?_
        obtain ⟨q_59, hq_59, h⟩ := ob_e h
        refine r_callV (As := [.int (v1 - 40), .int v2]) (rest := []) hx hb hml hts hown (c_X1_inYear l HB D y F n κ σ hN (v1 - 40) v2 G18 e18 q_59 hq_59) cal_X1_inYear im_X1_inYear se_X1_inYear lm_X1_37 ⟨Nat.le_of_ble_eq_true rfl, Nat.le_of_ble_eq_true rfl⟩ hI.nil hKK (r_recv hKK hI (hE1 HB.size y) rfl (lc70 hN) (kc70 hk0)) rfl hl.1 hI.2.2 rfl (Nat.le_of_ble_eq_true rfl) dX1_tell_59 ⟨Nat.le_of_ble_eq_true rfl, Nat.le_of_ble_eq_true rfl⟩ rfl rfl rfl (fun H locs hB hlo => ?_)
        have hI := hB.re hlo
        refine lv_i2l hx hb dX1_tell_62 rfl ?_
        have hq := Option.some.inj h
        exact W.lret (v := q_59.toInt64) hx hb hr (fun t ht hW => qc_mk (congrArg (fun z => Outcome.returned (some (Value.long z))) hq) (by rw [ht]; exact hI.nil)) hI.2.2 dX1_tell_63 hlocks
    · replace h := ite_f hc h
      refine lv_aload_n hx hb dX1_tell_32 rfl (lv_at hl 0 rfl) ?_
      refine gf_X1_15 hx hb hts hown hKK hI hN dX1_tell_33 ?_
      refine lv_iload_n hx hb dX1_tell_36 rfl (lv_at hl 1 rfl) ?_
      refine lv_bipush (v := 20) hx hb dX1_tell_37 (by decide) ?_
      refine lv_isub hx hb dX1_tell_39 ?_
      obtain ⟨hin_, h⟩ := ck_e h
      refine la_35 hx hb hKK hI e18 (lc72 hN) (kc72 hk0) hin_ dX1_tell_40 ?_
      have hq := Option.some.inj h
      exact W.lret (v := (G18.2.1 72 (v1 - 20).toNatClampNeg)) hx hb hr (fun t ht hW => qc_mk (congrArg (fun z => Outcome.returned (some (Value.long z))) hq) (by rw [ht]; exact hI.nil)) hI.2.2 dX1_tell_41 hlocks
  · replace h := ite_f hc h
    refine lv_aload_n hx hb dX1_tell_11 rfl (lv_at hl 0 rfl) ?_
    refine gf_X1_9 hx hb hts hown hKK hI hN dX1_tell_12 ?_
    refine lv_iload_n hx hb dX1_tell_15 rfl (lv_at hl 1 rfl) ?_
    refine lv_bipush (v := 10) hx hb dX1_tell_16 (by decide) ?_
    refine lv_isub hx hb dX1_tell_18 ?_
    obtain ⟨hin_, h⟩ := ck_e h
    refine la_34 hx hb hKK hI e18 (lc71 hN) (kc71 hk0) hin_ dX1_tell_19 ?_
    have hq := Option.some.inj h
    exact W.lret (v := (G18.2.1 71 (v1 - 10).toNatClampNeg)) hx hb hr (fun t ht hW => qc_mk (congrArg (fun z => Outcome.returned (some (Value.long z))) hq) (by rw [ht]; exact hI.nil)) hI.2.2 dX1_tell_20 hlocks
noncomputable def f_X1_addProject (F : Nat) (G19 : Grp) (v1 : Int32) (v2 : Int32) (v3 : Int32) : Option (Int32 × Grp) :=
  if (G19.1 70 7) < 12 then ck (G19.1 70 7) 12 (bn (gI G19 75 (G19.1 70 7).toNatClampNeg v1) (fun G19_20 => ck (G19_20.1 70 7) 12 (bn (gI G19_20 76 (G19_20.1 70 7).toNatClampNeg v2) (fun G19_30 => ck (G19_30.1 70 7) 12 (bn (gI G19_30 77 (G19_30.1 70 7).toNatClampNeg v3) (fun G19_40 => bn (gI G19_40 70 7 ((G19_40.1 70 7) + 1)) (fun G19_48 => some (((G19_48.1 70 7) - 1), G19_48)))))))) else some ((-1), G19)
def RM_X1_addProject : Room := { frames := 0, cells := 0, slots := 0, locals := 0 }
abbrev W_X1_addProject : List Nat := [19]
abbrev B_X1_addProject (HB : Heap) (D : va_G) (y : Nat → ClassId) (n : Nat) (κ : Nat → Nat) (σ0 : St) (q : Int32 × Grp) : Heap → Prop := fun H => ∃ σ : St, IV HB D y n n κ σ [] H ∧ σ 19 = q.2 ∧ ∀ j, j ∉ W_X1_addProject → σ j = σ0 j
set_option maxRecDepth 100000 in
set_option maxHeartbeats 4000000 in
theorem c_X1_addProject (l : Launch) (HB : Heap) (D : va_G) (y : Nat → ClassId) (F n : Nat) (κ : Nat → Nat) (σ0 : St) (hN : N0 ≤ n) (v1 : Int32)  (v2 : Int32)  (v3 : Int32)  (G19 : Grp) (e19 : σ0 19 = G19) (q : Int32 × Grp) (h : f_X1_addProject F G19 v1 v2 v3 = some q) : MT l HB D y yX1_addProject cX1_addProject 4 (some .int) RM_X1_addProject [.ref (HB.size + 70), .int v1, .int v2, .int v3] (IV HB D y n n κ σ0 []) (some (.int q.1)) (B_X1_addProject HB D y n κ σ0 q) := by
  refine Met.ofW (cc := cX1_addProject) (maxL := 4) (ret := (some .int)) (by decide) rfl ?_
  intro p e s m args below meth c s₁ BL hml hv
  obtain ⟨rfl, hI, hKK⟩ := hv
  have hx := BL.exec
  have hb := BL.bytes
  have hr := BL.returns
  have hts : ∀ w ∈ gtb, w.before _ s = true := fun w hw => atoms_spec BL.pre w (List.mem_cons_of_mem _ hw)
  have hml : c.maxLocals = 4 := hml
  have hown : s.vm.findClass RX1 = some m.cls := findClass_of_methodNamed BL.named
  have hlocks := BL.notSynchronized
  have hk0 := hI.1.2.2.2.2
  have hl := lv_entry ([.ref (HB.size + 70), .int v1, .int v2, .int v3]) (n := 4) (Nat.le_of_ble_eq_true rfl)
  rw [lg_entry_eq]
  generalize (lg_sl ([.ref (HB.size + 70), .int v1, .int v2, .int v3]) ++ List.replicate (4 - (lg_sl ([.ref (HB.size + 70), .int v1, .int v2, .int v3])).length) Slot.unset).toArray = ls at hl ⊢
  have hl : lv_has ls 4 [(0, .ref (HB.size + 70)), (1, .int v1), (2, .int v2), (3, .int v3)] := hl
  generalize hargs : ([.ref (HB.size + 70), .int v1, .int v2, .int v3] : List Value).toArray = args at *
  obtain ⟨σ, hI, e19, fr⟩ : ∃ σ : St, IV HB D y n n κ σ [] s.heap ∧ σ 19 = G19 ∧ ∀ j, j ∉ W_X1_addProject → σ j = σ0 j := ⟨σ0, hI, e19, fun _ _ => rfl⟩
  show WX RM_X1_addProject p l e s m args below meth c HB (some (.int q.1)) (B_X1_addProject HB D y n κ σ0 q) s.heap [] (F0 m 0 ls [])
  generalize s.heap = H at hI ⊢
  unfold f_X1_addProject at h
  obtain ⟨locs, hlocs⟩ : ∃ x : List Loc, x = [] := ⟨_, rfl⟩
  rw [← hlocs] at hI ⊢
  refine lv_aload_n hx hb dX1_addProject_0 rfl (lv_at hl 0 rfl) ?_
  refine gt_X1_63 hx hb hts hown hKK hI e19 (lc70 hN) (kc70 hk0) dX1_addProject_1 ?_
  refine lv_bipush (v := 12) hx hb dX1_addProject_4 (by decide) ?_
  refine lv_icmp_lt (tgt := 11) hx hb dX1_addProject_6 (by decide) (fun hc => ?_) (fun hc => ?_)
  · replace h := ite_t hc h
    refine lv_aload_n hx hb dX1_addProject_11 rfl (lv_at hl 0 rfl) ?_
    refine gf_X1_25 hx hb hts hown hKK hI hN dX1_addProject_12 ?_
    refine lv_aload_n hx hb dX1_addProject_15 rfl (lv_at hl 0 rfl) ?_
    refine gt_X1_63 hx hb hts hown hKK hI e19 (lc70 hN) (kc70 hk0) dX1_addProject_16 ?_
    refine lv_iload_n hx hb dX1_addProject_19 rfl (lv_at hl 1 rfl) ?_
    obtain ⟨hin_, h⟩ := ck_e h
    obtain ⟨G19_20, qq, h⟩ := bn_e h
    refine sa_37 hx hb hKK hI e19 (lc75 hN) (kc75 hk0) hin_ dX1_addProject_20 (fun σ H locs hI ew ho => ?_)
    have e19 := ew.trans qq.symm
    have fr := frs fr ho (by decide)
    refine lv_aload_n hx hb dX1_addProject_21 rfl (lv_at hl 0 rfl) ?_
    refine gf_X1_28 hx hb hts hown hKK hI hN dX1_addProject_22 ?_
    refine lv_aload_n hx hb dX1_addProject_25 rfl (lv_at hl 0 rfl) ?_
    refine gt_X1_63 hx hb hts hown hKK hI e19 (lc70 hN) (kc70 hk0) dX1_addProject_26 ?_
    refine lv_iload_n hx hb dX1_addProject_29 rfl (lv_at hl 2 rfl) ?_
    obtain ⟨hin_, h⟩ := ck_e h
    obtain ⟨G19_30, qq, h⟩ := bn_e h
    refine sa_37 hx hb hKK hI e19 (lc76 hN) (kc76 hk0) hin_ dX1_addProject_30 (fun σ H locs hI ew ho => ?_)
    have e19 := ew.trans qq.symm
    have fr := frs fr ho (by decide)
    refine lv_aload_n hx hb dX1_addProject_31 rfl (lv_at hl 0 rfl) ?_
    refine gf_X1_31 hx hb hts hown hKK hI hN dX1_addProject_32 ?_
    refine lv_aload_n hx hb dX1_addProject_35 rfl (lv_at hl 0 rfl) ?_
    refine gt_X1_63 hx hb hts hown hKK hI e19 (lc70 hN) (kc70 hk0) dX1_addProject_36 ?_
    refine lv_iload_n hx hb dX1_addProject_39 rfl (lv_at hl 3 rfl) ?_
    obtain ⟨hin_, h⟩ := ck_e h
    obtain ⟨G19_40, qq, h⟩ := bn_e h
    refine sa_37 hx hb hKK hI e19 (lc77 hN) (kc77 hk0) hin_ dX1_addProject_40 (fun σ H locs hI ew ho => ?_)
    have e19 := ew.trans qq.symm
    have fr := frs fr ho (by decide)
    refine lv_aload_n hx hb dX1_addProject_41 rfl (lv_at hl 0 rfl) ?_
    refine lv_dup hx hb dX1_addProject_42 rfl ?_
    refine gt_X1_63 hx hb hts hown hKK hI e19 (lc70 hN) (kc70 hk0) dX1_addProject_43 ?_
    refine lv_iconst (v := 1) hx hb dX1_addProject_46 (by decide) ?_
    refine lv_iadd hx hb dX1_addProject_47 ?_
    obtain ⟨G19_48, qq, h⟩ := bn_e h
    refine pt_X1_63 hx hb hts hown hKK hI e19 (lc70 hN) (kc70 hk0) dX1_addProject_48 (fun σ H locs hI ew ho => ?_)
    have e19 := ew.trans qq.symm
    have fr := frs fr ho (by decide)
    refine lv_aload_n hx hb dX1_addProject_51 rfl (lv_at hl 0 rfl) ?_
    refine gt_X1_63 hx hb hts hown hKK hI e19 (lc70 hN) (kc70 hk0) dX1_addProject_52 ?_
    refine lv_iconst (v := 1) hx hb dX1_addProject_55 (by decide) ?_
    refine lv_isub hx hb dX1_addProject_56 ?_
    have hq := Option.some.inj h
    exact W.iret (v := ((G19_48.1 70 7) - 1)) hx hb hr (fun t ht hW => qc_mk (congrArg (fun z => Outcome.returned (some (Value.int z.1))) hq) (by rw [ht]; exact ⟨σ, hI.nil, e19.trans (congrArg (fun z => z.2) hq), fr⟩)) hI.2.2 dX1_addProject_57 hlocks
  · replace h := ite_f hc h
    refine lv_iconst (v := (-1)) hx hb dX1_addProject_9 (by decide) ?_
    have hq := Option.some.inj h
    exact W.iret (v := (-1)) hx hb hr (fun t ht hW => qc_mk (congrArg (fun z => Outcome.returned (some (Value.int z.1))) hq) (by rw [ht]; exact ⟨σ, hI.nil, e19.trans (congrArg (fun z => z.2) hq), fr⟩)) hI.2.2 dX1_addProject_10 hlocks
noncomputable def f_X1_openProjects_l4b (F : Nat)  (k4 : Grp → Int32 → Int32 → Int32 → Option (Int32)) (G19 : Grp) (v1 : Int32) (v2 : Int32) (v3 : Int32) : Option (Int32) :=
  if (G19.1 70 7) ≤ v3 then some (v2 &&& ((G19.1 70 8) ^^^ (-1))) else ck v3 12 (if (G19.1 75 v3.toNatClampNeg) = v1 then bn ((v2 ||| (1 <<< (v3 &&& 31)))) (fun v2_27 => bn (v3 + 1) (fun v3_28 => k4 G19 v1 v2_27 v3_28)) else bn (v3 + 1) (fun v3_28 => k4 G19 v1 v2 v3_28))
noncomputable def f_X1_openProjects_l4 (F : Nat)  (fu : Nat) : Grp → Int32 → Int32 → Int32 → Option (Int32) := Nat.rec (motive := fun _ => Grp → Int32 → Int32 → Int32 → Option (Int32)) (fun _ _ _ _ => none) (fun _ ih => f_X1_openProjects_l4b F  ih) fu
noncomputable def f_X1_openProjects (F : Nat) (G19 : Grp) (v1 : Int32) : Option (Int32) :=
  f_X1_openProjects_l4 F  F G19 v1 0 0
def RM_X1_openProjects : Room := { frames := 0, cells := 0, slots := 0, locals := 0 }
abbrev B_X1_openProjects (HB : Heap) (D : va_G) (y : Nat → ClassId) (n : Nat) (κ : Nat → Nat) (σ : St) (q : Int32) : Heap → Prop := fun H => IV HB D y n n κ σ [] H
set_option maxRecDepth 100000 in
set_option maxHeartbeats 4000000 in
theorem c_X1_openProjects (l : Launch) (HB : Heap) (D : va_G) (y : Nat → ClassId) (F n : Nat) (κ : Nat → Nat) (σ : St) (hN : N0 ≤ n) (v1 : Int32)  (G19 : Grp) (e19 : σ 19 = G19) (q : Int32) (h : f_X1_openProjects F G19 v1 = some q) : MT l HB D y yX1_openProjects cX1_openProjects 4 (some .int) RM_X1_openProjects [.ref (HB.size + 70), .int v1] (IV HB D y n n κ σ []) (some (.int q)) (B_X1_openProjects HB D y n κ σ q) := by
  refine Met.ofW (cc := cX1_openProjects) (maxL := 4) (ret := (some .int)) (by decide) rfl ?_
  intro p e s m args below meth c s₁ BL hml hv
  obtain ⟨rfl, hI, hKK⟩ := hv
  have hx := BL.exec
  have hb := BL.bytes
  have hr := BL.returns
  have hts : ∀ w ∈ gtb, w.before _ s = true := fun w hw => atoms_spec BL.pre w (List.mem_cons_of_mem _ hw)
  have hml : c.maxLocals = 4 := hml
  have hown : s.vm.findClass RX1 = some m.cls := findClass_of_methodNamed BL.named
  have hlocks := BL.notSynchronized
  have hk0 := hI.1.2.2.2.2
  have hl := lv_entry ([.ref (HB.size + 70), .int v1]) (n := 4) (Nat.le_of_ble_eq_true rfl)
  rw [lg_entry_eq]
  generalize (lg_sl ([.ref (HB.size + 70), .int v1]) ++ List.replicate (4 - (lg_sl ([.ref (HB.size + 70), .int v1])).length) Slot.unset).toArray = ls at hl ⊢
  have hl : lv_has ls 4 [(0, .ref (HB.size + 70)), (1, .int v1)] := hl
  generalize hargs : ([.ref (HB.size + 70), .int v1] : List Value).toArray = args at *
  have b4 : ∀ (fu : Nat) (H : Heap) (locs : List Loc) (ls : Array Slot) (G19 : Grp) (v1 : Int32) (v2 : Int32) (v3 : Int32) , IV HB D y n n κ σ locs H → σ 19 = G19 → lv_has ls 4 [(0, .ref (HB.size + 70)), (1, .int v1), (2, .int v2), (3, .int v3)] → f_X1_openProjects_l4 F  fu G19 v1 v2 v3 = some q → WX RM_X1_openProjects p l e s m args below meth c HB (some (.int q)) (B_X1_openProjects HB D y n κ σ q) H locs (F0 m 4 ls []) := by
    intro  fu
    induction fu with
    | zero =>
      intro H locs ls G19 v1 v2 v3 hI e19 hl h
      exact absurd h (by intro h; cases h)
    | succ fu hk4 =>
      intro H locs ls G19 v1 v2 v3 hI e19 hl h
      have h : f_X1_openProjects_l4b F  (f_X1_openProjects_l4 F  fu) G19 v1 v2 v3 = some q := h
      generalize f_X1_openProjects_l4 F  fu = k4 at h hk4
      unfold f_X1_openProjects_l4b at h
      refine lv_iload_n hx hb dX1_openProjects_4 rfl (lv_at hl 3 rfl) ?_
      refine lv_aload_n hx hb dX1_openProjects_5 rfl (lv_at hl 0 rfl) ?_
      refine gt_X1_63 hx hb hts hown hKK hI e19 (lc70 hN) (kc70 hk0) dX1_openProjects_6 ?_
      refine lv_icmp_ge (tgt := 34) hx hb dX1_openProjects_9 (by decide) (fun hc => ?_) (fun hc => ?_)
      · replace h := ite_t hc h
        refine lv_iload_n hx hb dX1_openProjects_34 rfl (lv_at hl 2 rfl) ?_
        refine lv_aload_n hx hb dX1_openProjects_35 rfl (lv_at hl 0 rfl) ?_
        refine gt_X1_75 hx hb hts hown hKK hI e19 (lc70 hN) (kc70 hk0) dX1_openProjects_36 ?_
        refine lv_iconst (v := (-1)) hx hb dX1_openProjects_39 (by decide) ?_
        refine lv_ixor hx hb dX1_openProjects_40 ?_
        refine lv_iand hx hb dX1_openProjects_41 ?_
        have hq := Option.some.inj h
        exact W.iret (v := (v2 &&& ((G19.1 70 8) ^^^ (-1)))) hx hb hr (fun t ht hW => qc_mk (congrArg (fun z => Outcome.returned (some (Value.int z))) hq) (by rw [ht]; exact hI.nil)) hI.2.2 dX1_openProjects_42 hlocks
      · replace h := ite_f hc h
        refine lv_aload_n hx hb dX1_openProjects_12 rfl (lv_at hl 0 rfl) ?_
        refine gf_X1_25 hx hb hts hown hKK hI hN dX1_openProjects_13 ?_
        refine lv_iload_n hx hb dX1_openProjects_16 rfl (lv_at hl 3 rfl) ?_
        obtain ⟨hin_, h⟩ := ck_e h
        refine la_37 hx hb hKK hI e19 (lc75 hN) (kc75 hk0) hin_ dX1_openProjects_17 ?_
        refine lv_iload_n hx hb dX1_openProjects_18 rfl (lv_at hl 1 rfl) ?_
        refine lv_icmp_ne (tgt := 28) hx hb dX1_openProjects_19 (by decide) (fun hc => ?_) (fun hc => ?_)
        · replace h := ite_f hc h
          obtain ⟨v3_28, qq, h⟩ := bn_e h
          refine lv_iinc (v := v3_28) (lv' := [(3, .int v3_28), (0, .ref (HB.size + 70)), (1, .int v1), (2, .int v2)]) hx hb dX1_openProjects_28 hl (k := 3) rfl (by rw [qq]; rfl) (by decide) rfl (fun ls hl => ?_)
          refine lv_goto (tgt := 4) hx hb dX1_openProjects_31 (by decide) ?_
          exact hk4 H locs ls G19 v1 v2 v3_28  hI e19 (lv_sub hl [1, 2, 3, 0] rfl) h
        · replace h := ite_t hc h
          refine lv_iload_n hx hb dX1_openProjects_22 rfl (lv_at hl 2 rfl) ?_
          refine lv_iconst (v := 1) hx hb dX1_openProjects_23 (by decide) ?_
          refine lv_iload_n hx hb dX1_openProjects_24 rfl (lv_at hl 3 rfl) ?_
          refine lv_ishl hx hb dX1_openProjects_25 ?_
          refine lv_ior hx hb dX1_openProjects_26 ?_
          obtain ⟨v2_27, qq, h⟩ := bn_e h
          refine topi qq ?_
          refine lv_istore_n (lv' := [(2, .int v2_27), (0, .ref (HB.size + 70)), (1, .int v1), (3, .int v3)]) hx hb dX1_openProjects_27 rfl hl (by decide) rfl (fun ls hl => ?_)
          obtain ⟨v3_28, qq, h⟩ := bn_e h
          refine lv_iinc (v := v3_28) (lv' := [(3, .int v3_28), (2, .int v2_27), (0, .ref (HB.size + 70)), (1, .int v1)]) hx hb dX1_openProjects_28 hl (k := 3) rfl (by rw [qq]; rfl) (by decide) rfl (fun ls hl => ?_)
          refine lv_goto (tgt := 4) hx hb dX1_openProjects_31 (by decide) ?_
          exact hk4 H locs ls G19 v1 v2_27 v3_28  hI e19 (lv_sub hl [2, 3, 1, 0] rfl) h
  show WX RM_X1_openProjects p l e s m args below meth c HB (some (.int q)) (B_X1_openProjects HB D y n κ σ q) s.heap [] (F0 m 0 ls [])
  generalize s.heap = H at hI ⊢
  unfold f_X1_openProjects at h
  obtain ⟨locs, hlocs⟩ : ∃ x : List Loc, x = [] := ⟨_, rfl⟩
  rw [← hlocs] at hI ⊢
  refine lv_iconst (v := 0) hx hb dX1_openProjects_0 (by decide) ?_
  refine lv_istore_n (lv' := [(2, .int 0), (0, .ref (HB.size + 70)), (1, .int v1)]) hx hb dX1_openProjects_1 rfl hl (by decide) rfl (fun ls hl => ?_)
  refine lv_iconst (v := 0) hx hb dX1_openProjects_2 (by decide) ?_
  refine lv_istore_n (lv' := [(3, .int 0), (2, .int 0), (0, .ref (HB.size + 70)), (1, .int v1)]) hx hb dX1_openProjects_3 rfl hl (by decide) rfl (fun ls hl => ?_)
  exact b4  F H locs ls G19 v1 0 0  hI e19 (lv_sub hl [2, 3, 1, 0] rfl) h
noncomputable def f_X1_sumOf_l5b (F : Nat)  (k5 : Grp → Nat → Int32 → Int32 → Int32 → Option (Int32)) (G19 : Grp) (v1 : Nat) (v2 : Int32) (v3 : Int32) (v4 : Int32) : Option (Int32) :=
  if (G19.1 70 7) ≤ v4 then some v3 else if ((v2 >>> (v4 &&& 31)) &&& 1) = 0 then bn ((v3 + 0)) (fun v3_33 => bn (v4 + 1) (fun v4_34 => k5 G19 v1 v2 v3_33 v4_34)) else ck v4 12 (bn ((v3 + (G19.1 v1 v4.toNatClampNeg))) (fun v3_33 => bn (v4 + 1) (fun v4_34 => k5 G19 v1 v2 v3_33 v4_34)))
noncomputable def f_X1_sumOf_l5 (F : Nat)  (fu : Nat) : Grp → Nat → Int32 → Int32 → Int32 → Option (Int32) := Nat.rec (motive := fun _ => Grp → Nat → Int32 → Int32 → Int32 → Option (Int32)) (fun _ _ _ _ _ => none) (fun _ ih => f_X1_sumOf_l5b F  ih) fu
noncomputable def f_X1_sumOf (F : Nat) (G19 : Grp) (v1 : Nat) (v2 : Int32) : Option (Int32) :=
  f_X1_sumOf_l5 F  F G19 v1 v2 0 0
def RM_X1_sumOf : Room := { frames := 0, cells := 0, slots := 0, locals := 0 }
abbrev B_X1_sumOf (HB : Heap) (D : va_G) (y : Nat → ClassId) (n : Nat) (κ : Nat → Nat) (σ : St) (q : Int32) : Heap → Prop := fun H => IV HB D y n n κ σ [] H
set_option maxRecDepth 100000 in
set_option maxHeartbeats 4000000 in
theorem c_X1_sumOf (l : Launch) (HB : Heap) (D : va_G) (y : Nat → ClassId) (F n : Nat) (κ : Nat → Nat) (σ : St) (hN : N0 ≤ n) (v1 : Nat) (ha_v1 : v1 < n) (hk_v1 : κ v1 = 37) (v2 : Int32)  (G19 : Grp) (e19 : σ 19 = G19) (q : Int32) (h : f_X1_sumOf F G19 v1 v2 = some q) : MT l HB D y yX1_sumOf cX1_sumOf 5 (some .int) RM_X1_sumOf [.ref (HB.size + 70), .ref (HB.size + v1), .int v2] (IV HB D y n n κ σ []) (some (.int q)) (B_X1_sumOf HB D y n κ σ q) := by
  refine Met.ofW (cc := cX1_sumOf) (maxL := 5) (ret := (some .int)) (by decide) rfl ?_
  intro p e s m args below meth c s₁ BL hml hv
  obtain ⟨rfl, hI, hKK⟩ := hv
  have hx := BL.exec
  have hb := BL.bytes
  have hr := BL.returns
  have hts : ∀ w ∈ gtb, w.before _ s = true := fun w hw => atoms_spec BL.pre w (List.mem_cons_of_mem _ hw)
  have hml : c.maxLocals = 5 := hml
  have hown : s.vm.findClass RX1 = some m.cls := findClass_of_methodNamed BL.named
  have hlocks := BL.notSynchronized
  have hk0 := hI.1.2.2.2.2
  have hl := lv_entry ([.ref (HB.size + 70), .ref (HB.size + v1), .int v2]) (n := 5) (Nat.le_of_ble_eq_true rfl)
  rw [lg_entry_eq]
  generalize (lg_sl ([.ref (HB.size + 70), .ref (HB.size + v1), .int v2]) ++ List.replicate (5 - (lg_sl ([.ref (HB.size + 70), .ref (HB.size + v1), .int v2])).length) Slot.unset).toArray = ls at hl ⊢
  have hl : lv_has ls 5 [(0, .ref (HB.size + 70)), (1, .ref (HB.size + v1)), (2, .int v2)] := hl
  generalize hargs : ([.ref (HB.size + 70), .ref (HB.size + v1), .int v2] : List Value).toArray = args at *
  have b5 : ∀ (fu : Nat) (H : Heap) (locs : List Loc) (ls : Array Slot) (G19 : Grp) (v1 : Nat) (v2 : Int32) (v3 : Int32) (v4 : Int32) (ha_v1 : v1 < n) (hk_v1 : κ v1 = 37), IV HB D y n n κ σ locs H → σ 19 = G19 → lv_has ls 5 [(0, .ref (HB.size + 70)), (1, .ref (HB.size + v1)), (2, .int v2), (3, .int v3), (4, .int v4)] → f_X1_sumOf_l5 F  fu G19 v1 v2 v3 v4 = some q → WX RM_X1_sumOf p l e s m args below meth c HB (some (.int q)) (B_X1_sumOf HB D y n κ σ q) H locs (F0 m 5 ls []) := by
    intro  fu
    induction fu with
    | zero =>
      intro H locs ls G19 v1 v2 v3 v4 ha_v1 hk_v1 hI e19 hl h
      exact absurd h (by intro h; cases h)
    | succ fu hk5 =>
      intro H locs ls G19 v1 v2 v3 v4 ha_v1 hk_v1 hI e19 hl h
      have h : f_X1_sumOf_l5b F  (f_X1_sumOf_l5 F  fu) G19 v1 v2 v3 v4 = some q := h
      generalize f_X1_sumOf_l5 F  fu = k5 at h hk5
      unfold f_X1_sumOf_l5b at h
      refine lv_iload hx hb dX1_sumOf_5 (lv_at hl 4 rfl) ?_
      refine lv_aload_n hx hb dX1_sumOf_7 rfl (lv_at hl 0 rfl) ?_
      refine gt_X1_63 hx hb hts hown hKK hI e19 (lc70 hN) (kc70 hk0) dX1_sumOf_8 ?_
      refine lv_icmp_ge (tgt := 40) hx hb dX1_sumOf_11 (by decide) (fun hc => ?_) (fun hc => ?_)
      · replace h := ite_t hc h
        refine lv_iload_n hx hb dX1_sumOf_40 rfl (lv_at hl 3 rfl) ?_
        have hq := Option.some.inj h
        exact W.iret (v := v3) hx hb hr (fun t ht hW => qc_mk (congrArg (fun z => Outcome.returned (some (Value.int z))) hq) (by rw [ht]; exact hI.nil)) hI.2.2 dX1_sumOf_41 hlocks
      · replace h := ite_f hc h
        refine lv_iload_n hx hb dX1_sumOf_14 rfl (lv_at hl 3 rfl) ?_
        refine lv_iload_n hx hb dX1_sumOf_15 rfl (lv_at hl 2 rfl) ?_
        refine lv_iload hx hb dX1_sumOf_16 (lv_at hl 4 rfl) ?_
        refine lv_ishr hx hb dX1_sumOf_18 ?_
        refine lv_iconst (v := 1) hx hb dX1_sumOf_19 (by decide) ?_
        refine lv_iand hx hb dX1_sumOf_20 ?_
        refine lv_if_eq (tgt := 31) hx hb dX1_sumOf_21 (by decide) (fun hc => ?_) (fun hc => ?_)
        · replace h := ite_t hc h
          refine lv_iconst (v := 0) hx hb dX1_sumOf_31 (by decide) ?_
          refine lv_iadd hx hb dX1_sumOf_32 ?_
          obtain ⟨v3_33, qq, h⟩ := bn_e h
          refine topi qq ?_
          refine lv_istore_n (lv' := [(3, .int v3_33), (0, .ref (HB.size + 70)), (1, .ref (HB.size + v1)), (2, .int v2), (4, .int v4)]) hx hb dX1_sumOf_33 rfl hl (by decide) rfl (fun ls hl => ?_)
          obtain ⟨v4_34, qq, h⟩ := bn_e h
          refine lv_iinc (v := v4_34) (lv' := [(4, .int v4_34), (3, .int v3_33), (0, .ref (HB.size + 70)), (1, .ref (HB.size + v1)), (2, .int v2)]) hx hb dX1_sumOf_34 hl (k := 4) rfl (by rw [qq]; rfl) (by decide) rfl (fun ls hl => ?_)
          refine lv_goto (tgt := 5) hx hb dX1_sumOf_37 (by decide) ?_
          exact hk5 H locs ls G19 v1 v2 v3_33 v4_34 ha_v1 hk_v1 hI e19 (lv_sub hl [2, 3, 4, 1, 0] rfl) h
        · replace h := ite_f hc h
          refine lv_aload_n hx hb dX1_sumOf_24 rfl (lv_at hl 1 rfl) ?_
          refine lv_iload hx hb dX1_sumOf_25 (lv_at hl 4 rfl) ?_
          obtain ⟨hin_, h⟩ := ck_e h
          refine la_37 hx hb hKK hI e19 ha_v1 hk_v1 hin_ dX1_sumOf_27 ?_
          refine lv_goto (tgt := 32) hx hb dX1_sumOf_28 (by decide) ?_
          refine lv_iadd hx hb dX1_sumOf_32 ?_
          obtain ⟨v3_33, qq, h⟩ := bn_e h
          refine topi qq ?_
          refine lv_istore_n (lv' := [(3, .int v3_33), (0, .ref (HB.size + 70)), (1, .ref (HB.size + v1)), (2, .int v2), (4, .int v4)]) hx hb dX1_sumOf_33 rfl hl (by decide) rfl (fun ls hl => ?_)
          obtain ⟨v4_34, qq, h⟩ := bn_e h
          refine lv_iinc (v := v4_34) (lv' := [(4, .int v4_34), (3, .int v3_33), (0, .ref (HB.size + 70)), (1, .ref (HB.size + v1)), (2, .int v2)]) hx hb dX1_sumOf_34 hl (k := 4) rfl (by rw [qq]; rfl) (by decide) rfl (fun ls hl => ?_)
          refine lv_goto (tgt := 5) hx hb dX1_sumOf_37 (by decide) ?_
          exact hk5 H locs ls G19 v1 v2 v3_33 v4_34 ha_v1 hk_v1 hI e19 (lv_sub hl [2, 3, 4, 1, 0] rfl) h
  show WX RM_X1_sumOf p l e s m args below meth c HB (some (.int q)) (B_X1_sumOf HB D y n κ σ q) s.heap [] (F0 m 0 ls [])
  generalize s.heap = H at hI ⊢
  unfold f_X1_sumOf at h
  obtain ⟨locs, hlocs⟩ : ∃ x : List Loc, x = [] := ⟨_, rfl⟩
  rw [← hlocs] at hI ⊢
  refine lv_iconst (v := 0) hx hb dX1_sumOf_0 (by decide) ?_
  refine lv_istore_n (lv' := [(3, .int 0), (0, .ref (HB.size + 70)), (1, .ref (HB.size + v1)), (2, .int v2)]) hx hb dX1_sumOf_1 rfl hl (by decide) rfl (fun ls hl => ?_)
  refine lv_iconst (v := 0) hx hb dX1_sumOf_2 (by decide) ?_
  refine lv_istore (lv' := [(4, .int 0), (3, .int 0), (0, .ref (HB.size + 70)), (1, .ref (HB.size + v1)), (2, .int v2)]) hx hb dX1_sumOf_3 hl (by decide) rfl (fun ls hl => ?_)
  exact b5  F H locs ls G19 v1 v2 0 0 ha_v1 hk_v1 hI e19 (lv_sub hl [2, 3, 4, 1, 0] rfl) h
noncomputable def f_X1_choose_b85 (F : Nat) (k17 : Grp → Grp → Int32 → Int32 → Int32 → Int32 → Int32 → Int32 → Option (Int32)) (G18 : Grp) (G19 : Grp) (v1 : Int32) (v2 : Int32) (v3 : Int32) (v4 : Int32) (v5 : Int32) (v6 : Int32) (v7 : Int32) (v8 : Int32) (s0 : Int32) : Option (Int32) :=
  if s0 = 0 then bn (v6 + 1) (fun v6_116 => k17 G18 G19 v1 v2 v3 v4 v5 v6_116) else ck v1 6 (if 0 < (lg_cmp (v7.toInt64) (G18.2.1 71 v1.toNatClampNeg)) then bn (v6 + 1) (fun v6_116 => k17 G18 G19 v1 v2 v3 v4 v5 v6_116) else bn (v6 + 1) (fun v6_116 => k17 G18 G19 v1 v2 v6 v8 v7 v6_116))
noncomputable def f_X1_choose_b80 (F : Nat) (k17 : Grp → Grp → Int32 → Int32 → Int32 → Int32 → Int32 → Int32 → Option (Int32)) (G18 : Grp) (G19 : Grp) (v1 : Int32) (v2 : Int32) (v3 : Int32) (v4 : Int32) (v5 : Int32) (v6 : Int32) (v7 : Int32) (v8 : Int32) : Option (Int32) :=
  f_X1_choose_b85 F k17 G18 G19 v1 v2 v3 v4 v5 v6 v7 v8 1
noncomputable def f_X1_choose_b84 (F : Nat) (k17 : Grp → Grp → Int32 → Int32 → Int32 → Int32 → Int32 → Int32 → Option (Int32)) (G18 : Grp) (G19 : Grp) (v1 : Int32) (v2 : Int32) (v3 : Int32) (v4 : Int32) (v5 : Int32) (v6 : Int32) (v7 : Int32) (v8 : Int32) : Option (Int32) :=
  f_X1_choose_b85 F k17 G18 G19 v1 v2 v3 v4 v5 v6 v7 v8 0
noncomputable def f_X1_choose_l17b (F : Nat)  (k17 : Grp → Grp → Int32 → Int32 → Int32 → Int32 → Int32 → Int32 → Option (Int32)) (G18 : Grp) (G19 : Grp) (v1 : Int32) (v2 : Int32) (v3 : Int32) (v4 : Int32) (v5 : Int32) (v6 : Int32) : Option (Int32) :=
  if v2 < v6 then some v3 else if (v6 &&& (v2 ^^^ (-1))) = 0 then ob (f_X1_sumOf F G19 76 v6) (fun q_42 => ob (f_X1_sumOf F G19 77 v6) (fun q_54 => if v4 < q_54 then f_X1_choose_b80 F k17 G18 G19 v1 v2 v3 v4 v5 v6 q_42 q_54 else if q_54 = v4 then if v5 ≤ q_42 then f_X1_choose_b84 F k17 G18 G19 v1 v2 v3 v4 v5 v6 q_42 q_54 else f_X1_choose_b80 F k17 G18 G19 v1 v2 v3 v4 v5 v6 q_42 q_54 else f_X1_choose_b84 F k17 G18 G19 v1 v2 v3 v4 v5 v6 q_42 q_54)) else bn (v6 + 1) (fun v6_116 => k17 G18 G19 v1 v2 v3 v4 v5 v6_116)
noncomputable def f_X1_choose_l17 (F : Nat)  (fu : Nat) : Grp → Grp → Int32 → Int32 → Int32 → Int32 → Int32 → Int32 → Option (Int32) := Nat.rec (motive := fun _ => Grp → Grp → Int32 → Int32 → Int32 → Int32 → Int32 → Int32 → Option (Int32)) (fun _ _ _ _ _ _ _ _ => none) (fun _ ih => f_X1_choose_l17b F  ih) fu
noncomputable def f_X1_choose (F : Nat) (G18 : Grp) (G19 : Grp) (v1 : Int32) : Option (Int32) :=
  ob (f_X1_openProjects F G19 v1) (fun q_2 => f_X1_choose_l17 F  F G18 G19 v1 q_2 0 0 0 1)
def RM_X1_choose : Room := { frames := 1, cells := 0, slots := 0, locals := 24 }
abbrev B_X1_choose (HB : Heap) (D : va_G) (y : Nat → ClassId) (n : Nat) (κ : Nat → Nat) (σ : St) (q : Int32) : Heap → Prop := fun H => IV HB D y n n κ σ [] H
set_option maxRecDepth 100000 in
set_option maxHeartbeats 4000000 in
theorem c_X1_choose (l : Launch) (HB : Heap) (D : va_G) (y : Nat → ClassId) (F n : Nat) (κ : Nat → Nat) (σ : St) (hN : N0 ≤ n) (v1 : Int32)  (G18 : Grp) (e18 : σ 18 = G18) (G19 : Grp) (e19 : σ 19 = G19) (q : Int32) (h : f_X1_choose F G18 G19 v1 = some q) : MT l HB D y yX1_choose cX1_choose 10 (some .int) RM_X1_choose [.ref (HB.size + 70), .int v1] (IV HB D y n n κ σ []) (some (.int q)) (B_X1_choose HB D y n κ σ q) := by
  refine Met.ofW (cc := cX1_choose) (maxL := 10) (ret := (some .int)) (by decide) rfl ?_
  intro p e s m args below meth c s₁ BL hml hv
  obtain ⟨rfl, hI, hKK⟩ := hv
  have hx := BL.exec
  have hb := BL.bytes
  have hr := BL.returns
  have hts : ∀ w ∈ gtb, w.before _ s = true := fun w hw => atoms_spec BL.pre w (List.mem_cons_of_mem _ hw)
  have hml : c.maxLocals = 10 := hml
  have hown : s.vm.findClass RX1 = some m.cls := findClass_of_methodNamed BL.named
  have hlocks := BL.notSynchronized
  have hk0 := hI.1.2.2.2.2
  have hl := lv_entry ([.ref (HB.size + 70), .int v1]) (n := 10) (Nat.le_of_ble_eq_true rfl)
  rw [lg_entry_eq]
  generalize (lg_sl ([.ref (HB.size + 70), .int v1]) ++ List.replicate (10 - (lg_sl ([.ref (HB.size + 70), .int v1])).length) Slot.unset).toArray = ls at hl ⊢
  have hl : lv_has ls 10 [(0, .ref (HB.size + 70)), (1, .int v1)] := hl
  generalize hargs : ([.ref (HB.size + 70), .int v1] : List Value).toArray = args at *
  have b85 : ∀ (k17 : Grp → Grp → Int32 → Int32 → Int32 → Int32 → Int32 → Int32 → Option (Int32)) (hk17 : ∀ (H : Heap) (locs : List Loc) (ls : Array Slot) (G18 : Grp) (G19 : Grp) (v1 : Int32) (v2 : Int32) (v3 : Int32) (v4 : Int32) (v5 : Int32) (v6 : Int32) , IV HB D y n n κ σ locs H → σ 18 = G18 → σ 19 = G19 → lv_has ls 10 [(0, .ref (HB.size + 70)), (1, .int v1), (2, .int v2), (3, .int v3), (4, .int v4), (5, .int v5), (6, .int v6)] → k17 G18 G19 v1 v2 v3 v4 v5 v6 = some q → WX RM_X1_choose p l e s m args below meth c HB (some (.int q)) (B_X1_choose HB D y n κ σ q) H locs (F0 m 17 ls [])) (H : Heap) (locs : List Loc) (ls : Array Slot) (G18 : Grp) (G19 : Grp) (v1 : Int32) (v2 : Int32) (v3 : Int32) (v4 : Int32) (v5 : Int32) (v6 : Int32) (v7 : Int32) (v8 : Int32) (s0 : Int32) , IV HB D y n n κ σ locs H → σ 18 = G18 → σ 19 = G19 → lv_has ls 10 [(0, .ref (HB.size + 70)), (1, .int v1), (2, .int v2), (3, .int v3), (4, .int v4), (5, .int v5), (6, .int v6), (7, .int v7), (8, .int v8)] → f_X1_choose_b85 F k17 G18 G19 v1 v2 v3 v4 v5 v6 v7 v8 s0 = some q → WX RM_X1_choose p l e s m args below meth c HB (some (.int q)) (B_X1_choose HB D y n κ σ q) H locs (F0 m 85 ls [.int s0]) := by
    intro k17 hk17 H locs ls G18 G19 v1 v2 v3 v4 v5 v6 v7 v8 s0 hI e18 e19 hl h
    unfold f_X1_choose_b85 at h
    refine lv_istore (lv' := [(9, .int s0), (0, .ref (HB.size + 70)), (1, .int v1), (2, .int v2), (3, .int v3), (4, .int v4), (5, .int v5), (6, .int v6), (7, .int v7), (8, .int v8)]) hx hb dX1_choose_85 hl (by decide) rfl (fun ls hl => ?_)
    refine lv_iload hx hb dX1_choose_87 (lv_at hl 0 rfl) ?_
    refine lv_if_eq (tgt := 116) hx hb dX1_choose_89 (by decide) (fun hc => ?_) (fun hc => ?_)
    · replace h := ite_t hc h
      obtain ⟨v6_116, qq, h⟩ := bn_e h
      refine lv_iinc (v := v6_116) (lv' := [(6, .int v6_116), (9, .int s0), (0, .ref (HB.size + 70)), (1, .int v1), (2, .int v2), (3, .int v3), (4, .int v4), (5, .int v5), (7, .int v7), (8, .int v8)]) hx hb dX1_choose_116 hl (k := 7) rfl (by rw [qq]; rfl) (by decide) rfl (fun ls hl => ?_)
      refine lv_goto (tgt := 17) hx hb dX1_choose_119 (by decide) ?_
      exact hk17 H locs ls G18 G19 v1 v2 v3 v4 v5 v6_116  hI e18 e19 (lv_sub hl [2, 3, 4, 5, 6, 7, 0] rfl) h
    · replace h := ite_f hc h
      refine lv_iload hx hb dX1_choose_92 (lv_at hl 8 rfl) ?_
      refine lv_i2l hx hb dX1_choose_94 rfl ?_
      refine lv_aload_n hx hb dX1_choose_95 rfl (lv_at hl 1 rfl) ?_
      refine gf_X1_9 hx hb hts hown hKK hI hN dX1_choose_96 ?_
      refine lv_iload_n hx hb dX1_choose_99 rfl (lv_at hl 2 rfl) ?_
      obtain ⟨hin_, h⟩ := ck_e h
      refine la_34 hx hb hKK hI e18 (lc71 hN) (kc71 hk0) hin_ dX1_choose_100 ?_
      refine W.lcmp hx hb dX1_choose_101 ?_
      refine lv_if_gt (tgt := 116) hx hb dX1_choose_102 (by decide) (fun hc => ?_) (fun hc => ?_)
      · replace h := ite_t hc h
        obtain ⟨v6_116, qq, h⟩ := bn_e h
        refine lv_iinc (v := v6_116) (lv' := [(6, .int v6_116), (9, .int s0), (0, .ref (HB.size + 70)), (1, .int v1), (2, .int v2), (3, .int v3), (4, .int v4), (5, .int v5), (7, .int v7), (8, .int v8)]) hx hb dX1_choose_116 hl (k := 7) rfl (by rw [qq]; rfl) (by decide) rfl (fun ls hl => ?_)
        refine lv_goto (tgt := 17) hx hb dX1_choose_119 (by decide) ?_
        exact hk17 H locs ls G18 G19 v1 v2 v3 v4 v5 v6_116  hI e18 e19 (lv_sub hl [2, 3, 4, 5, 6, 7, 0] rfl) h
      · replace h := ite_f hc h
        refine lv_iload hx hb dX1_choose_105 (lv_at hl 7 rfl) ?_
        refine lv_istore_n (lv' := [(3, .int v6), (9, .int s0), (0, .ref (HB.size + 70)), (1, .int v1), (2, .int v2), (4, .int v4), (5, .int v5), (6, .int v6), (7, .int v7), (8, .int v8)]) hx hb dX1_choose_107 rfl hl (by decide) rfl (fun ls hl => ?_)
        refine lv_iload hx hb dX1_choose_108 (lv_at hl 9 rfl) ?_
        refine lv_istore (lv' := [(4, .int v8), (3, .int v6), (9, .int s0), (0, .ref (HB.size + 70)), (1, .int v1), (2, .int v2), (5, .int v5), (6, .int v6), (7, .int v7), (8, .int v8)]) hx hb dX1_choose_110 hl (by decide) rfl (fun ls hl => ?_)
        refine lv_iload hx hb dX1_choose_112 (lv_at hl 8 rfl) ?_
        refine lv_istore (lv' := [(5, .int v7), (4, .int v8), (3, .int v6), (9, .int s0), (0, .ref (HB.size + 70)), (1, .int v1), (2, .int v2), (6, .int v6), (7, .int v7), (8, .int v8)]) hx hb dX1_choose_114 hl (by decide) rfl (fun ls hl => ?_)
        obtain ⟨v6_116, qq, h⟩ := bn_e h
        refine lv_iinc (v := v6_116) (lv' := [(6, .int v6_116), (5, .int v7), (4, .int v8), (3, .int v6), (9, .int s0), (0, .ref (HB.size + 70)), (1, .int v1), (2, .int v2), (7, .int v7), (8, .int v8)]) hx hb dX1_choose_116 hl (k := 7) rfl (by rw [qq]; rfl) (by decide) rfl (fun ls hl => ?_)
        refine lv_goto (tgt := 17) hx hb dX1_choose_119 (by decide) ?_
        exact hk17 H locs ls G18 G19 v1 v2 v6 v8 v7 v6_116  hI e18 e19 (lv_sub hl [5, 6, 7, 3, 2, 1, 0] rfl) h
  have b80 : ∀ (k17 : Grp → Grp → Int32 → Int32 → Int32 → Int32 → Int32 → Int32 → Option (Int32)) (hk17 : ∀ (H : Heap) (locs : List Loc) (ls : Array Slot) (G18 : Grp) (G19 : Grp) (v1 : Int32) (v2 : Int32) (v3 : Int32) (v4 : Int32) (v5 : Int32) (v6 : Int32) , IV HB D y n n κ σ locs H → σ 18 = G18 → σ 19 = G19 → lv_has ls 10 [(0, .ref (HB.size + 70)), (1, .int v1), (2, .int v2), (3, .int v3), (4, .int v4), (5, .int v5), (6, .int v6)] → k17 G18 G19 v1 v2 v3 v4 v5 v6 = some q → WX RM_X1_choose p l e s m args below meth c HB (some (.int q)) (B_X1_choose HB D y n κ σ q) H locs (F0 m 17 ls [])) (H : Heap) (locs : List Loc) (ls : Array Slot) (G18 : Grp) (G19 : Grp) (v1 : Int32) (v2 : Int32) (v3 : Int32) (v4 : Int32) (v5 : Int32) (v6 : Int32) (v7 : Int32) (v8 : Int32) , IV HB D y n n κ σ locs H → σ 18 = G18 → σ 19 = G19 → lv_has ls 10 [(0, .ref (HB.size + 70)), (1, .int v1), (2, .int v2), (3, .int v3), (4, .int v4), (5, .int v5), (6, .int v6), (7, .int v7), (8, .int v8)] → f_X1_choose_b80 F k17 G18 G19 v1 v2 v3 v4 v5 v6 v7 v8 = some q → WX RM_X1_choose p l e s m args below meth c HB (some (.int q)) (B_X1_choose HB D y n κ σ q) H locs (F0 m 80 ls []) := by
    intro k17 hk17 H locs ls G18 G19 v1 v2 v3 v4 v5 v6 v7 v8 hI e18 e19 hl h
    unfold f_X1_choose_b80 at h
    refine lv_iconst (v := 1) hx hb dX1_choose_80 (by decide) ?_
    refine lv_goto (tgt := 85) hx hb dX1_choose_81 (by decide) ?_
    exact b85 k17 hk17 H locs ls G18 G19 v1 v2 v3 v4 v5 v6 v7 v8 1  hI e18 e19 (lv_sub hl [0, 1, 2, 3, 4, 5, 6, 7, 8] rfl) h
  have b84 : ∀ (k17 : Grp → Grp → Int32 → Int32 → Int32 → Int32 → Int32 → Int32 → Option (Int32)) (hk17 : ∀ (H : Heap) (locs : List Loc) (ls : Array Slot) (G18 : Grp) (G19 : Grp) (v1 : Int32) (v2 : Int32) (v3 : Int32) (v4 : Int32) (v5 : Int32) (v6 : Int32) , IV HB D y n n κ σ locs H → σ 18 = G18 → σ 19 = G19 → lv_has ls 10 [(0, .ref (HB.size + 70)), (1, .int v1), (2, .int v2), (3, .int v3), (4, .int v4), (5, .int v5), (6, .int v6)] → k17 G18 G19 v1 v2 v3 v4 v5 v6 = some q → WX RM_X1_choose p l e s m args below meth c HB (some (.int q)) (B_X1_choose HB D y n κ σ q) H locs (F0 m 17 ls [])) (H : Heap) (locs : List Loc) (ls : Array Slot) (G18 : Grp) (G19 : Grp) (v1 : Int32) (v2 : Int32) (v3 : Int32) (v4 : Int32) (v5 : Int32) (v6 : Int32) (v7 : Int32) (v8 : Int32) , IV HB D y n n κ σ locs H → σ 18 = G18 → σ 19 = G19 → lv_has ls 10 [(0, .ref (HB.size + 70)), (1, .int v1), (2, .int v2), (3, .int v3), (4, .int v4), (5, .int v5), (6, .int v6), (7, .int v7), (8, .int v8)] → f_X1_choose_b84 F k17 G18 G19 v1 v2 v3 v4 v5 v6 v7 v8 = some q → WX RM_X1_choose p l e s m args below meth c HB (some (.int q)) (B_X1_choose HB D y n κ σ q) H locs (F0 m 84 ls []) := by
    intro k17 hk17 H locs ls G18 G19 v1 v2 v3 v4 v5 v6 v7 v8 hI e18 e19 hl h
    unfold f_X1_choose_b84 at h
    refine lv_iconst (v := 0) hx hb dX1_choose_84 (by decide) ?_
    exact b85 k17 hk17 H locs ls G18 G19 v1 v2 v3 v4 v5 v6 v7 v8 0  hI e18 e19 (lv_sub hl [0, 1, 2, 3, 4, 5, 6, 7, 8] rfl) h
  have b17 : ∀ (fu : Nat) (H : Heap) (locs : List Loc) (ls : Array Slot) (G18 : Grp) (G19 : Grp) (v1 : Int32) (v2 : Int32) (v3 : Int32) (v4 : Int32) (v5 : Int32) (v6 : Int32) , IV HB D y n n κ σ locs H → σ 18 = G18 → σ 19 = G19 → lv_has ls 10 [(0, .ref (HB.size + 70)), (1, .int v1), (2, .int v2), (3, .int v3), (4, .int v4), (5, .int v5), (6, .int v6)] → f_X1_choose_l17 F  fu G18 G19 v1 v2 v3 v4 v5 v6 = some q → WX RM_X1_choose p l e s m args below meth c HB (some (.int q)) (B_X1_choose HB D y n κ σ q) H locs (F0 m 17 ls []) := by
    intro  fu
    induction fu with
    | zero =>
      intro H locs ls G18 G19 v1 v2 v3 v4 v5 v6 hI e18 e19 hl h
      exact absurd h (by intro h; cases h)
    | succ fu hk17 =>
      intro H locs ls G18 G19 v1 v2 v3 v4 v5 v6 hI e18 e19 hl h
      have h : f_X1_choose_l17b F  (f_X1_choose_l17 F  fu) G18 G19 v1 v2 v3 v4 v5 v6 = some q := h
      generalize f_X1_choose_l17 F  fu = k17 at h hk17
      unfold f_X1_choose_l17b at h
      refine lv_iload hx hb dX1_choose_17 (lv_at hl 6 rfl) ?_
      refine lv_iload_n hx hb dX1_choose_19 rfl (lv_at hl 2 rfl) ?_
      refine lv_icmp_gt (tgt := 122) hx hb dX1_choose_20 (by decide) (fun hc => ?_) (fun hc => ?_)
      · replace h := ite_t hc h
        refine lv_iload_n hx hb dX1_choose_122 rfl (lv_at hl 3 rfl) ?_
        have hq := Option.some.inj h
        exact W.iret (v := v3) hx hb hr (fun t ht hW => qc_mk (congrArg (fun z => Outcome.returned (some (Value.int z))) hq) (by rw [ht]; exact hI.nil)) hI.2.2 dX1_choose_123 hlocks
      · replace h := ite_f hc h
        refine lv_iload hx hb dX1_choose_23 (lv_at hl 6 rfl) ?_
        refine lv_iload_n hx hb dX1_choose_25 rfl (lv_at hl 2 rfl) ?_
        refine lv_iconst (v := (-1)) hx hb dX1_choose_26 (by decide) ?_
        refine lv_ixor hx hb dX1_choose_27 ?_
        refine lv_iand hx hb dX1_choose_28 ?_
        refine lv_if_eq (tgt := 35) hx hb dX1_choose_29 (by decide) (fun hc => ?_) (fun hc => ?_)
        · replace h := ite_t hc h
          refine lv_aload_n hx hb dX1_choose_35 rfl (lv_at hl 0 rfl) ?_
          refine lv_aload_n hx hb dX1_choose_36 rfl (lv_at hl 0 rfl) ?_
          refine gf_X1_28 hx hb hts hown hKK hI hN dX1_choose_37 ?_
          refine lv_iload hx hb dX1_choose_40 (lv_at hl 6 rfl) ?_
          obtain ⟨q_42, hq_42, h⟩ := ob_e h
          refine r_callV (As := [.ref (HB.size + 76), .int v6]) (rest := []) hx hb hml hts hown (c_X1_sumOf l HB D y F n κ σ hN 76 (lc76 hN) (kc76 hk0) v6 G19 e19 q_42 hq_42) cal_X1_sumOf im_X1_sumOf se_X1_sumOf lm_X1_71 ⟨Nat.le_of_ble_eq_true rfl, Nat.le_of_ble_eq_true rfl⟩ hI.nil hKK (r_recv hKK hI (hE1 HB.size y) rfl (lc70 hN) (kc70 hk0)) rfl hl.1 hI.2.2 rfl (Nat.le_of_ble_eq_true rfl) dX1_choose_42 ⟨Nat.le_of_ble_eq_true rfl, Nat.le_of_ble_eq_true rfl⟩ rfl rfl rfl (fun H locs hB hlo => ?_)
          have hI := hB.re hlo
          refine lv_istore (lv' := [(7, .int q_42), (0, .ref (HB.size + 70)), (1, .int v1), (2, .int v2), (3, .int v3), (4, .int v4), (5, .int v5), (6, .int v6)]) hx hb dX1_choose_45 hl (by decide) rfl (fun ls hl => ?_)
          refine lv_aload_n hx hb dX1_choose_47 rfl (lv_at hl 1 rfl) ?_
          refine lv_aload_n hx hb dX1_choose_48 rfl (lv_at hl 1 rfl) ?_
          refine gf_X1_31 hx hb hts hown hKK hI hN dX1_choose_49 ?_
          refine lv_iload hx hb dX1_choose_52 (lv_at hl 7 rfl) ?_
          obtain ⟨q_54, hq_54, h⟩ := ob_e h
          refine r_callV (As := [.ref (HB.size + 77), .int v6]) (rest := []) hx hb hml hts hown (c_X1_sumOf l HB D y F n κ σ hN 77 (lc77 hN) (kc77 hk0) v6 G19 e19 q_54 hq_54) cal_X1_sumOf im_X1_sumOf se_X1_sumOf lm_X1_71 ⟨Nat.le_of_ble_eq_true rfl, Nat.le_of_ble_eq_true rfl⟩ hI.nil hKK (r_recv hKK hI (hE1 HB.size y) rfl (lc70 hN) (kc70 hk0)) rfl hl.1 hI.2.2 rfl (Nat.le_of_ble_eq_true rfl) dX1_choose_54 ⟨Nat.le_of_ble_eq_true rfl, Nat.le_of_ble_eq_true rfl⟩ rfl rfl rfl (fun H locs hB hlo => ?_)
          have hI := hB.re hlo
          refine lv_istore (lv' := [(8, .int q_54), (7, .int q_42), (0, .ref (HB.size + 70)), (1, .int v1), (2, .int v2), (3, .int v3), (4, .int v4), (5, .int v5), (6, .int v6)]) hx hb dX1_choose_57 hl (by decide) rfl (fun ls hl => ?_)
          refine lv_iload hx hb dX1_choose_59 (lv_at hl 0 rfl) ?_
          refine lv_iload hx hb dX1_choose_61 (lv_at hl 6 rfl) ?_
          refine lv_icmp_gt (tgt := 80) hx hb dX1_choose_63 (by decide) (fun hc => ?_) (fun hc => ?_)
          · replace h := ite_t hc h
            exact b80 k17 hk17 H locs ls G18 G19 v1 v2 v3 v4 v5 v6 q_42 q_54  hI e18 e19 (lv_sub hl [2, 3, 4, 5, 6, 7, 8, 1, 0] rfl) h
          · replace h := ite_f hc h
            refine lv_iload hx hb dX1_choose_66 (lv_at hl 0 rfl) ?_
            refine lv_iload hx hb dX1_choose_68 (lv_at hl 6 rfl) ?_
            refine lv_icmp_ne (tgt := 84) hx hb dX1_choose_70 (by decide) (fun hc => ?_) (fun hc => ?_)
            · replace h := ite_f hc h
              exact b84 k17 hk17 H locs ls G18 G19 v1 v2 v3 v4 v5 v6 q_42 q_54  hI e18 e19 (lv_sub hl [2, 3, 4, 5, 6, 7, 8, 1, 0] rfl) h
            · replace h := ite_t hc h
              refine lv_iload hx hb dX1_choose_73 (lv_at hl 1 rfl) ?_
              refine lv_iload hx hb dX1_choose_75 (lv_at hl 7 rfl) ?_
              refine lv_icmp_ge (tgt := 84) hx hb dX1_choose_77 (by decide) (fun hc => ?_) (fun hc => ?_)
              · replace h := ite_t hc h
                exact b84 k17 hk17 H locs ls G18 G19 v1 v2 v3 v4 v5 v6 q_42 q_54  hI e18 e19 (lv_sub hl [2, 3, 4, 5, 6, 7, 8, 1, 0] rfl) h
              · replace h := ite_f hc h
                exact b80 k17 hk17 H locs ls G18 G19 v1 v2 v3 v4 v5 v6 q_42 q_54  hI e18 e19 (lv_sub hl [2, 3, 4, 5, 6, 7, 8, 1, 0] rfl) h
        · replace h := ite_f hc h
          refine lv_goto (tgt := 116) hx hb dX1_choose_32 (by decide) ?_
          obtain ⟨v6_116, qq, h⟩ := bn_e h
          refine lv_iinc (v := v6_116) (lv' := [(6, .int v6_116), (0, .ref (HB.size + 70)), (1, .int v1), (2, .int v2), (3, .int v3), (4, .int v4), (5, .int v5)]) hx hb dX1_choose_116 hl (k := 6) rfl (by rw [qq]; rfl) (by decide) rfl (fun ls hl => ?_)
          refine lv_goto (tgt := 17) hx hb dX1_choose_119 (by decide) ?_
          exact hk17 H locs ls G18 G19 v1 v2 v3 v4 v5 v6_116  hI e18 e19 (lv_sub hl [1, 2, 3, 4, 5, 6, 0] rfl) h
  show WX RM_X1_choose p l e s m args below meth c HB (some (.int q)) (B_X1_choose HB D y n κ σ q) s.heap [] (F0 m 0 ls [])
  generalize s.heap = H at hI ⊢
  unfold f_X1_choose at h
  obtain ⟨locs, hlocs⟩ : ∃ x : List Loc, x = [] := ⟨_, rfl⟩
  rw [← hlocs] at hI ⊢
  refine lv_aload_n hx hb dX1_choose_0 rfl (lv_at hl 0 rfl) ?_
  refine lv_iload_n hx hb dX1_choose_1 rfl (lv_at hl 1 rfl) ?_
  obtain ⟨q_2, hq_2, h⟩ := ob_e h
  refine r_callV (As := [.int v1]) (rest := []) hx hb hml hts hown (c_X1_openProjects l HB D y F n κ σ hN v1 G19 e19 q_2 hq_2) cal_X1_openProjects im_X1_openProjects se_X1_openProjects lm_X1_67 ⟨Nat.le_of_ble_eq_true rfl, Nat.le_of_ble_eq_true rfl⟩ hI.nil hKK (r_recv hKK hI (hE1 HB.size y) rfl (lc70 hN) (kc70 hk0)) rfl hl.1 hI.2.2 rfl (Nat.le_of_ble_eq_true rfl) dX1_choose_2 ⟨Nat.le_of_ble_eq_true rfl, Nat.le_of_ble_eq_true rfl⟩ rfl rfl rfl (fun H locs hB hlo => ?_)
  have hI := hB.re hlo
  refine lv_istore_n (lv' := [(2, .int q_2), (0, .ref (HB.size + 70)), (1, .int v1)]) hx hb dX1_choose_5 rfl hl (by decide) rfl (fun ls hl => ?_)
  refine lv_iconst (v := 0) hx hb dX1_choose_6 (by decide) ?_
  refine lv_istore_n (lv' := [(3, .int 0), (2, .int q_2), (0, .ref (HB.size + 70)), (1, .int v1)]) hx hb dX1_choose_7 rfl hl (by decide) rfl (fun ls hl => ?_)
  refine lv_iconst (v := 0) hx hb dX1_choose_8 (by decide) ?_
  refine lv_istore (lv' := [(4, .int 0), (3, .int 0), (2, .int q_2), (0, .ref (HB.size + 70)), (1, .int v1)]) hx hb dX1_choose_9 hl (by decide) rfl (fun ls hl => ?_)
  refine lv_iconst (v := 0) hx hb dX1_choose_11 (by decide) ?_
  refine lv_istore (lv' := [(5, .int 0), (4, .int 0), (3, .int 0), (2, .int q_2), (0, .ref (HB.size + 70)), (1, .int v1)]) hx hb dX1_choose_12 hl (by decide) rfl (fun ls hl => ?_)
  refine lv_iconst (v := 1) hx hb dX1_choose_14 (by decide) ?_
  refine lv_istore (lv' := [(6, .int 1), (5, .int 0), (4, .int 0), (3, .int 0), (2, .int q_2), (0, .ref (HB.size + 70)), (1, .int v1)]) hx hb dX1_choose_15 hl (by decide) rfl (fun ls hl => ?_)
  exact b17  F H locs ls G18 G19 v1 q_2 0 0 0 1  hI e18 e19 (lv_sub hl [5, 6, 4, 3, 2, 1, 0] rfl) h
noncomputable def f_X1_buildChosen (F : Nat) (G18 : Grp) (G19 : Grp) (v1 : Int32) : Option (Int32 × Grp × Grp) :=
  ob (f_X1_choose F G18 G19 v1) (fun q_2 => if q_2 = 0 then some ((-1), G18, G19) else ob (f_X1_sumOf F G19 76 q_2) (fun q_18 => bn (gI G19 70 8 ((G19.1 70 8) ||| q_2)) (fun G19_29 => ck v1 6 (ck v1 6 (bn (gJ G18 71 v1.toNatClampNeg ((G18.2.1 71 v1.toNatClampNeg) - q_18.toInt64)) (fun G18_42 => bn (gJ G18_42 70 2 ((G18_42.2.1 70 2) + q_18.toInt64)) (fun G18_51 => some (q_18, G18_51, G19_29))))))))
def RM_X1_buildChosen : Room := { frames := 2, cells := 0, slots := 0, locals := 53 }
abbrev W_X1_buildChosen : List Nat := [18, 19]
abbrev B_X1_buildChosen (HB : Heap) (D : va_G) (y : Nat → ClassId) (n : Nat) (κ : Nat → Nat) (σ0 : St) (q : Int32 × Grp × Grp) : Heap → Prop := fun H => ∃ σ : St, IV HB D y n n κ σ [] H ∧ σ 18 = q.2.1 ∧ σ 19 = q.2.2 ∧ ∀ j, j ∉ W_X1_buildChosen → σ j = σ0 j
set_option maxRecDepth 100000 in
set_option maxHeartbeats 4000000 in
theorem c_X1_buildChosen (l : Launch) (HB : Heap) (D : va_G) (y : Nat → ClassId) (F n : Nat) (κ : Nat → Nat) (σ0 : St) (hN : N0 ≤ n) (v1 : Int32)  (G18 : Grp) (e18 : σ0 18 = G18) (G19 : Grp) (e19 : σ0 19 = G19) (q : Int32 × Grp × Grp) (h : f_X1_buildChosen F G18 G19 v1 = some q) : MT l HB D y yX1_buildChosen cX1_buildChosen 4 (some .int) RM_X1_buildChosen [.ref (HB.size + 70), .int v1] (IV HB D y n n κ σ0 []) (some (.int q.1)) (B_X1_buildChosen HB D y n κ σ0 q) := by
  refine Met.ofW (cc := cX1_buildChosen) (maxL := 4) (ret := (some .int)) (by decide) rfl ?_
  intro p e s m args below meth c s₁ BL hml hv
  obtain ⟨rfl, hI, hKK⟩ := hv
  have hx := BL.exec
  have hb := BL.bytes
  have hr := BL.returns
  have hts : ∀ w ∈ gtb, w.before _ s = true := fun w hw => atoms_spec BL.pre w (List.mem_cons_of_mem _ hw)
  have hml : c.maxLocals = 4 := hml
  have hown : s.vm.findClass RX1 = some m.cls := findClass_of_methodNamed BL.named
  have hlocks := BL.notSynchronized
  have hk0 := hI.1.2.2.2.2
  have hl := lv_entry ([.ref (HB.size + 70), .int v1]) (n := 4) (Nat.le_of_ble_eq_true rfl)
  rw [lg_entry_eq]
  generalize (lg_sl ([.ref (HB.size + 70), .int v1]) ++ List.replicate (4 - (lg_sl ([.ref (HB.size + 70), .int v1])).length) Slot.unset).toArray = ls at hl ⊢
  have hl : lv_has ls 4 [(0, .ref (HB.size + 70)), (1, .int v1)] := hl
  generalize hargs : ([.ref (HB.size + 70), .int v1] : List Value).toArray = args at *
  obtain ⟨σ, hI, e18, e19, fr⟩ : ∃ σ : St, IV HB D y n n κ σ [] s.heap ∧ σ 18 = G18 ∧ σ 19 = G19 ∧ ∀ j, j ∉ W_X1_buildChosen → σ j = σ0 j := ⟨σ0, hI, e18, e19, fun _ _ => rfl⟩
  show WX RM_X1_buildChosen p l e s m args below meth c HB (some (.int q.1)) (B_X1_buildChosen HB D y n κ σ0 q) s.heap [] (F0 m 0 ls [])
  generalize s.heap = H at hI ⊢
  unfold f_X1_buildChosen at h
  obtain ⟨locs, hlocs⟩ : ∃ x : List Loc, x = [] := ⟨_, rfl⟩
  rw [← hlocs] at hI ⊢
  refine lv_aload_n hx hb dX1_buildChosen_0 rfl (lv_at hl 0 rfl) ?_
  refine lv_iload_n hx hb dX1_buildChosen_1 rfl (lv_at hl 1 rfl) ?_
  obtain ⟨q_2, hq_2, h⟩ := ob_e h
  refine r_callV (As := [.int v1]) (rest := []) hx hb hml hts hown (c_X1_choose l HB D y F n κ σ hN v1 G18 e18 G19 e19 q_2 hq_2) cal_X1_choose im_X1_choose se_X1_choose lm_X1_78 ⟨Nat.le_of_ble_eq_true rfl, Nat.le_of_ble_eq_true rfl⟩ hI.nil hKK (r_recv hKK hI (hE1 HB.size y) rfl (lc70 hN) (kc70 hk0)) rfl hl.1 hI.2.2 rfl (Nat.le_of_ble_eq_true rfl) dX1_buildChosen_2 ⟨Nat.le_of_ble_eq_true rfl, Nat.le_of_ble_eq_true rfl⟩ rfl rfl rfl (fun H locs hB hlo => ?_)
  have hI := hB.re hlo
  refine lv_istore_n (lv' := [(2, .int q_2), (0, .ref (HB.size + 70)), (1, .int v1)]) hx hb dX1_buildChosen_5 rfl hl (by decide) rfl (fun ls hl => ?_)
  refine lv_iload_n hx hb dX1_buildChosen_6 rfl (lv_at hl 0 rfl) ?_
  refine lv_if_ne (tgt := 12) hx hb dX1_buildChosen_7 (by decide) (fun hc => ?_) (fun hc => ?_)
  · replace h := ite_f hc h
    refine lv_aload_n hx hb dX1_buildChosen_12 rfl (lv_at hl 1 rfl) ?_
    refine lv_aload_n hx hb dX1_buildChosen_13 rfl (lv_at hl 1 rfl) ?_
    refine gf_X1_28 hx hb hts hown hKK hI hN dX1_buildChosen_14 ?_
    refine lv_iload_n hx hb dX1_buildChosen_17 rfl (lv_at hl 0 rfl) ?_
    obtain ⟨q_18, hq_18, h⟩ := ob_e h
    refine r_callV (As := [.ref (HB.size + 76), .int q_2]) (rest := []) hx hb hml hts hown (c_X1_sumOf l HB D y F n κ σ hN 76 (lc76 hN) (kc76 hk0) q_2 G19 e19 q_18 hq_18) cal_X1_sumOf im_X1_sumOf se_X1_sumOf lm_X1_71 ⟨Nat.le_of_ble_eq_true rfl, Nat.le_of_ble_eq_true rfl⟩ hI.nil hKK (r_recv hKK hI (hE1 HB.size y) rfl (lc70 hN) (kc70 hk0)) rfl hl.1 hI.2.2 rfl (Nat.le_of_ble_eq_true rfl) dX1_buildChosen_18 ⟨Nat.le_of_ble_eq_true rfl, Nat.le_of_ble_eq_true rfl⟩ rfl rfl rfl (fun H locs hB hlo => ?_)
    have hI := hB.re hlo
    refine lv_istore_n (lv' := [(3, .int q_18), (2, .int q_2), (0, .ref (HB.size + 70)), (1, .int v1)]) hx hb dX1_buildChosen_21 rfl hl (by decide) rfl (fun ls hl => ?_)
    refine lv_aload_n hx hb dX1_buildChosen_22 rfl (lv_at hl 2 rfl) ?_
    refine lv_dup hx hb dX1_buildChosen_23 rfl ?_
    refine gt_X1_75 hx hb hts hown hKK hI e19 (lc70 hN) (kc70 hk0) dX1_buildChosen_24 ?_
    refine lv_iload_n hx hb dX1_buildChosen_27 rfl (lv_at hl 1 rfl) ?_
    refine lv_ior hx hb dX1_buildChosen_28 ?_
    obtain ⟨G19_29, qq, h⟩ := bn_e h
    refine pt_X1_75 hx hb hts hown hKK hI e19 (lc70 hN) (kc70 hk0) dX1_buildChosen_29 (fun σ H locs hI ew ho => ?_)
    have e19 := ew.trans qq.symm
    have e18 := (ho 18 (nn rfl)).trans e18
    have fr := frs fr ho (by decide)
    refine lv_aload_n hx hb dX1_buildChosen_32 rfl (lv_at hl 2 rfl) ?_
    refine gf_X1_9 hx hb hts hown hKK hI hN dX1_buildChosen_33 ?_
    refine lv_iload_n hx hb dX1_buildChosen_36 rfl (lv_at hl 3 rfl) ?_
    refine lv_dup2_11 hx hb dX1_buildChosen_37 rfl rfl ?_
    obtain ⟨hin_, h⟩ := ck_e h
    refine la_34 hx hb hKK hI e18 (lc71 hN) (kc71 hk0) hin_ dX1_buildChosen_38 ?_
    refine lv_iload_n hx hb dX1_buildChosen_39 rfl (lv_at hl 0 rfl) ?_
    refine lv_i2l hx hb dX1_buildChosen_40 rfl ?_
    refine lv_lsub hx hb dX1_buildChosen_41 ?_
    obtain ⟨hin_, h⟩ := ck_e h
    obtain ⟨G18_42, qq, h⟩ := bn_e h
    refine sa_34 hx hb hKK hI e18 (lc71 hN) (kc71 hk0) hin_ dX1_buildChosen_42 (fun σ H locs hI ew ho => ?_)
    have e18 := ew.trans qq.symm
    have e19 := (ho 19 (nn rfl)).trans e19
    have fr := frs fr ho (by decide)
    refine lv_aload_n hx hb dX1_buildChosen_43 rfl (lv_at hl 2 rfl) ?_
    refine lv_dup hx hb dX1_buildChosen_44 rfl ?_
    refine gt_X1_60 hx hb hts hown hKK hI e18 (lc70 hN) (kc70 hk0) dX1_buildChosen_45 ?_
    refine lv_iload_n hx hb dX1_buildChosen_48 rfl (lv_at hl 0 rfl) ?_
    refine lv_i2l hx hb dX1_buildChosen_49 rfl ?_
    refine lv_ladd hx hb dX1_buildChosen_50 ?_
    obtain ⟨G18_51, qq, h⟩ := bn_e h
    refine pt_X1_60 hx hb hts hown hKK hI e18 (lc70 hN) (kc70 hk0) dX1_buildChosen_51 (fun σ H locs hI ew ho => ?_)
    have e18 := ew.trans qq.symm
    have e19 := (ho 19 (nn rfl)).trans e19
    have fr := frs fr ho (by decide)
    refine lv_iload_n hx hb dX1_buildChosen_54 rfl (lv_at hl 0 rfl) ?_
    have hq := Option.some.inj h
    exact W.iret (v := q_18) hx hb hr (fun t ht hW => qc_mk (congrArg (fun z => Outcome.returned (some (Value.int z.1))) hq) (by rw [ht]; exact ⟨σ, hI.nil, e18.trans (congrArg (fun z => z.2.1) hq), e19.trans (congrArg (fun z => z.2.2) hq), fr⟩)) hI.2.2 dX1_buildChosen_55 hlocks
  · replace h := ite_t hc h
    refine lv_iconst (v := (-1)) hx hb dX1_buildChosen_10 (by decide) ?_
    have hq := Option.some.inj h
    exact W.iret (v := (-1)) hx hb hr (fun t ht hW => qc_mk (congrArg (fun z => Outcome.returned (some (Value.int z.1))) hq) (by rw [ht]; exact ⟨σ, hI.nil, e18.trans (congrArg (fun z => z.2.1) hq), e19.trans (congrArg (fun z => z.2.2) hq), fr⟩)) hI.2.2 dX1_buildChosen_11 hlocks
noncomputable def f_X2_gather_b107 (F : Nat) (k13 : Grp → Grp → Nat → Nat → Int32 → Int32 → Int32 → Int32 → Option (Grp)) (G3 : Grp) (G5 : Grp) (v0 : Nat) (v1 : Nat) (v2 : Int32) (v3 : Int32) (v4 : Int32) (v5 : Int32) : Option (Grp) :=
  ck v5 ((G3.2.2 v1 0).getD 0) (if (G3.1 v1 v5.toNatClampNeg) = 10 then bn (v3 + 1) (fun v3_116 => bn (v5 + 1) (fun v5_119 => k13 G3 G5 v0 v1 v2 v3_116 v4 v5_119)) else bn (v5 + 1) (fun v5_119 => k13 G3 G5 v0 v1 v2 v3 v4 v5_119))
noncomputable def f_X2_gather_l13b (F : Nat)  (k13 : Grp → Grp → Nat → Nat → Int32 → Int32 → Int32 → Int32 → Option (Grp)) (G3 : Grp) (G5 : Grp) (v0 : Nat) (v1 : Nat) (v2 : Int32) (v3 : Int32) (v4 : Int32) (v5 : Int32) : Option (Grp) :=
  if v2 ≤ v5 then some G5 else if v5 < v4 then f_X2_gather_b107 F k13 G3 G5 v0 v1 v2 v3 v4 v5 else ck v5 160 (if (G5.1 (v0 + 5) v5.toNatClampNeg) = (-1) then f_X2_gather_b107 F k13 G3 G5 v0 v1 v2 v3 v4 v5 else ck v5 160 (bn ((G5.1 (v0 + 6) v5.toNatClampNeg)) (fun v4_44 => ck v5 160 (ck (G5.1 v0 0) 160 (bn (gI G5 (v0 + 1) (G5.1 v0 0).toNatClampNeg (G5.1 (v0 + 5) v5.toNatClampNeg)) (fun G5_61 => ck (G5_61.1 v0 0) 160 (bn (gI G5_61 (v0 + 2) (G5_61.1 v0 0).toNatClampNeg v5) (fun G5_72 => ck (G5_72.1 v0 0) 160 (bn (gI G5_72 (v0 + 3) (G5_72.1 v0 0).toNatClampNeg (v4_44 - v5)) (fun G5_86 => ck (G5_86.1 v0 0) 160 (bn (gI G5_86 (v0 + 4) (G5_86.1 v0 0).toNatClampNeg v3) (fun G5_96 => bn (gI G5_96 v0 0 ((G5_96.1 v0 0) + 1)) (fun G5_104 => f_X2_gather_b107 F k13 G3 G5_104 v0 v1 v2 v3 v4_44 v5)))))))))))))
noncomputable def f_X2_gather_l13 (F : Nat)  (fu : Nat) : Grp → Grp → Nat → Nat → Int32 → Int32 → Int32 → Int32 → Option (Grp) := Nat.rec (motive := fun _ => Grp → Grp → Nat → Nat → Int32 → Int32 → Int32 → Int32 → Option (Grp)) (fun _ _ _ _ _ _ _ _ => none) (fun _ ih => f_X2_gather_l13b F  ih) fu
noncomputable def f_X2_gather (F : Nat) (G3 : Grp) (G5 : Grp) (v0 : Nat) (v1 : Nat) (v2 : Int32) : Option (Grp) :=
  bn (gI G5 v0 0 0) (fun G5_2 => f_X2_gather_l13 F  F G3 G5_2 v0 v1 v2 0 0 0)
def RM_X2_gather : Room := { frames := 0, cells := 0, slots := 0, locals := 0 }
abbrev W_X2_gather : List Nat := [5]
abbrev B_X2_gather (HB : Heap) (D : va_G) (y : Nat → ClassId) (n : Nat) (κ : Nat → Nat) (σ0 : St) (q : Grp) : Heap → Prop := fun H => ∃ σ : St, IV HB D y n n κ σ [] H ∧ σ 5 = q ∧ ∀ j, j ∉ W_X2_gather → σ j = σ0 j
set_option maxRecDepth 100000 in
set_option maxHeartbeats 4000000 in
theorem c_X2_gather (l : Launch) (HB : Heap) (D : va_G) (y : Nat → ClassId) (F n : Nat) (κ : Nat → Nat) (σ0 : St) (hN : N0 ≤ n) (v0 : Nat) (ha_v0 : v0 < n) (hk_v0 : κ v0 = 2) (v1 : Nat) (ha_v1 : v1 < n) (hk_v1 : κ v1 = 13) (v2 : Int32)  (G3 : Grp) (e3 : σ0 3 = G3) (G5 : Grp) (e5 : σ0 5 = G5) (q : Grp) (h : f_X2_gather F G3 G5 v0 v1 v2 = some q) : MT l HB D y yX2_gather cX2_gather 6 none RM_X2_gather [.ref (HB.size + v0), .ref (HB.size + v1), .int v2] (IV HB D y n n κ σ0 []) none (B_X2_gather HB D y n κ σ0 q) := by
  refine Met.ofW (cc := cX2_gather) (maxL := 6) (ret := none) (by decide) rfl ?_
  intro p e s m args below meth c s₁ BL hml hv
  obtain ⟨rfl, hI, hKK⟩ := hv
  have hx := BL.exec
  have hb := BL.bytes
  have hr := BL.returns
  have hts : ∀ w ∈ gtb, w.before _ s = true := fun w hw => atoms_spec BL.pre w (List.mem_cons_of_mem _ hw)
  have hml : c.maxLocals = 6 := hml
  have hown : s.vm.findClass RX2 = some m.cls := findClass_of_methodNamed BL.named
  have hlocks := BL.notSynchronized
  have hk0 := hI.1.2.2.2.2
  have hl := lv_entry ([.ref (HB.size + v0), .ref (HB.size + v1), .int v2]) (n := 6) (Nat.le_of_ble_eq_true rfl)
  rw [lg_entry_eq]
  generalize (lg_sl ([.ref (HB.size + v0), .ref (HB.size + v1), .int v2]) ++ List.replicate (6 - (lg_sl ([.ref (HB.size + v0), .ref (HB.size + v1), .int v2])).length) Slot.unset).toArray = ls at hl ⊢
  have hl : lv_has ls 6 [(0, .ref (HB.size + v0)), (1, .ref (HB.size + v1)), (2, .int v2)] := hl
  generalize hargs : ([.ref (HB.size + v0), .ref (HB.size + v1), .int v2] : List Value).toArray = args at *
  have b107 : ∀ (k13 : Grp → Grp → Nat → Nat → Int32 → Int32 → Int32 → Int32 → Option (Grp)) (hk13 : ∀ (σ : St) (H : Heap) (locs : List Loc) (ls : Array Slot) (G3 : Grp) (G5 : Grp) (v0 : Nat) (v1 : Nat) (v2 : Int32) (v3 : Int32) (v4 : Int32) (v5 : Int32) (ha_v0 : v0 < n) (hk_v0 : κ v0 = 2) (ha_v1 : v1 < n) (hk_v1 : κ v1 = 13), IV HB D y n n κ σ locs H → σ 3 = G3 → σ 5 = G5 → (∀ j, j ∉ W_X2_gather → σ j = σ0 j) → lv_has ls 6 [(0, .ref (HB.size + v0)), (1, .ref (HB.size + v1)), (2, .int v2), (3, .int v3), (4, .int v4), (5, .int v5)] → k13 G3 G5 v0 v1 v2 v3 v4 v5 = some q → WX RM_X2_gather p l e s m args below meth c HB none (B_X2_gather HB D y n κ σ0 q) H locs (F0 m 13 ls [])) (σ : St) (H : Heap) (locs : List Loc) (ls : Array Slot) (G3 : Grp) (G5 : Grp) (v0 : Nat) (v1 : Nat) (v2 : Int32) (v3 : Int32) (v4 : Int32) (v5 : Int32) (ha_v0 : v0 < n) (hk_v0 : κ v0 = 2) (ha_v1 : v1 < n) (hk_v1 : κ v1 = 13), IV HB D y n n κ σ locs H → σ 3 = G3 → σ 5 = G5 → (∀ j, j ∉ W_X2_gather → σ j = σ0 j) → lv_has ls 6 [(0, .ref (HB.size + v0)), (1, .ref (HB.size + v1)), (2, .int v2), (3, .int v3), (4, .int v4), (5, .int v5)] → f_X2_gather_b107 F k13 G3 G5 v0 v1 v2 v3 v4 v5 = some q → WX RM_X2_gather p l e s m args below meth c HB none (B_X2_gather HB D y n κ σ0 q) H locs (F0 m 107 ls []) := by
    intro k13 hk13 σ H locs ls G3 G5 v0 v1 v2 v3 v4 v5 ha_v0 hk_v0 ha_v1 hk_v1 hI e3 e5 fr hl h
    unfold f_X2_gather_b107 at h
    refine lv_aload_n hx hb dX2_gather_107 rfl (lv_at hl 1 rfl) ?_
    refine lv_iload hx hb dX2_gather_108 (lv_at hl 5 rfl) ?_
    obtain ⟨hin_, h⟩ := ck_e h
    refine la_13 hx hb hKK hI e3 ha_v1 hk_v1 hin_ dX2_gather_110 ?_
    refine lv_bipush (v := 10) hx hb dX2_gather_111 (by decide) ?_
    refine lv_icmp_ne (tgt := 119) hx hb dX2_gather_113 (by decide) (fun hc => ?_) (fun hc => ?_)
    · replace h := ite_f hc h
      obtain ⟨v5_119, qq, h⟩ := bn_e h
      refine lv_iinc (v := v5_119) (lv' := [(5, .int v5_119), (0, .ref (HB.size + v0)), (1, .ref (HB.size + v1)), (2, .int v2), (3, .int v3), (4, .int v4)]) hx hb dX2_gather_119 hl (k := 5) rfl (by rw [qq]; rfl) (by decide) rfl (fun ls hl => ?_)
      refine lv_goto (tgt := 13) hx hb dX2_gather_122 (by decide) ?_
      exact hk13 σ H locs ls G3 G5 v0 v1 v2 v3 v4 v5_119 ha_v0 hk_v0 ha_v1 hk_v1 hI e3 e5 fr (lv_sub hl [1, 2, 3, 4, 5, 0] rfl) h
    · replace h := ite_t hc h
      obtain ⟨v3_116, qq, h⟩ := bn_e h
      refine lv_iinc (v := v3_116) (lv' := [(3, .int v3_116), (0, .ref (HB.size + v0)), (1, .ref (HB.size + v1)), (2, .int v2), (4, .int v4), (5, .int v5)]) hx hb dX2_gather_116 hl (k := 3) rfl (by rw [qq]; rfl) (by decide) rfl (fun ls hl => ?_)
      obtain ⟨v5_119, qq, h⟩ := bn_e h
      refine lv_iinc (v := v5_119) (lv' := [(5, .int v5_119), (3, .int v3_116), (0, .ref (HB.size + v0)), (1, .ref (HB.size + v1)), (2, .int v2), (4, .int v4)]) hx hb dX2_gather_119 hl (k := 5) rfl (by rw [qq]; rfl) (by decide) rfl (fun ls hl => ?_)
      refine lv_goto (tgt := 13) hx hb dX2_gather_122 (by decide) ?_
      exact hk13 σ H locs ls G3 G5 v0 v1 v2 v3_116 v4 v5_119 ha_v0 hk_v0 ha_v1 hk_v1 hI e3 e5 fr (lv_sub hl [2, 3, 4, 1, 5, 0] rfl) h
  have b13 : ∀ (fu : Nat) (σ : St) (H : Heap) (locs : List Loc) (ls : Array Slot) (G3 : Grp) (G5 : Grp) (v0 : Nat) (v1 : Nat) (v2 : Int32) (v3 : Int32) (v4 : Int32) (v5 : Int32) (ha_v0 : v0 < n) (hk_v0 : κ v0 = 2) (ha_v1 : v1 < n) (hk_v1 : κ v1 = 13), IV HB D y n n κ σ locs H → σ 3 = G3 → σ 5 = G5 → (∀ j, j ∉ W_X2_gather → σ j = σ0 j) → lv_has ls 6 [(0, .ref (HB.size + v0)), (1, .ref (HB.size + v1)), (2, .int v2), (3, .int v3), (4, .int v4), (5, .int v5)] → f_X2_gather_l13 F  fu G3 G5 v0 v1 v2 v3 v4 v5 = some q → WX RM_X2_gather p l e s m args below meth c HB none (B_X2_gather HB D y n κ σ0 q) H locs (F0 m 13 ls []) := by
    intro  fu
    induction fu with
    | zero =>
      intro σ H locs ls G3 G5 v0 v1 v2 v3 v4 v5 ha_v0 hk_v0 ha_v1 hk_v1 hI e3 e5 fr hl h
      exact absurd h (by intro h; cases h)
    | succ fu hk13 =>
      intro σ H locs ls G3 G5 v0 v1 v2 v3 v4 v5 ha_v0 hk_v0 ha_v1 hk_v1 hI e3 e5 fr hl h
      have h : f_X2_gather_l13b F  (f_X2_gather_l13 F  fu) G3 G5 v0 v1 v2 v3 v4 v5 = some q := h
      generalize f_X2_gather_l13 F  fu = k13 at h hk13
      unfold f_X2_gather_l13b at h
      refine lv_iload hx hb dX2_gather_13 (lv_at hl 5 rfl) ?_
      refine lv_iload_n hx hb dX2_gather_15 rfl (lv_at hl 2 rfl) ?_
      refine lv_icmp_ge (tgt := 125) hx hb dX2_gather_16 (by decide) (fun hc => ?_) (fun hc => ?_)
      · replace h := ite_t hc h
        have hq := Option.some.inj h
        exact W.vret hx hb hr (fun t ht hW => qc_mk (rfl) (by rw [ht]; exact ⟨σ, hI.nil, e5.trans (congrArg (fun z => z) hq), fr⟩)) hI.2.2 dX2_gather_125 hlocks
      · replace h := ite_f hc h
        refine lv_iload hx hb dX2_gather_19 (lv_at hl 5 rfl) ?_
        refine lv_iload hx hb dX2_gather_21 (lv_at hl 4 rfl) ?_
        refine lv_icmp_lt (tgt := 107) hx hb dX2_gather_23 (by decide) (fun hc => ?_) (fun hc => ?_)
        · replace h := ite_t hc h
          exact b107 k13 hk13 σ H locs ls G3 G5 v0 v1 v2 v3 v4 v5 ha_v0 hk_v0 ha_v1 hk_v1 hI e3 e5 fr (lv_sub hl [0, 1, 2, 3, 4, 5] rfl) h
        · replace h := ite_f hc h
          refine lv_aload_n hx hb dX2_gather_26 rfl (lv_at hl 0 rfl) ?_
          refine gf_X2_24 hx hb hts hown hKK hI ha_v0 hk_v0 dX2_gather_27 ?_
          refine lv_iload hx hb dX2_gather_30 (lv_at hl 5 rfl) ?_
          obtain ⟨hin_, h⟩ := ck_e h
          refine la_18 hx hb hKK hI e5 (ownF hI ha_v0 hk_v0 4 rfl).2.1 (ownF hI ha_v0 hk_v0 4 rfl).2.2 hin_ dX2_gather_32 ?_
          refine lv_iconst (v := (-1)) hx hb dX2_gather_33 (by decide) ?_
          refine lv_icmp_eq (tgt := 107) hx hb dX2_gather_34 (by decide) (fun hc => ?_) (fun hc => ?_)
          · replace h := ite_t hc h
            exact b107 k13 hk13 σ H locs ls G3 G5 v0 v1 v2 v3 v4 v5 ha_v0 hk_v0 ha_v1 hk_v1 hI e3 e5 fr (lv_sub hl [0, 1, 2, 3, 4, 5] rfl) h
          · replace h := ite_f hc h
            refine lv_aload_n hx hb dX2_gather_37 rfl (lv_at hl 0 rfl) ?_
            refine gf_X2_27 hx hb hts hown hKK hI ha_v0 hk_v0 dX2_gather_38 ?_
            refine lv_iload hx hb dX2_gather_41 (lv_at hl 5 rfl) ?_
            obtain ⟨hin_, h⟩ := ck_e h
            refine la_18 hx hb hKK hI e5 (ownF hI ha_v0 hk_v0 5 rfl).2.1 (ownF hI ha_v0 hk_v0 5 rfl).2.2 hin_ dX2_gather_43 ?_
            obtain ⟨v4_44, qq, h⟩ := bn_e h
            refine topi qq ?_
            refine lv_istore (lv' := [(4, .int v4_44), (0, .ref (HB.size + v0)), (1, .ref (HB.size + v1)), (2, .int v2), (3, .int v3), (5, .int v5)]) hx hb dX2_gather_44 hl (by decide) rfl (fun ls hl => ?_)
            refine lv_aload_n hx hb dX2_gather_46 rfl (lv_at hl 1 rfl) ?_
            refine gf_X2_9 hx hb hts hown hKK hI ha_v0 hk_v0 dX2_gather_47 ?_
            refine lv_aload_n hx hb dX2_gather_50 rfl (lv_at hl 1 rfl) ?_
            refine gt_X2_90 hx hb hts hown hKK hI e5 ha_v0 hk_v0 dX2_gather_51 ?_
            refine lv_aload_n hx hb dX2_gather_54 rfl (lv_at hl 1 rfl) ?_
            refine gf_X2_24 hx hb hts hown hKK hI ha_v0 hk_v0 dX2_gather_55 ?_
            refine lv_iload hx hb dX2_gather_58 (lv_at hl 5 rfl) ?_
            obtain ⟨hin_, h⟩ := ck_e h
            refine la_18 hx hb hKK hI e5 (ownF hI ha_v0 hk_v0 4 rfl).2.1 (ownF hI ha_v0 hk_v0 4 rfl).2.2 hin_ dX2_gather_60 ?_
            obtain ⟨hin_, h⟩ := ck_e h
            obtain ⟨G5_61, qq, h⟩ := bn_e h
            refine sa_18 hx hb hKK hI e5 (ownF hI ha_v0 hk_v0 0 rfl).2.1 (ownF hI ha_v0 hk_v0 0 rfl).2.2 hin_ dX2_gather_61 (fun σ H locs hI ew ho => ?_)
            have e5 := ew.trans qq.symm
            have e3 := (ho 3 (nn rfl)).trans e3
            have fr := frs fr ho (by decide)
            refine lv_aload_n hx hb dX2_gather_62 rfl (lv_at hl 1 rfl) ?_
            refine gf_X2_15 hx hb hts hown hKK hI ha_v0 hk_v0 dX2_gather_63 ?_
            refine lv_aload_n hx hb dX2_gather_66 rfl (lv_at hl 1 rfl) ?_
            refine gt_X2_90 hx hb hts hown hKK hI e5 ha_v0 hk_v0 dX2_gather_67 ?_
            refine lv_iload hx hb dX2_gather_70 (lv_at hl 5 rfl) ?_
            obtain ⟨hin_, h⟩ := ck_e h
            obtain ⟨G5_72, qq, h⟩ := bn_e h
            refine sa_18 hx hb hKK hI e5 (ownF hI ha_v0 hk_v0 1 rfl).2.1 (ownF hI ha_v0 hk_v0 1 rfl).2.2 hin_ dX2_gather_72 (fun σ H locs hI ew ho => ?_)
            have e5 := ew.trans qq.symm
            have e3 := (ho 3 (nn rfl)).trans e3
            have fr := frs fr ho (by decide)
            refine lv_aload_n hx hb dX2_gather_73 rfl (lv_at hl 1 rfl) ?_
            refine gf_X2_18 hx hb hts hown hKK hI ha_v0 hk_v0 dX2_gather_74 ?_
            refine lv_aload_n hx hb dX2_gather_77 rfl (lv_at hl 1 rfl) ?_
            refine gt_X2_90 hx hb hts hown hKK hI e5 ha_v0 hk_v0 dX2_gather_78 ?_
            refine lv_iload hx hb dX2_gather_81 (lv_at hl 0 rfl) ?_
            refine lv_iload hx hb dX2_gather_83 (lv_at hl 5 rfl) ?_
            refine lv_isub hx hb dX2_gather_85 ?_
            obtain ⟨hin_, h⟩ := ck_e h
            obtain ⟨G5_86, qq, h⟩ := bn_e h
            refine sa_18 hx hb hKK hI e5 (ownF hI ha_v0 hk_v0 2 rfl).2.1 (ownF hI ha_v0 hk_v0 2 rfl).2.2 hin_ dX2_gather_86 (fun σ H locs hI ew ho => ?_)
            have e5 := ew.trans qq.symm
            have e3 := (ho 3 (nn rfl)).trans e3
            have fr := frs fr ho (by decide)
            refine lv_aload_n hx hb dX2_gather_87 rfl (lv_at hl 1 rfl) ?_
            refine gf_X2_21 hx hb hts hown hKK hI ha_v0 hk_v0 dX2_gather_88 ?_
            refine lv_aload_n hx hb dX2_gather_91 rfl (lv_at hl 1 rfl) ?_
            refine gt_X2_90 hx hb hts hown hKK hI e5 ha_v0 hk_v0 dX2_gather_92 ?_
            refine lv_iload_n hx hb dX2_gather_95 rfl (lv_at hl 4 rfl) ?_
            obtain ⟨hin_, h⟩ := ck_e h
            obtain ⟨G5_96, qq, h⟩ := bn_e h
            refine sa_18 hx hb hKK hI e5 (ownF hI ha_v0 hk_v0 3 rfl).2.1 (ownF hI ha_v0 hk_v0 3 rfl).2.2 hin_ dX2_gather_96 (fun σ H locs hI ew ho => ?_)
            have e5 := ew.trans qq.symm
            have e3 := (ho 3 (nn rfl)).trans e3
            have fr := frs fr ho (by decide)
            refine lv_aload_n hx hb dX2_gather_97 rfl (lv_at hl 1 rfl) ?_
            refine lv_dup hx hb dX2_gather_98 rfl ?_
            refine gt_X2_90 hx hb hts hown hKK hI e5 ha_v0 hk_v0 dX2_gather_99 ?_
            refine lv_iconst (v := 1) hx hb dX2_gather_102 (by decide) ?_
            refine lv_iadd hx hb dX2_gather_103 ?_
            obtain ⟨G5_104, qq, h⟩ := bn_e h
            refine pt_X2_90 hx hb hts hown hKK hI e5 ha_v0 hk_v0 dX2_gather_104 (fun σ H locs hI ew ho => ?_)
            have e5 := ew.trans qq.symm
            have e3 := (ho 3 (nn rfl)).trans e3
            have fr := frs fr ho (by decide)
            exact b107 k13 hk13 σ H locs ls G3 G5_104 v0 v1 v2 v3 v4_44 v5 ha_v0 hk_v0 ha_v1 hk_v1 hI e3 e5 fr (lv_sub hl [1, 2, 3, 4, 0, 5] rfl) h
  obtain ⟨σ, hI, e3, e5, fr⟩ : ∃ σ : St, IV HB D y n n κ σ [] s.heap ∧ σ 3 = G3 ∧ σ 5 = G5 ∧ ∀ j, j ∉ W_X2_gather → σ j = σ0 j := ⟨σ0, hI, e3, e5, fun _ _ => rfl⟩
  show WX RM_X2_gather p l e s m args below meth c HB none (B_X2_gather HB D y n κ σ0 q) s.heap [] (F0 m 0 ls [])
  generalize s.heap = H at hI ⊢
  unfold f_X2_gather at h
  obtain ⟨locs, hlocs⟩ : ∃ x : List Loc, x = [] := ⟨_, rfl⟩
  rw [← hlocs] at hI ⊢
  refine lv_aload_n hx hb dX2_gather_0 rfl (lv_at hl 0 rfl) ?_
  refine lv_iconst (v := 0) hx hb dX2_gather_1 (by decide) ?_
  obtain ⟨G5_2, qq, h⟩ := bn_e h
  refine pt_X2_90 hx hb hts hown hKK hI e5 ha_v0 hk_v0 dX2_gather_2 (fun σ H locs hI ew ho => ?_)
  have e5 := ew.trans qq.symm
  have e3 := (ho 3 (nn rfl)).trans e3
  have fr := frs fr ho (by decide)
  refine lv_iconst (v := 0) hx hb dX2_gather_5 (by decide) ?_
  refine lv_istore_n (lv' := [(3, .int 0), (0, .ref (HB.size + v0)), (1, .ref (HB.size + v1)), (2, .int v2)]) hx hb dX2_gather_6 rfl hl (by decide) rfl (fun ls hl => ?_)
  refine lv_iconst (v := 0) hx hb dX2_gather_7 (by decide) ?_
  refine lv_istore (lv' := [(4, .int 0), (3, .int 0), (0, .ref (HB.size + v0)), (1, .ref (HB.size + v1)), (2, .int v2)]) hx hb dX2_gather_8 hl (by decide) rfl (fun ls hl => ?_)
  refine lv_iconst (v := 0) hx hb dX2_gather_10 (by decide) ?_
  refine lv_istore (lv' := [(5, .int 0), (4, .int 0), (3, .int 0), (0, .ref (HB.size + v0)), (1, .ref (HB.size + v1)), (2, .int v2)]) hx hb dX2_gather_11 hl (by decide) rfl (fun ls hl => ?_)
  exact b13  F σ H locs ls G3 G5_2 v0 v1 v2 0 0 0 ha_v0 hk_v0 ha_v1 hk_v1 hI e3 e5 fr (lv_sub hl [3, 4, 5, 2, 1, 0] rfl) h
noncomputable def f_X11_isDigit (F : Nat)  (v0 : Int32) : Option (Int32) :=
  if v0 < 48 then some 0 else if 57 < v0 then some 0 else some 1
def RM_X11_isDigit : Room := { frames := 0, cells := 0, slots := 0, locals := 0 }
abbrev B_X11_isDigit (HB : Heap) (D : va_G) (y : Nat → ClassId) (n : Nat) (κ : Nat → Nat) (σ : St) (q : Int32) : Heap → Prop := fun H => IV HB D y n n κ σ [] H
set_option maxRecDepth 100000 in
set_option maxHeartbeats 4000000 in
theorem c_X11_isDigit (l : Launch) (HB : Heap) (D : va_G) (y : Nat → ClassId) (F n : Nat) (κ : Nat → Nat) (σ : St) (hN : N0 ≤ n) (v0 : Int32)   (q : Int32) (h : f_X11_isDigit F v0 = some q) : MT l HB D y yX11_isDigit cX11_isDigit 1 (some .boolean) RM_X11_isDigit [.int v0] (IV HB D y n n κ σ []) (some (.int q)) (B_X11_isDigit HB D y n κ σ q) := by
  refine Met.ofW (cc := cX11_isDigit) (maxL := 1) (ret := (some .boolean)) (by decide) rfl ?_
  intro p e s m args below meth c s₁ BL hml hv
  obtain ⟨rfl, hI, hKK⟩ := hv
  have hx := BL.exec
  have hb := BL.bytes
  have hr := BL.returns
  have hts : ∀ w ∈ gtb, w.before _ s = true := fun w hw => atoms_spec BL.pre w (List.mem_cons_of_mem _ hw)
  have hml : c.maxLocals = 1 := hml
  have hown : s.vm.findClass RX11 = some m.cls := findClass_of_methodNamed BL.named
  have hlocks := BL.notSynchronized
  have hk0 := hI.1.2.2.2.2
  have hl := lv_entry ([.int v0]) (n := 1) (Nat.le_of_ble_eq_true rfl)
  rw [lg_entry_eq]
  generalize (lg_sl ([.int v0]) ++ List.replicate (1 - (lg_sl ([.int v0])).length) Slot.unset).toArray = ls at hl ⊢
  have hl : lv_has ls 1 [(0, .int v0)] := hl
  generalize hargs : ([.int v0] : List Value).toArray = args at *
  show WX RM_X11_isDigit p l e s m args below meth c HB (some (.int q)) (B_X11_isDigit HB D y n κ σ q) s.heap [] (F0 m 0 ls [])
  generalize s.heap = H at hI ⊢
  unfold f_X11_isDigit at h
  obtain ⟨locs, hlocs⟩ : ∃ x : List Loc, x = [] := ⟨_, rfl⟩
  rw [← hlocs] at hI ⊢
  refine lv_iload_n hx hb dX11_isDigit_0 rfl (lv_at hl 0 rfl) ?_
  refine lv_bipush (v := 48) hx hb dX11_isDigit_1 (by decide) ?_
  refine lv_icmp_lt (tgt := 16) hx hb dX11_isDigit_3 (by decide) (fun hc => ?_) (fun hc => ?_)
  · replace h := ite_t hc h
    refine lv_iconst (v := 0) hx hb dX11_isDigit_16 (by decide) ?_
    have hq := Option.some.inj h
    exact W.zret (v := 0) (ty := .boolean) hx hb hr rfl (fun t ht hW => qc_mk (congrArg (fun z => Outcome.returned (some (Value.int z))) hq) (by rw [ht]; exact hI.nil)) hI.2.2 dX11_isDigit_17 hlocks
  · replace h := ite_f hc h
    refine lv_iload_n hx hb dX11_isDigit_6 rfl (lv_at hl 0 rfl) ?_
    refine lv_bipush (v := 57) hx hb dX11_isDigit_7 (by decide) ?_
    refine lv_icmp_gt (tgt := 16) hx hb dX11_isDigit_9 (by decide) (fun hc => ?_) (fun hc => ?_)
    · replace h := ite_t hc h
      refine lv_iconst (v := 0) hx hb dX11_isDigit_16 (by decide) ?_
      have hq := Option.some.inj h
      exact W.zret (v := 0) (ty := .boolean) hx hb hr rfl (fun t ht hW => qc_mk (congrArg (fun z => Outcome.returned (some (Value.int z))) hq) (by rw [ht]; exact hI.nil)) hI.2.2 dX11_isDigit_17 hlocks
    · replace h := ite_f hc h
      refine lv_iconst (v := 1) hx hb dX11_isDigit_12 (by decide) ?_
      refine lv_goto (tgt := 17) hx hb dX11_isDigit_13 (by decide) ?_
      have hq := Option.some.inj h
      exact W.zret (v := 1) (ty := .boolean) hx hb hr rfl (fun t ht hW => qc_mk (congrArg (fun z => Outcome.returned (some (Value.int z))) hq) (by rw [ht]; exact hI.nil)) hI.2.2 dX11_isDigit_17 hlocks
noncomputable def f_X11_isSmallLetter (F : Nat)  (v0 : Int32) : Option (Int32) :=
  if v0 < 97 then some 0 else if 122 < v0 then some 0 else some 1
def RM_X11_isSmallLetter : Room := { frames := 0, cells := 0, slots := 0, locals := 0 }
abbrev B_X11_isSmallLetter (HB : Heap) (D : va_G) (y : Nat → ClassId) (n : Nat) (κ : Nat → Nat) (σ : St) (q : Int32) : Heap → Prop := fun H => IV HB D y n n κ σ [] H
set_option maxRecDepth 100000 in
set_option maxHeartbeats 4000000 in
theorem c_X11_isSmallLetter (l : Launch) (HB : Heap) (D : va_G) (y : Nat → ClassId) (F n : Nat) (κ : Nat → Nat) (σ : St) (hN : N0 ≤ n) (v0 : Int32)   (q : Int32) (h : f_X11_isSmallLetter F v0 = some q) : MT l HB D y yX11_isSmallLetter cX11_isSmallLetter 1 (some .boolean) RM_X11_isSmallLetter [.int v0] (IV HB D y n n κ σ []) (some (.int q)) (B_X11_isSmallLetter HB D y n κ σ q) := by
  refine Met.ofW (cc := cX11_isSmallLetter) (maxL := 1) (ret := (some .boolean)) (by decide) rfl ?_
  intro p e s m args below meth c s₁ BL hml hv
  obtain ⟨rfl, hI, hKK⟩ := hv
  have hx := BL.exec
  have hb := BL.bytes
  have hr := BL.returns
  have hts : ∀ w ∈ gtb, w.before _ s = true := fun w hw => atoms_spec BL.pre w (List.mem_cons_of_mem _ hw)
  have hml : c.maxLocals = 1 := hml
  have hown : s.vm.findClass RX11 = some m.cls := findClass_of_methodNamed BL.named
  have hlocks := BL.notSynchronized
  have hk0 := hI.1.2.2.2.2
  have hl := lv_entry ([.int v0]) (n := 1) (Nat.le_of_ble_eq_true rfl)
  rw [lg_entry_eq]
  generalize (lg_sl ([.int v0]) ++ List.replicate (1 - (lg_sl ([.int v0])).length) Slot.unset).toArray = ls at hl ⊢
  have hl : lv_has ls 1 [(0, .int v0)] := hl
  generalize hargs : ([.int v0] : List Value).toArray = args at *
  show WX RM_X11_isSmallLetter p l e s m args below meth c HB (some (.int q)) (B_X11_isSmallLetter HB D y n κ σ q) s.heap [] (F0 m 0 ls [])
  generalize s.heap = H at hI ⊢
  unfold f_X11_isSmallLetter at h
  obtain ⟨locs, hlocs⟩ : ∃ x : List Loc, x = [] := ⟨_, rfl⟩
  rw [← hlocs] at hI ⊢
  refine lv_iload_n hx hb dX11_isSmallLetter_0 rfl (lv_at hl 0 rfl) ?_
  refine lv_bipush (v := 97) hx hb dX11_isSmallLetter_1 (by decide) ?_
  refine lv_icmp_lt (tgt := 16) hx hb dX11_isSmallLetter_3 (by decide) (fun hc => ?_) (fun hc => ?_)
  · replace h := ite_t hc h
    refine lv_iconst (v := 0) hx hb dX11_isSmallLetter_16 (by decide) ?_
    have hq := Option.some.inj h
    exact W.zret (v := 0) (ty := .boolean) hx hb hr rfl (fun t ht hW => qc_mk (congrArg (fun z => Outcome.returned (some (Value.int z))) hq) (by rw [ht]; exact hI.nil)) hI.2.2 dX11_isSmallLetter_17 hlocks
  · replace h := ite_f hc h
    refine lv_iload_n hx hb dX11_isSmallLetter_6 rfl (lv_at hl 0 rfl) ?_
    refine lv_bipush (v := 122) hx hb dX11_isSmallLetter_7 (by decide) ?_
    refine lv_icmp_gt (tgt := 16) hx hb dX11_isSmallLetter_9 (by decide) (fun hc => ?_) (fun hc => ?_)
    · replace h := ite_t hc h
      refine lv_iconst (v := 0) hx hb dX11_isSmallLetter_16 (by decide) ?_
      have hq := Option.some.inj h
      exact W.zret (v := 0) (ty := .boolean) hx hb hr rfl (fun t ht hW => qc_mk (congrArg (fun z => Outcome.returned (some (Value.int z))) hq) (by rw [ht]; exact hI.nil)) hI.2.2 dX11_isSmallLetter_17 hlocks
    · replace h := ite_f hc h
      refine lv_iconst (v := 1) hx hb dX11_isSmallLetter_12 (by decide) ?_
      refine lv_goto (tgt := 17) hx hb dX11_isSmallLetter_13 (by decide) ?_
      have hq := Option.some.inj h
      exact W.zret (v := 1) (ty := .boolean) hx hb hr rfl (fun t ht hW => qc_mk (congrArg (fun z => Outcome.returned (some (Value.int z))) hq) (by rw [ht]; exact hI.nil)) hI.2.2 dX11_isSmallLetter_17 hlocks
noncomputable def f_X11_isWordSign (F : Nat)  (v0 : Int32) : Option (Int32) :=
  ob (f_X11_isSmallLetter F v0) (fun q_1 => if q_1 = 0 then ob (f_X11_isDigit F v0) (fun q_8 => if q_8 = 0 then some 0 else some 1) else some 1)
def RM_X11_isWordSign : Room := { frames := 1, cells := 0, slots := 0, locals := 20 }
abbrev B_X11_isWordSign (HB : Heap) (D : va_G) (y : Nat → ClassId) (n : Nat) (κ : Nat → Nat) (σ : St) (q : Int32) : Heap → Prop := fun H => IV HB D y n n κ σ [] H
set_option maxRecDepth 100000 in
set_option maxHeartbeats 4000000 in
theorem c_X11_isWordSign (l : Launch) (HB : Heap) (D : va_G) (y : Nat → ClassId) (F n : Nat) (κ : Nat → Nat) (σ : St) (hN : N0 ≤ n) (v0 : Int32)   (q : Int32) (h : f_X11_isWordSign F v0 = some q) : MT l HB D y yX11_isWordSign cX11_isWordSign 1 (some .boolean) RM_X11_isWordSign [.int v0] (IV HB D y n n κ σ []) (some (.int q)) (B_X11_isWordSign HB D y n κ σ q) := by
  refine Met.ofW (cc := cX11_isWordSign) (maxL := 1) (ret := (some .boolean)) (by decide) rfl ?_
  intro p e s m args below meth c s₁ BL hml hv
  obtain ⟨rfl, hI, hKK⟩ := hv
  have hx := BL.exec
  have hb := BL.bytes
  have hr := BL.returns
  have hts : ∀ w ∈ gtb, w.before _ s = true := fun w hw => atoms_spec BL.pre w (List.mem_cons_of_mem _ hw)
  have hml : c.maxLocals = 1 := hml
  have hown : s.vm.findClass RX11 = some m.cls := findClass_of_methodNamed BL.named
  have hlocks := BL.notSynchronized
  have hk0 := hI.1.2.2.2.2
  have hl := lv_entry ([.int v0]) (n := 1) (Nat.le_of_ble_eq_true rfl)
  rw [lg_entry_eq]
  generalize (lg_sl ([.int v0]) ++ List.replicate (1 - (lg_sl ([.int v0])).length) Slot.unset).toArray = ls at hl ⊢
  have hl : lv_has ls 1 [(0, .int v0)] := hl
  generalize hargs : ([.int v0] : List Value).toArray = args at *
  show WX RM_X11_isWordSign p l e s m args below meth c HB (some (.int q)) (B_X11_isWordSign HB D y n κ σ q) s.heap [] (F0 m 0 ls [])
  generalize s.heap = H at hI ⊢
  unfold f_X11_isWordSign at h
  obtain ⟨locs, hlocs⟩ : ∃ x : List Loc, x = [] := ⟨_, rfl⟩
  rw [← hlocs] at hI ⊢
  refine lv_iload_n hx hb dX11_isWordSign_0 rfl (lv_at hl 0 rfl) ?_
  obtain ⟨q_1, hq_1, h⟩ := ob_e h
  refine r_callS (As := [.int v0]) (rest := []) hx hb hml hts hown (c_X11_isSmallLetter l HB D y F n κ σ hN v0  q_1 hq_1) cal_X11_isSmallLetter st_X11_isSmallLetter lm_X11_351 ⟨Nat.le_of_ble_eq_true rfl, Nat.le_of_ble_eq_true rfl⟩ hI.nil hKK rfl hl.1 hI.2.2 rfl (Nat.le_of_ble_eq_true rfl) dX11_isWordSign_1 ⟨Nat.le_of_ble_eq_true rfl, Nat.le_of_ble_eq_true rfl⟩ rfl rfl rfl (fun H locs hB hlo => ?_)
  have hI := hB.re hlo
  refine lv_if_ne (tgt := 14) hx hb dX11_isWordSign_4 (by decide) (fun hc => ?_) (fun hc => ?_)
  · replace h := ite_f hc h
    refine lv_iconst (v := 1) hx hb dX11_isWordSign_14 (by decide) ?_
    refine lv_goto (tgt := 19) hx hb dX11_isWordSign_15 (by decide) ?_
    have hq := Option.some.inj h
    exact W.zret (v := 1) (ty := .boolean) hx hb hr rfl (fun t ht hW => qc_mk (congrArg (fun z => Outcome.returned (some (Value.int z))) hq) (by rw [ht]; exact hI.nil)) hI.2.2 dX11_isWordSign_19 hlocks
  · replace h := ite_t hc h
    refine lv_iload_n hx hb dX11_isWordSign_7 rfl (lv_at hl 0 rfl) ?_
    obtain ⟨q_8, hq_8, h⟩ := ob_e h
    refine r_callS (As := [.int v0]) (rest := []) hx hb hml hts hown (c_X11_isDigit l HB D y F n κ σ hN v0  q_8 hq_8) cal_X11_isDigit st_X11_isDigit lm_X11_354 ⟨Nat.le_of_ble_eq_true rfl, Nat.le_of_ble_eq_true rfl⟩ hI.nil hKK rfl hl.1 hI.2.2 rfl (Nat.le_of_ble_eq_true rfl) dX11_isWordSign_8 ⟨Nat.le_of_ble_eq_true rfl, Nat.le_of_ble_eq_true rfl⟩ rfl rfl rfl (fun H locs hB hlo => ?_)
    have hI := hB.re hlo
    refine lv_if_eq (tgt := 18) hx hb dX11_isWordSign_11 (by decide) (fun hc => ?_) (fun hc => ?_)
    · replace h := ite_t hc h
      refine lv_iconst (v := 0) hx hb dX11_isWordSign_18 (by decide) ?_
      have hq := Option.some.inj h
      exact W.zret (v := 0) (ty := .boolean) hx hb hr rfl (fun t ht hW => qc_mk (congrArg (fun z => Outcome.returned (some (Value.int z))) hq) (by rw [ht]; exact hI.nil)) hI.2.2 dX11_isWordSign_19 hlocks
    · replace h := ite_f hc h
      refine lv_iconst (v := 1) hx hb dX11_isWordSign_14 (by decide) ?_
      refine lv_goto (tgt := 19) hx hb dX11_isWordSign_15 (by decide) ?_
      have hq := Option.some.inj h
      exact W.zret (v := 1) (ty := .boolean) hx hb hr rfl (fun t ht hW => qc_mk (congrArg (fun z => Outcome.returned (some (Value.int z))) hq) (by rw [ht]; exact hI.nil)) hI.2.2 dX11_isWordSign_19 hlocks
