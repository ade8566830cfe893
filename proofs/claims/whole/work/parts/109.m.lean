noncomputable def f_X12_leftOn_l5b (F : Nat)  (k5 : Grp → Int32 → Int32 → Int32 → Int32 → Option (Int32)) (G41 : Grp) (v1 : Int32) (v2 : Int32) (v3 : Int32) (v4 : Int32) : Option (Int32) :=
  if (G41.1 91 98) ≤ v4 then some v3 else ck v4 100 (if (G41.1 165 v4.toNatClampNeg) = v1 then ck v4 100 (if v2 < (G41.1 167 v4.toNatClampNeg) then bn (v4 + 1) (fun v4_44 => k5 G41 v1 v2 v3 v4_44) else ck v4 100 (bn ((G41.1 166 v4.toNatClampNeg)) (fun v3_43 => bn (v4 + 1) (fun v4_44 => k5 G41 v1 v2 v3_43 v4_44)))) else bn (v4 + 1) (fun v4_44 => k5 G41 v1 v2 v3 v4_44))
noncomputable def f_X12_leftOn_l5 (F : Nat)  (fu : Nat) : Grp → Int32 → Int32 → Int32 → Int32 → Option (Int32) := Nat.rec (motive := fun _ => Grp → Int32 → Int32 → Int32 → Int32 → Option (Int32)) (fun _ _ _ _ _ => none) (fun _ ih => f_X12_leftOn_l5b F  ih) fu
noncomputable def f_X12_leftOn (F : Nat) (G41 : Grp) (v1 : Int32) (v2 : Int32) : Option (Int32) :=
  f_X12_leftOn_l5 F  F G41 v1 v2 (-1) 0
def RM_X12_leftOn : Room := { frames := 0, cells := 0, slots := 0, locals := 0 }
abbrev B_X12_leftOn (HB : Heap) (D : va_G) (y : Nat → ClassId) (n : Nat) (κ : Nat → Nat) (σ : St) (q : Int32) : Heap → Prop := fun H => IV HB D y n n κ σ [] H
set_option maxRecDepth 100000 in
set_option maxHeartbeats 4000000 in
theorem c_X12_leftOn (l : Launch) (HB : Heap) (D : va_G) (y : Nat → ClassId) (F n : Nat) (κ : Nat → Nat) (σ : St) (hN : N0 ≤ n) (v1 : Int32)  (v2 : Int32)  (G41 : Grp) (e41 : σ 41 = G41) (q : Int32) (h : f_X12_leftOn F G41 v1 v2 = some q) : MT l HB D y yX12_leftOn cX12_leftOn 5 (some .int) RM_X12_leftOn [.ref (HB.size + 91), .int v1, .int v2] (IV HB D y n n κ σ []) (some (.int q)) (B_X12_leftOn HB D y n κ σ q) := by
  refine Met.ofW (cc := cX12_leftOn) (maxL := 5) (ret := (some .int)) (by decide) rfl ?_
  intro p e s m args below meth c s₁ BL hml hv
  obtain ⟨rfl, hI, hKK⟩ := hv
  have hx := BL.exec
  have hb := BL.bytes
  have hr := BL.returns
  have hts : ∀ w ∈ gtb, w.before _ s = true := fun w hw => atoms_spec BL.pre w (List.mem_cons_of_mem _ hw)
  have hml : c.maxLocals = 5 := hml
  have hown : s.vm.findClass RX12 = some m.cls := findClass_of_methodNamed BL.named
  have hlocks := BL.notSynchronized
  have hk0 := hI.1.2.2.2.2
  have hl := lv_entry ([.ref (HB.size + 91), .int v1, .int v2]) (n := 5) (Nat.le_of_ble_eq_true rfl)
  rw [lg_entry_eq]
  generalize (lg_sl ([.ref (HB.size + 91), .int v1, .int v2]) ++ List.replicate (5 - (lg_sl ([.ref (HB.size + 91), .int v1, .int v2])).length) Slot.unset).toArray = ls at hl ⊢
  have hl : lv_has ls 5 [(0, .ref (HB.size + 91)), (1, .int v1), (2, .int v2)] := hl
  generalize hargs : ([.ref (HB.size + 91), .int v1, .int v2] : List Value).toArray = args at *
  have b5 : ∀ (fu : Nat) (H : Heap) (locs : List Loc) (ls : Array Slot) (G41 : Grp) (v1 : Int32) (v2 : Int32) (v3 : Int32) (v4 : Int32) , IV HB D y n n κ σ locs H → σ 41 = G41 → lv_has ls 5 [(0, .ref (HB.size + 91)), (1, .int v1), (2, .int v2), (3, .int v3), (4, .int v4)] → f_X12_leftOn_l5 F  fu G41 v1 v2 v3 v4 = some q → WX RM_X12_leftOn p l e s m args below meth c HB (some (.int q)) (B_X12_leftOn HB D y n κ σ q) H locs (F0 m 5 ls []) := by
    intro  fu
    induction fu with
    | zero =>
      intro H locs ls G41 v1 v2 v3 v4 hI e41 hl h
      exact absurd h (by intro h; cases h)
    | succ fu hk5 =>
      intro H locs ls G41 v1 v2 v3 v4 hI e41 hl h
      have h : f_X12_leftOn_l5b F  (f_X12_leftOn_l5 F  fu) G41 v1 v2 v3 v4 = some q := h
      generalize f_X12_leftOn_l5 F  fu = k5 at h hk5
      unfold f_X12_leftOn_l5b at h
      refine lv_iload hx hb dX12_leftOn_5 (lv_at hl 4 rfl) ?_
      refine lv_aload_n hx hb dX12_leftOn_7 rfl (lv_at hl 0 rfl) ?_
      refine gt_X12_547 hx hb hts hown hKK hI e41 (lc91 hN) (kc91 hk0) dX12_leftOn_8 ?_
      refine lv_icmp_ge (tgt := 50) hx hb dX12_leftOn_11 (by decide) (fun hc => ?_) (fun hc => ?_)
      · replace h := ite_t hc h
        refine lv_iload_n hx hb dX12_leftOn_50 rfl (lv_at hl 3 rfl) ?_
        have hq := Option.some.inj h
        exact W.iret (v := v3) hx hb hr (fun t ht hW => qc_mk (congrArg (fun z => Outcome.returned (some (Value.int z))) hq) (by rw [ht]; exact hI.nil)) hI.2.2 dX12_leftOn_51 hlocks
      · replace h := ite_f hc h
        refine lv_aload_n hx hb dX12_leftOn_14 rfl (lv_at hl 0 rfl) ?_
        refine gf_X12_233 hx hb hts hown hKK hI hN dX12_leftOn_15 ?_
        refine lv_iload hx hb dX12_leftOn_18 (lv_at hl 4 rfl) ?_
        obtain ⟨hin_, h⟩ := ck_e h
        refine la_72 hx hb hKK hI e41 (lc165 hN) (kc165 hk0) hin_ dX12_leftOn_20 ?_
        refine lv_iload_n hx hb dX12_leftOn_21 rfl (lv_at hl 1 rfl) ?_
        refine lv_icmp_ne (tgt := 44) hx hb dX12_leftOn_22 (by decide) (fun hc => ?_) (fun hc => ?_)
        · replace h := ite_f hc h
          obtain ⟨v4_44, qq, h⟩ := bn_e h
          refine lv_iinc (v := v4_44) (lv' := [(4, .int v4_44), (0, .ref (HB.size + 91)), (1, .int v1), (2, .int v2), (3, .int v3)]) hx hb dX12_leftOn_44 hl (k := 4) rfl (by rw [qq]; rfl) (by decide) rfl (fun ls hl => ?_)
          refine lv_goto (tgt := 5) hx hb dX12_leftOn_47 (by decide) ?_
          exact hk5 H locs ls G41 v1 v2 v3 v4_44  hI e41 (lv_sub hl [1, 2, 3, 4, 0] rfl) h
        · replace h := ite_t hc h
          refine lv_aload_n hx hb dX12_leftOn_25 rfl (lv_at hl 0 rfl) ?_
          refine gf_X12_239 hx hb hts hown hKK hI hN dX12_leftOn_26 ?_
          refine lv_iload hx hb dX12_leftOn_29 (lv_at hl 4 rfl) ?_
          obtain ⟨hin_, h⟩ := ck_e h
          refine la_72 hx hb hKK hI e41 (lc167 hN) (kc167 hk0) hin_ dX12_leftOn_31 ?_
          refine lv_iload_n hx hb dX12_leftOn_32 rfl (lv_at hl 2 rfl) ?_
          refine lv_icmp_gt (tgt := 44) hx hb dX12_leftOn_33 (by decide) (fun hc => ?_) (fun hc => ?_)
          · replace h := ite_t hc h
            obtain ⟨v4_44, qq, h⟩ := bn_e h
            refine lv_iinc (v := v4_44) (lv' := [(4, .int v4_44), (0, .ref (HB.size + 91)), (1, .int v1), (2, .int v2), (3, .int v3)]) hx hb dX12_leftOn_44 hl (k := 4) rfl (by rw [qq]; rfl) (by decide) rfl (fun ls hl => ?_)
            refine lv_goto (tgt := 5) hx hb dX12_leftOn_47 (by decide) ?_
            exact hk5 H locs ls G41 v1 v2 v3 v4_44  hI e41 (lv_sub hl [1, 2, 3, 4, 0] rfl) h
          · replace h := ite_f hc h
            refine lv_aload_n hx hb dX12_leftOn_36 rfl (lv_at hl 0 rfl) ?_
            refine gf_X12_236 hx hb hts hown hKK hI hN dX12_leftOn_37 ?_
            refine lv_iload hx hb dX12_leftOn_40 (lv_at hl 4 rfl) ?_
            obtain ⟨hin_, h⟩ := ck_e h
            refine la_72 hx hb hKK hI e41 (lc166 hN) (kc166 hk0) hin_ dX12_leftOn_42 ?_
            obtain ⟨v3_43, qq, h⟩ := bn_e h
            refine topi qq ?_
            refine lv_istore_n (lv' := [(3, .int v3_43), (0, .ref (HB.size + 91)), (1, .int v1), (2, .int v2), (4, .int v4)]) hx hb dX12_leftOn_43 rfl hl (by decide) rfl (fun ls hl => ?_)
            obtain ⟨v4_44, qq, h⟩ := bn_e h
            refine lv_iinc (v := v4_44) (lv' := [(4, .int v4_44), (3, .int v3_43), (0, .ref (HB.size + 91)), (1, .int v1), (2, .int v2)]) hx hb dX12_leftOn_44 hl (k := 4) rfl (by rw [qq]; rfl) (by decide) rfl (fun ls hl => ?_)
            refine lv_goto (tgt := 5) hx hb dX12_leftOn_47 (by decide) ?_
            exact hk5 H locs ls G41 v1 v2 v3_43 v4_44  hI e41 (lv_sub hl [2, 3, 4, 1, 0] rfl) h
  show WX RM_X12_leftOn p l e s m args below meth c HB (some (.int q)) (B_X12_leftOn HB D y n κ σ q) s.heap [] (F0 m 0 ls [])
  generalize s.heap = H at hI ⊢
  unfold f_X12_leftOn at h
  obtain ⟨locs, hlocs⟩ : ∃ x : List Loc, x = [] := ⟨_, rfl⟩
  rw [← hlocs] at hI ⊢
  refine lv_iconst (v := (-1)) hx hb dX12_leftOn_0 (by decide) ?_
  refine lv_istore_n (lv' := [(3, .int (-1)), (0, .ref (HB.size + 91)), (1, .int v1), (2, .int v2)]) hx hb dX12_leftOn_1 rfl hl (by decide) rfl (fun ls hl => ?_)
  refine lv_iconst (v := 0) hx hb dX12_leftOn_2 (by decide) ?_
  refine lv_istore (lv' := [(4, .int 0), (3, .int (-1)), (0, .ref (HB.size + 91)), (1, .int v1), (2, .int v2)]) hx hb dX12_leftOn_3 hl (by decide) rfl (fun ls hl => ?_)
  exact b5  F H locs ls G41 v1 v2 (-1) 0  hI e41 (lv_sub hl [2, 3, 4, 1, 0] rfl) h
noncomputable def f_X12_pair (F : Nat) (G23 : Grp) (G24 : Grp) (G25 : Grp) (G41 : Grp) (v1 : Int32) (v2 : Int32) : Option (Int32 × Grp) :=
  ob (f_X12_isGiver F G24 v1) (fun q_2 => if q_2 = 0 then some ((-1), G25) else ob (f_X12_isChild F G24 v2) (fun q_10 => if q_10 = 0 then some ((-1), G25) else ob (f_X12_pairOf F G25 v2) (fun q_18 => if q_18 = (-1) then ob (f_X12_pairsOf F G25 v1) (fun q_27 => if 2 ≤ q_27 then some ((-1), G25) else ob (f_X12_leftOn F G41 v2 (G23.1 91 0)) (fun q_40 => if q_40 = (-1) then if (G25.1 91 4) = 40 then some ((-1), G25) else ob (f_X12_begins F G23 G25 v1 v2) (fun q_61 => some (q_61.1, q_61.2)) else some ((-1), G25))) else some ((-1), G25))))
def RM_X12_pair : Room := { frames := 2, cells := 0, slots := 0, locals := 44 }
abbrev W_X12_pair : List Nat := [25]
abbrev B_X12_pair (HB : Heap) (D : va_G) (y : Nat → ClassId) (n : Nat) (κ : Nat → Nat) (σ0 : St) (q : Int32 × Grp) : Heap → Prop := fun H => ∃ σ : St, IV HB D y n n κ σ [] H ∧ σ 25 = q.2 ∧ ∀ j, j ∉ W_X12_pair → σ j = σ0 j
set_option maxRecDepth 100000 in
set_option maxHeartbeats 4000000 in
theorem c_X12_pair (l : Launch) (HB : Heap) (D : va_G) (y : Nat → ClassId) (F n : Nat) (κ : Nat → Nat) (σ0 : St) (hN : N0 ≤ n) (v1 : Int32)  (v2 : Int32)  (G23 : Grp) (e23 : σ0 23 = G23) (G24 : Grp) (e24 : σ0 24 = G24) (G25 : Grp) (e25 : σ0 25 = G25) (G41 : Grp) (e41 : σ0 41 = G41) (q : Int32 × Grp) (h : f_X12_pair F G23 G24 G25 G41 v1 v2 = some q) : MT l HB D y yX12_pair cX12_pair 3 (some .int) RM_X12_pair [.ref (HB.size + 91), .int v1, .int v2] (IV HB D y n n κ σ0 []) (some (.int q.1)) (B_X12_pair HB D y n κ σ0 q) := by
  refine Met.ofW (cc := cX12_pair) (maxL := 3) (ret := (some .int)) (by decide) rfl ?_
  intro p e s m args below meth c s₁ BL hml hv
  obtain ⟨rfl, hI, hKK⟩ := hv
  have hx := BL.exec
  have hb := BL.bytes
  have hr := BL.returns
  have hts : ∀ w ∈ gtb, w.before _ s = true := fun w hw => atoms_spec BL.pre w (List.mem_cons_of_mem _ hw)
  have hml : c.maxLocals = 3 := hml
  have hown : s.vm.findClass RX12 = some m.cls := findClass_of_methodNamed BL.named
  have hlocks := BL.notSynchronized
  have hk0 := hI.1.2.2.2.2
  have hl := lv_entry ([.ref (HB.size + 91), .int v1, .int v2]) (n := 3) (Nat.le_of_ble_eq_true rfl)
  rw [lg_entry_eq]
  generalize (lg_sl ([.ref (HB.size + 91), .int v1, .int v2]) ++ List.replicate (3 - (lg_sl ([.ref (HB.size + 91), .int v1, .int v2])).length) Slot.unset).toArray = ls at hl ⊢
  have hl : lv_has ls 3 [(0, .ref (HB.size + 91)), (1, .int v1), (2, .int v2)] := hl
  generalize hargs : ([.ref (HB.size + 91), .int v1, .int v2] : List Value).toArray = args at *
  obtain ⟨σ, hI, e23, e24, e25, e41, fr⟩ : ∃ σ : St, IV HB D y n n κ σ [] s.heap ∧ σ 23 = G23 ∧ σ 24 = G24 ∧ σ 25 = G25 ∧ σ 41 = G41 ∧ ∀ j, j ∉ W_X12_pair → σ j = σ0 j := ⟨σ0, hI, e23, e24, e25, e41, fun _ _ => rfl⟩
  show WX RM_X12_pair p l e s m args below meth c HB (some (.int q.1)) (B_X12_pair HB D y n κ σ0 q) s.heap [] (F0 m 0 ls [])
  generalize s.heap = H at hI ⊢
  unfold f_X12_pair at h
  obtain ⟨locs, hlocs⟩ : ∃ x : List Loc, x = [] := ⟨_, rfl⟩
  rw [← hlocs] at hI ⊢
  refine lv_aload_n hx hb dX12_pair_0 rfl (lv_at hl 0 rfl) ?_
  refine lv_iload_n hx hb dX12_pair_1 rfl (lv_at hl 1 rfl) ?_
  obtain ⟨q_2, hq_2, h⟩ := ob_e h
  refine r_callV (As := [.int v1]) (rest := []) hx hb hml hts hown (c_X12_isGiver l HB D y F n κ σ hN v1 G24 e24 q_2 hq_2) cal_X12_isGiver im_X12_isGiver se_X12_isGiver lm_X12_284 ⟨Nat.le_of_ble_eq_true rfl, Nat.le_of_ble_eq_true rfl⟩ hI.nil hKK (r_recv hKK hI (hE12 HB.size y) rfl (lc91 hN) (kc91 hk0)) rfl hl.1 hI.2.2 rfl (Nat.le_of_ble_eq_true rfl) dX12_pair_2 ⟨Nat.le_of_ble_eq_true rfl, Nat.le_of_ble_eq_true rfl⟩ rfl rfl rfl (fun H locs hB hlo => ?_)
  have hI := hB.re hlo
  refine lv_if_eq (tgt := 56) hx hb dX12_pair_5 (by decide) (fun hc => ?_) (fun hc => ?_)
  · replace h := ite_t hc h
    refine lv_iconst (v := (-1)) hx hb dX12_pair_56 (by decide) ?_
    have hq := Option.some.inj h
    exact W.iret (v := (-1)) hx hb hr (fun t ht hW => qc_mk (congrArg (fun z => Outcome.returned (some (Value.int z.1))) hq) (by rw [ht]; exact ⟨σ, hI.nil, e25.trans (congrArg (fun z => z.2) hq), fr⟩)) hI.2.2 dX12_pair_57 hlocks
  · replace h := ite_f hc h
    refine lv_aload_n hx hb dX12_pair_8 rfl (lv_at hl 0 rfl) ?_
    refine lv_iload_n hx hb dX12_pair_9 rfl (lv_at hl 2 rfl) ?_
    obtain ⟨q_10, hq_10, h⟩ := ob_e h
    refine r_callV (As := [.int v2]) (rest := []) hx hb hml hts hown (c_X12_isChild l HB D y F n κ σ hN v2 G24 e24 q_10 hq_10) cal_X12_isChild im_X12_isChild se_X12_isChild lm_X12_287 ⟨Nat.le_of_ble_eq_true rfl, Nat.le_of_ble_eq_true rfl⟩ hI.nil hKK (r_recv hKK hI (hE12 HB.size y) rfl (lc91 hN) (kc91 hk0)) rfl hl.1 hI.2.2 rfl (Nat.le_of_ble_eq_true rfl) dX12_pair_10 ⟨Nat.le_of_ble_eq_true rfl, Nat.le_of_ble_eq_true rfl⟩ rfl rfl rfl (fun H locs hB hlo => ?_)
    have hI := hB.re hlo
    refine lv_if_eq (tgt := 56) hx hb dX12_pair_13 (by decide) (fun hc => ?_) (fun hc => ?_)
    · replace h := ite_t hc h
      refine lv_iconst (v := (-1)) hx hb dX12_pair_56 (by decide) ?_
      have hq := Option.some.inj h
      exact W.iret (v := (-1)) hx hb hr (fun t ht hW => qc_mk (congrArg (fun z => Outcome.returned (some (Value.int z.1))) hq) (by rw [ht]; exact ⟨σ, hI.nil, e25.trans (congrArg (fun z => z.2) hq), fr⟩)) hI.2.2 dX12_pair_57 hlocks
    · replace h := ite_f hc h
      refine lv_aload_n hx hb dX12_pair_16 rfl (lv_at hl 0 rfl) ?_
      refine lv_iload_n hx hb dX12_pair_17 rfl (lv_at hl 2 rfl) ?_
      obtain ⟨q_18, hq_18, h⟩ := ob_e h
      refine r_callV (As := [.int v2]) (rest := []) hx hb hml hts hown (c_X12_pairOf l HB D y F n κ σ hN v2 G25 e25 q_18 hq_18) cal_X12_pairOf im_X12_pairOf se_X12_pairOf lm_X12_290 ⟨Nat.le_of_ble_eq_true rfl, Nat.le_of_ble_eq_true rfl⟩ hI.nil hKK (r_recv hKK hI (hE12 HB.size y) rfl (lc91 hN) (kc91 hk0)) rfl hl.1 hI.2.2 rfl (Nat.le_of_ble_eq_true rfl) dX12_pair_18 ⟨Nat.le_of_ble_eq_true rfl, Nat.le_of_ble_eq_true rfl⟩ rfl rfl rfl (fun H locs hB hlo => ?_)
      have hI := hB.re hlo
      refine lv_iconst (v := (-1)) hx hb dX12_pair_21 (by decide) ?_
      refine lv_icmp_ne (tgt := 56) hx hb dX12_pair_22 (by decide) (fun hc => ?_) (fun hc => ?_)
      · replace h := ite_f hc h
        refine lv_iconst (v := (-1)) hx hb dX12_pair_56 (by decide) ?_
        have hq := Option.some.inj h
        exact W.iret (v := (-1)) hx hb hr (fun t ht hW => qc_mk (congrArg (fun z => Outcome.returned (some (Value.int z.1))) hq) (by rw [ht]; exact ⟨σ, hI.nil, e25.trans (congrArg (fun z => z.2) hq), fr⟩)) hI.2.2 dX12_pair_57 hlocks
      · replace h := ite_t hc h
        refine lv_aload_n hx hb dX12_pair_25 rfl (lv_at hl 0 rfl) ?_
        refine lv_iload_n hx hb dX12_pair_26 rfl (lv_at hl 1 rfl) ?_
        obtain ⟨q_27, hq_27, h⟩ := ob_e h
        refine r_callV (As := [.int v1]) (rest := []) hx hb hml hts hown (c_X12_pairsOf l HB D y F n κ σ hN v1 G25 e25 q_27 hq_27) cal_X12_pairsOf im_X12_pairsOf se_X12_pairsOf lm_X12_294 ⟨Nat.le_of_ble_eq_true rfl, Nat.le_of_ble_eq_true rfl⟩ hI.nil hKK (r_recv hKK hI (hE12 HB.size y) rfl (lc91 hN) (kc91 hk0)) rfl hl.1 hI.2.2 rfl (Nat.le_of_ble_eq_true rfl) dX12_pair_27 ⟨Nat.le_of_ble_eq_true rfl, Nat.le_of_ble_eq_true rfl⟩ rfl rfl rfl (fun H locs hB hlo => ?_)
        have hI := hB.re hlo
        refine lv_iconst (v := 2) hx hb dX12_pair_30 (by decide) ?_
        refine lv_icmp_ge (tgt := 56) hx hb dX12_pair_31 (by decide) (fun hc => ?_) (fun hc => ?_)
        · replace h := ite_t hc h
          refine lv_iconst (v := (-1)) hx hb dX12_pair_56 (by decide) ?_
          have hq := Option.some.inj h
          exact W.iret (v := (-1)) hx hb hr (fun t ht hW => qc_mk (congrArg (fun z => Outcome.returned (some (Value.int z.1))) hq) (by rw [ht]; exact ⟨σ, hI.nil, e25.trans (congrArg (fun z => z.2) hq), fr⟩)) hI.2.2 dX12_pair_57 hlocks
        · replace h := ite_f hc h
          refine lv_aload_n hx hb dX12_pair_34 rfl (lv_at hl 0 rfl) ?_
          refine lv_iload_n hx hb dX12_pair_35 rfl (lv_at hl 2 rfl) ?_
          refine lv_aload_n hx hb dX12_pair_36 rfl (lv_at hl 0 rfl) ?_
          refine gt_X12_281 hx hb hts hown hKK hI e23 (lc91 hN) (kc91 hk0) dX12_pair_37 ?_
          obtain ⟨q_40, hq_40, h⟩ := ob_e h
          refine r_callV (As := [.int v2, .int (G23.1 91 0)]) (rest := []) hx hb hml hts hown (c_X12_leftOn l HB D y F n κ σ hN v2 (G23.1 91 0) G41 e41 q_40 hq_40) cal_X12_leftOn im_X12_leftOn se_X12_leftOn lm_X12_297 ⟨Nat.le_of_ble_eq_true rfl, Nat.le_of_ble_eq_true rfl⟩ hI.nil hKK (r_recv hKK hI (hE12 HB.size y) rfl (lc91 hN) (kc91 hk0)) rfl hl.1 hI.2.2 rfl (Nat.le_of_ble_eq_true rfl) dX12_pair_40 ⟨Nat.le_of_ble_eq_true rfl, Nat.le_of_ble_eq_true rfl⟩ rfl rfl rfl (fun H locs hB hlo => ?_)
          have hI := hB.re hlo
          refine lv_iconst (v := (-1)) hx hb dX12_pair_43 (by decide) ?_
          refine lv_icmp_ne (tgt := 56) hx hb dX12_pair_44 (by decide) (fun hc => ?_) (fun hc => ?_)
          · replace h := ite_f hc h
            refine lv_iconst (v := (-1)) hx hb dX12_pair_56 (by decide) ?_
            have hq := Option.some.inj h
            exact W.iret (v := (-1)) hx hb hr (fun t ht hW => qc_mk (congrArg (fun z => Outcome.returned (some (Value.int z.1))) hq) (by rw [ht]; exact ⟨σ, hI.nil, e25.trans (congrArg (fun z => z.2) hq), fr⟩)) hI.2.2 dX12_pair_57 hlocks
          · replace h := ite_t hc h
            refine lv_aload_n hx hb dX12_pair_47 rfl (lv_at hl 0 rfl) ?_
            refine gt_X12_274 hx hb hts hown hKK hI e25 (lc91 hN) (kc91 hk0) dX12_pair_48 ?_
            refine lv_bipush (v := 40) hx hb dX12_pair_51 (by decide) ?_
            refine lv_icmp_ne (tgt := 58) hx hb dX12_pair_53 (by decide) (fun hc => ?_) (fun hc => ?_)
            · replace h := ite_f hc h
              refine lv_aload_n hx hb dX12_pair_58 rfl (lv_at hl 0 rfl) ?_
              refine lv_iload_n hx hb dX12_pair_59 rfl (lv_at hl 1 rfl) ?_
              refine lv_iload_n hx hb dX12_pair_60 rfl (lv_at hl 2 rfl) ?_
              obtain ⟨q_61, hq_61, h⟩ := ob_e h
              refine r_callV (As := [.int v1, .int v2]) (rest := []) hx hb hml hts hown (c_X12_begins l HB D y F n κ σ hN v1 v2 G23 e23 G25 e25 q_61 hq_61) cal_X12_begins im_X12_begins se_X12_begins lm_X12_301 ⟨Nat.le_of_ble_eq_true rfl, Nat.le_of_ble_eq_true rfl⟩ hI.nil hKK (r_recv hKK hI (hE12 HB.size y) rfl (lc91 hN) (kc91 hk0)) rfl hl.1 hI.2.2 rfl (Nat.le_of_ble_eq_true rfl) dX12_pair_61 ⟨Nat.le_of_ble_eq_true rfl, Nat.le_of_ble_eq_true rfl⟩ rfl rfl rfl (fun H locs hB hlo => ?_)
              obtain ⟨σ, hB, en25, ho⟩ := hB
              have hI := hB.re hlo
              have e25 := en25
              have e23 := (ho 23 (ni rfl)).trans e23
              have e24 := (ho 24 (ni rfl)).trans e24
              have e41 := (ho 41 (ni rfl)).trans e41
              have fr := frc fr ho (by decide)
              have hq := Option.some.inj h
              exact W.iret (v := q_61.1) hx hb hr (fun t ht hW => qc_mk (congrArg (fun z => Outcome.returned (some (Value.int z.1))) hq) (by rw [ht]; exact ⟨σ, hI.nil, e25.trans (congrArg (fun z => z.2) hq), fr⟩)) hI.2.2 dX12_pair_64 hlocks
            · replace h := ite_t hc h
              refine lv_iconst (v := (-1)) hx hb dX12_pair_56 (by decide) ?_
              have hq := Option.some.inj h
              exact W.iret (v := (-1)) hx hb hr (fun t ht hW => qc_mk (congrArg (fun z => Outcome.returned (some (Value.int z.1))) hq) (by rw [ht]; exact ⟨σ, hI.nil, e25.trans (congrArg (fun z => z.2) hq), fr⟩)) hI.2.2 dX12_pair_57 hlocks
noncomputable def f_X12_end (F : Nat) (G23 : Grp) (G25 : Grp) (v1 : Int32) : Option (Int32 × Grp) :=
  ob (f_X12_isPair F G25 v1) (fun q_2 => if q_2 = 0 then some (0, G25) else ob (f_X12_isOpen F G25 v1) (fun q_10 => if q_10 = 0 then some (0, G25) else ck v1 40 (bn (gI G25 102 v1.toNatClampNeg (G23.1 91 0)) (fun G25_27 => some (1, G25_27)))))
def RM_X12_end : Room := { frames := 1, cells := 0, slots := 0, locals := 21 }
abbrev W_X12_end : List Nat := [25]
abbrev B_X12_end (HB : Heap) (D : va_G) (y : Nat → ClassId) (n : Nat) (κ : Nat → Nat) (σ0 : St) (q : Int32 × Grp) : Heap → Prop := fun H => ∃ σ : St, IV HB D y n n κ σ [] H ∧ σ 25 = q.2 ∧ ∀ j, j ∉ W_X12_end → σ j = σ0 j
set_option maxRecDepth 100000 in
set_option maxHeartbeats 4000000 in
theorem c_X12_end (l : Launch) (HB : Heap) (D : va_G) (y : Nat → ClassId) (F n : Nat) (κ : Nat → Nat) (σ0 : St) (hN : N0 ≤ n) (v1 : Int32)  (G23 : Grp) (e23 : σ0 23 = G23) (G25 : Grp) (e25 : σ0 25 = G25) (q : Int32 × Grp) (h : f_X12_end F G23 G25 v1 = some q) : MT l HB D y yX12_end cX12_end 2 (some .boolean) RM_X12_end [.ref (HB.size + 91), .int v1] (IV HB D y n n κ σ0 []) (some (.int q.1)) (B_X12_end HB D y n κ σ0 q) := by
  refine Met.ofW (cc := cX12_end) (maxL := 2) (ret := (some .boolean)) (by decide) rfl ?_
  intro p e s m args below meth c s₁ BL hml hv
  obtain ⟨rfl, hI, hKK⟩ := hv
  have hx := BL.exec
  have hb := BL.bytes
  have hr := BL.returns
  have hts : ∀ w ∈ gtb, w.before _ s = true := fun w hw => atoms_spec BL.pre w (List.mem_cons_of_mem _ hw)
  have hml : c.maxLocals = 2 := hml
  have hown : s.vm.findClass RX12 = some m.cls := findClass_of_methodNamed BL.named
  have hlocks := BL.notSynchronized
  have hk0 := hI.1.2.2.2.2
  have hl := lv_entry ([.ref (HB.size + 91), .int v1]) (n := 2) (Nat.le_of_ble_eq_true rfl)
  rw [lg_entry_eq]
  generalize (lg_sl ([.ref (HB.size + 91), .int v1]) ++ List.replicate (2 - (lg_sl ([.ref (HB.size + 91), .int v1])).length) Slot.unset).toArray = ls at hl ⊢
  have hl : lv_has ls 2 [(0, .ref (HB.size + 91)), (1, .int v1)] := hl
  generalize hargs : ([.ref (HB.size + 91), .int v1] : List Value).toArray = args at *
  obtain ⟨σ, hI, e23, e25, fr⟩ : ∃ σ : St, IV HB D y n n κ σ [] s.heap ∧ σ 23 = G23 ∧ σ 25 = G25 ∧ ∀ j, j ∉ W_X12_end → σ j = σ0 j := ⟨σ0, hI, e23, e25, fun _ _ => rfl⟩
  show WX RM_X12_end p l e s m args below meth c HB (some (.int q.1)) (B_X12_end HB D y n κ σ0 q) s.heap [] (F0 m 0 ls [])
  generalize s.heap = H at hI ⊢
  unfold f_X12_end at h
  obtain ⟨locs, hlocs⟩ : ∃ x : List Loc, x = [] := ⟨_, rfl⟩
  rw [← hlocs] at hI ⊢
  refine lv_aload_n hx hb dX12_end_0 rfl (lv_at hl 0 rfl) ?_
  refine lv_iload_n hx hb dX12_end_1 rfl (lv_at hl 1 rfl) ?_
  obtain ⟨q_2, hq_2, h⟩ := ob_e h
  refine r_callV (As := [.int v1]) (rest := []) hx hb hml hts hown (c_X12_isPair l HB D y F n κ σ hN v1 G25 e25 q_2 hq_2) cal_X12_isPair im_X12_isPair se_X12_isPair lm_X12_304 ⟨Nat.le_of_ble_eq_true rfl, Nat.le_of_ble_eq_true rfl⟩ hI.nil hKK (r_recv hKK hI (hE12 HB.size y) rfl (lc91 hN) (kc91 hk0)) rfl hl.1 hI.2.2 rfl (Nat.le_of_ble_eq_true rfl) dX12_end_2 ⟨Nat.le_of_ble_eq_true rfl, Nat.le_of_ble_eq_true rfl⟩ rfl rfl rfl (fun H locs hB hlo => ?_)
  have hI := hB.re hlo
  refine lv_if_eq (tgt := 16) hx hb dX12_end_5 (by decide) (fun hc => ?_) (fun hc => ?_)
  · replace h := ite_t hc h
    refine lv_iconst (v := 0) hx hb dX12_end_16 (by decide) ?_
    have hq := Option.some.inj h
    exact W.zret (v := 0) (ty := .boolean) hx hb hr rfl (fun t ht hW => qc_mk (congrArg (fun z => Outcome.returned (some (Value.int z.1))) hq) (by rw [ht]; exact ⟨σ, hI.nil, e25.trans (congrArg (fun z => z.2) hq), fr⟩)) hI.2.2 dX12_end_17 hlocks
  · replace h := ite_f hc h
    refine lv_aload_n hx hb dX12_end_8 rfl (lv_at hl 0 rfl) ?_
    refine lv_iload_n hx hb dX12_end_9 rfl (lv_at hl 1 rfl) ?_
    obtain ⟨q_10, hq_10, h⟩ := ob_e h
    refine r_callV (As := [.int v1]) (rest := []) hx hb hml hts hown (c_X12_isOpen l HB D y F n κ σ hN v1 G25 e25 q_10 hq_10) cal_X12_isOpen im_X12_isOpen se_X12_isOpen lm_X12_277 ⟨Nat.le_of_ble_eq_true rfl, Nat.le_of_ble_eq_true rfl⟩ hI.nil hKK (r_recv hKK hI (hE12 HB.size y) rfl (lc91 hN) (kc91 hk0)) rfl hl.1 hI.2.2 rfl (Nat.le_of_ble_eq_true rfl) dX12_end_10 ⟨Nat.le_of_ble_eq_true rfl, Nat.le_of_ble_eq_true rfl⟩ rfl rfl rfl (fun H locs hB hlo => ?_)
    have hI := hB.re hlo
    refine lv_if_ne (tgt := 18) hx hb dX12_end_13 (by decide) (fun hc => ?_) (fun hc => ?_)
    · replace h := ite_f hc h
      refine lv_aload_n hx hb dX12_end_18 rfl (lv_at hl 0 rfl) ?_
      refine gf_X12_40 hx hb hts hown hKK hI hN dX12_end_19 ?_
      refine lv_iload_n hx hb dX12_end_22 rfl (lv_at hl 1 rfl) ?_
      refine lv_aload_n hx hb dX12_end_23 rfl (lv_at hl 0 rfl) ?_
      refine gt_X12_281 hx hb hts hown hKK hI e23 (lc91 hN) (kc91 hk0) dX12_end_24 ?_
      obtain ⟨hin_, h⟩ := ck_e h
      obtain ⟨G25_27, qq, h⟩ := bn_e h
      refine sa_44 hx hb hKK hI e25 (lc102 hN) (kc102 hk0) hin_ dX12_end_27 (fun σ H locs hI ew ho => ?_)
      have e25 := ew.trans qq.symm
      have e23 := (ho 23 (nn rfl)).trans e23
      have fr := frs fr ho (by decide)
      refine lv_iconst (v := 1) hx hb dX12_end_28 (by decide) ?_
      have hq := Option.some.inj h
      exact W.zret (v := 1) (ty := .boolean) hx hb hr rfl (fun t ht hW => qc_mk (congrArg (fun z => Outcome.returned (some (Value.int z.1))) hq) (by rw [ht]; exact ⟨σ, hI.nil, e25.trans (congrArg (fun z => z.2) hq), fr⟩)) hI.2.2 dX12_end_29 hlocks
    · replace h := ite_t hc h
      refine lv_iconst (v := 0) hx hb dX12_end_16 (by decide) ?_
      have hq := Option.some.inj h
      exact W.zret (v := 0) (ty := .boolean) hx hb hr rfl (fun t ht hW => qc_mk (congrArg (fun z => Outcome.returned (some (Value.int z.1))) hq) (by rw [ht]; exact ⟨σ, hI.nil, e25.trans (congrArg (fun z => z.2) hq), fr⟩)) hI.2.2 dX12_end_17 hlocks
noncomputable def f_X12_mostOf (F : Nat)  (v0 : Int32) : Option (Int32) :=
  if v0 = 0 then some 60 else if v0 = 1 then some 127 else if v0 = 2 then some 20 else if v0 = 3 then some 8 else if v0 = 4 then some 400 else if v0 = 5 then some 100 else if v0 = 6 then some 100 else some 1000000
def RM_X12_mostOf : Room := { frames := 0, cells := 0, slots := 0, locals := 0 }
abbrev B_X12_mostOf (HB : Heap) (D : va_G) (y : Nat → ClassId) (n : Nat) (κ : Nat → Nat) (σ : St) (q : Int32) : Heap → Prop := fun H => IV HB D y n n κ σ [] H
set_option maxRecDepth 100000 in
set_option maxHeartbeats 4000000 in
theorem c_X12_mostOf (l : Launch) (HB : Heap) (D : va_G) (y : Nat → ClassId) (F n : Nat) (κ : Nat → Nat) (σ : St) (hN : N0 ≤ n) (v0 : Int32)   (q : Int32) (h : f_X12_mostOf F v0 = some q) : MT l HB D y yX12_mostOf cX12_mostOf 1 (some .int) RM_X12_mostOf [.int v0] (IV HB D y n n κ σ []) (some (.int q)) (B_X12_mostOf HB D y n κ σ q) := by
  refine Met.ofW (cc := cX12_mostOf) (maxL := 1) (ret := (some .int)) (by decide) rfl ?_
  intro p e s m args below meth c s₁ BL hml hv
  obtain ⟨rfl, hI, hKK⟩ := hv
  have hx := BL.exec
  have hb := BL.bytes
  have hr := BL.returns
  have hts : ∀ w ∈ gtb, w.before _ s = true := fun w hw => atoms_spec BL.pre w (List.mem_cons_of_mem _ hw)
  have hml : c.maxLocals = 1 := hml
  have hown : s.vm.findClass RX12 = some m.cls := findClass_of_methodNamed BL.named
  have hlocks := BL.notSynchronized
  have hk0 := hI.1.2.2.2.2
  have hl := lv_entry ([.int v0]) (n := 1) (Nat.le_of_ble_eq_true rfl)
  rw [lg_entry_eq]
  generalize (lg_sl ([.int v0]) ++ List.replicate (1 - (lg_sl ([.int v0])).length) Slot.unset).toArray = ls at hl ⊢
  have hl : lv_has ls 1 [(0, .int v0)] := hl
  generalize hargs : ([.int v0] : List Value).toArray = args at *
  show WX RM_X12_mostOf p l e s m args below meth c HB (some (.int q)) (B_X12_mostOf HB D y n κ σ q) s.heap [] (F0 m 0 ls [])
  generalize s.heap = H at hI ⊢
  unfold f_X12_mostOf at h
  obtain ⟨locs, hlocs⟩ : ∃ x : List Loc, x = [] := ⟨_, rfl⟩
  rw [← hlocs] at hI ⊢
  refine lv_iload_n hx hb dX12_mostOf_0 rfl (lv_at hl 0 rfl) ?_
  by_cases hc0 : v0 = 0
  · replace h := ite_t hc0 h
    refine lv_tableIn (off := 43) (tgt := 44) hx hb dX12_mostOf_1 (by rw [hc0]; decide) (by rw [hc0]; decide) (by rw [hc0]; decide) (by decide) ?_
    refine lv_bipush (v := 60) hx hb dX12_mostOf_44 (by decide) ?_
    have hq := Option.some.inj h
    exact W.iret (v := 60) hx hb hr (fun t ht hW => qc_mk (congrArg (fun z => Outcome.returned (some (Value.int z))) hq) (by rw [ht]; exact hI.nil)) hI.2.2 dX12_mostOf_46 hlocks
  · replace h := ite_f hc0 h
    by_cases hc1 : v0 = 1
    · replace h := ite_t hc1 h
      refine lv_tableIn (off := 46) (tgt := 47) hx hb dX12_mostOf_1 (by rw [hc1]; decide) (by rw [hc1]; decide) (by rw [hc1]; decide) (by decide) ?_
      refine lv_bipush (v := 127) hx hb dX12_mostOf_47 (by decide) ?_
      have hq := Option.some.inj h
      exact W.iret (v := 127) hx hb hr (fun t ht hW => qc_mk (congrArg (fun z => Outcome.returned (some (Value.int z))) hq) (by rw [ht]; exact hI.nil)) hI.2.2 dX12_mostOf_49 hlocks
    · replace h := ite_f hc1 h
      by_cases hc2 : v0 = 2
      · replace h := ite_t hc2 h
        refine lv_tableIn (off := 49) (tgt := 50) hx hb dX12_mostOf_1 (by rw [hc2]; decide) (by rw [hc2]; decide) (by rw [hc2]; decide) (by decide) ?_
        refine lv_bipush (v := 20) hx hb dX12_mostOf_50 (by decide) ?_
        have hq := Option.some.inj h
        exact W.iret (v := 20) hx hb hr (fun t ht hW => qc_mk (congrArg (fun z => Outcome.returned (some (Value.int z))) hq) (by rw [ht]; exact hI.nil)) hI.2.2 dX12_mostOf_52 hlocks
      · replace h := ite_f hc2 h
        by_cases hc3 : v0 = 3
        · replace h := ite_t hc3 h
          refine lv_tableIn (off := 52) (tgt := 53) hx hb dX12_mostOf_1 (by rw [hc3]; decide) (by rw [hc3]; decide) (by rw [hc3]; decide) (by decide) ?_
          refine lv_bipush (v := 8) hx hb dX12_mostOf_53 (by decide) ?_
          have hq := Option.some.inj h
          exact W.iret (v := 8) hx hb hr (fun t ht hW => qc_mk (congrArg (fun z => Outcome.returned (some (Value.int z))) hq) (by rw [ht]; exact hI.nil)) hI.2.2 dX12_mostOf_55 hlocks
        · replace h := ite_f hc3 h
          by_cases hc4 : v0 = 4
          · replace h := ite_t hc4 h
            refine lv_tableIn (off := 55) (tgt := 56) hx hb dX12_mostOf_1 (by rw [hc4]; decide) (by rw [hc4]; decide) (by rw [hc4]; decide) (by decide) ?_
            refine lv_sipush (v := 400) hx hb dX12_mostOf_56 (by decide) ?_
            have hq := Option.some.inj h
            exact W.iret (v := 400) hx hb hr (fun t ht hW => qc_mk (congrArg (fun z => Outcome.returned (some (Value.int z))) hq) (by rw [ht]; exact hI.nil)) hI.2.2 dX12_mostOf_59 hlocks
          · replace h := ite_f hc4 h
            by_cases hc5 : v0 = 5
            · replace h := ite_t hc5 h
              refine lv_tableIn (off := 59) (tgt := 60) hx hb dX12_mostOf_1 (by rw [hc5]; decide) (by rw [hc5]; decide) (by rw [hc5]; decide) (by decide) ?_
              refine lv_bipush (v := 100) hx hb dX12_mostOf_60 (by decide) ?_
              have hq := Option.some.inj h
              exact W.iret (v := 100) hx hb hr (fun t ht hW => qc_mk (congrArg (fun z => Outcome.returned (some (Value.int z))) hq) (by rw [ht]; exact hI.nil)) hI.2.2 dX12_mostOf_62 hlocks
            · replace h := ite_f hc5 h
              by_cases hc6 : v0 = 6
              · replace h := ite_t hc6 h
                refine lv_tableIn (off := 59) (tgt := 60) hx hb dX12_mostOf_1 (by rw [hc6]; decide) (by rw [hc6]; decide) (by rw [hc6]; decide) (by decide) ?_
                refine lv_bipush (v := 100) hx hb dX12_mostOf_60 (by decide) ?_
                have hq := Option.some.inj h
                exact W.iret (v := 100) hx hb hr (fun t ht hW => qc_mk (congrArg (fun z => Outcome.returned (some (Value.int z))) hq) (by rw [ht]; exact hI.nil)) hI.2.2 dX12_mostOf_62 hlocks
              · replace h := ite_f hc6 h
                refine lv_tableOut (tgt := 63) hx hb dX12_mostOf_1 (swo (fun j h1 h2 => ?_)) (by decide) ?_
                · have hj : j = 0 ∨ j = 1 ∨ j = 2 ∨ j = 3 ∨ j = 4 ∨ j = 5 ∨ j = 6 := by omega
                  rcases hj with rfl | rfl | rfl | rfl | rfl | rfl | rfl
                  · exact lv_neT hc0 (by decide)
                  · exact lv_neT hc1 (by decide)
                  · exact lv_neT hc2 (by decide)
                  · exact lv_neT hc3 (by decide)
                  · exact lv_neT hc4 (by decide)
                  · exact lv_neT hc5 (by decide)
                  · exact lv_neT hc6 (by decide)
                · refine lv_ldcw (v := 1000000) hx hb hown (hts _ lk_X12_307) dX12_mostOf_63 ?_
                  have hq := Option.some.inj h
                  exact W.iret (v := 1000000) hx hb hr (fun t ht hW => qc_mk (congrArg (fun z => Outcome.returned (some (Value.int z))) hq) (by rw [ht]; exact hI.nil)) hI.2.2 dX12_mostOf_66 hlocks
noncomputable def f_X12_number_b73 (F : Nat)  (G26 : Grp) (v1 : Int32) (v2 : Int32) : Option (Int32 × Grp) :=
  ck v1 8 (bn (gI G26 105 v1.toNatClampNeg v2) (fun G26_79 => some (1, G26_79)))
noncomputable def f_X12_number_b52 (F : Nat)  (G26 : Grp) (v1 : Int32) (v2 : Int32) : Option (Int32 × Grp) :=
  if v1 = 6 then ck 5 8 (if (v2 + (G26.1 105 (5 : Int32).toNatClampNeg)) ≤ 100 then f_X12_number_b73 F  G26 v1 v2 else some (0, G26)) else f_X12_number_b73 F  G26 v1 v2
noncomputable def f_X12_number_b21 (F : Nat)  (G26 : Grp) (v1 : Int32) (v2 : Int32) (s0 : Int32) (s1 : Int32) : Option (Int32 × Grp) :=
  ob (f_X12_mostOf F v1) (fun q_22 => ob (f_X12_in F s0 s1 q_22) (fun q_25 => if q_25 = 0 then some (0, G26) else if v1 = 5 then ck 6 8 (if 100 < (v2 + (G26.1 105 (6 : Int32).toNatClampNeg)) then some (0, G26) else f_X12_number_b52 F  G26 v1 v2) else f_X12_number_b52 F  G26 v1 v2))
noncomputable def f_X12_number (F : Nat) (G26 : Grp) (v1 : Int32) (v2 : Int32) : Option (Int32 × Grp) :=
  ob (f_X12_in F v1 0 7) (fun q_4 => if q_4 = 0 then some (0, G26) else if 4 ≤ v1 then f_X12_number_b21 F  G26 v1 v2 v2 0 else f_X12_number_b21 F  G26 v1 v2 v2 1)
def RM_X12_number : Room := { frames := 1, cells := 0, slots := 0, locals := 22 }
abbrev W_X12_number : List Nat := [26]
abbrev B_X12_number (HB : Heap) (D : va_G) (y : Nat → ClassId) (n : Nat) (κ : Nat → Nat) (σ0 : St) (q : Int32 × Grp) : Heap → Prop := fun H => ∃ σ : St, IV HB D y n n κ σ [] H ∧ σ 26 = q.2 ∧ ∀ j, j ∉ W_X12_number → σ j = σ0 j
set_option maxRecDepth 100000 in
set_option maxHeartbeats 4000000 in
theorem c_X12_number (l : Launch) (HB : Heap) (D : va_G) (y : Nat → ClassId) (F n : Nat) (κ : Nat → Nat) (σ0 : St) (hN : N0 ≤ n) (v1 : Int32)  (v2 : Int32)  (G26 : Grp) (e26 : σ0 26 = G26) (q : Int32 × Grp) (h : f_X12_number F G26 v1 v2 = some q) : MT l HB D y yX12_number cX12_number 3 (some .boolean) RM_X12_number [.ref (HB.size + 91), .int v1, .int v2] (IV HB D y n n κ σ0 []) (some (.int q.1)) (B_X12_number HB D y n κ σ0 q) := by
  refine Met.ofW (cc := cX12_number) (maxL := 3) (ret := (some .boolean)) (by decide) rfl ?_
  intro p e s m args below meth c s₁ BL hml hv
  obtain ⟨rfl, hI, hKK⟩ := hv
  have hx := BL.exec
  have hb := BL.bytes
  have hr := BL.returns
  have hts : ∀ w ∈ gtb, w.before _ s = true := fun w hw => atoms_spec BL.pre w (List.mem_cons_of_mem _ hw)
  have hml : c.maxLocals = 3 := hml
  have hown : s.vm.findClass RX12 = some m.cls := findClass_of_methodNamed BL.named
  have hlocks := BL.notSynchronized
  have hk0 := hI.1.2.2.2.2
  have hl := lv_entry ([.ref (HB.size + 91), .int v1, .int v2]) (n := 3) (Nat.le_of_ble_eq_true rfl)
  rw [lg_entry_eq]
  generalize (lg_sl ([.ref (HB.size + 91), .int v1, .int v2]) ++ List.replicate (3 - (lg_sl ([.ref (HB.size + 91), .int v1, .int v2])).length) Slot.unset).toArray = ls at hl ⊢
  have hl : lv_has ls 3 [(0, .ref (HB.size + 91)), (1, .int v1), (2, .int v2)] := hl
  generalize hargs : ([.ref (HB.size + 91), .int v1, .int v2] : List Value).toArray = args at *
  have b73 : ∀ (σ : St) (H : Heap) (locs : List Loc) (ls : Array Slot) (G26 : Grp) (v1 : Int32) (v2 : Int32) , IV HB D y n n κ σ locs H → σ 26 = G26 → (∀ j, j ∉ W_X12_number → σ j = σ0 j) → lv_has ls 3 [(0, .ref (HB.size + 91)), (1, .int v1), (2, .int v2)] → f_X12_number_b73 F  G26 v1 v2 = some q → WX RM_X12_number p l e s m args below meth c HB (some (.int q.1)) (B_X12_number HB D y n κ σ0 q) H locs (F0 m 73 ls []) := by
    intro  σ H locs ls G26 v1 v2 hI e26 fr hl h
    unfold f_X12_number_b73 at h
    refine lv_aload_n hx hb dX12_number_73 rfl (lv_at hl 0 rfl) ?_
    refine gf_X12_49 hx hb hts hown hKK hI hN dX12_number_74 ?_
    refine lv_iload_n hx hb dX12_number_77 rfl (lv_at hl 1 rfl) ?_
    refine lv_iload_n hx hb dX12_number_78 rfl (lv_at hl 2 rfl) ?_
    obtain ⟨hin_, h⟩ := ck_e h
    obtain ⟨G26_79, qq, h⟩ := bn_e h
    refine sa_45 hx hb hKK hI e26 (lc105 hN) (kc105 hk0) hin_ dX12_number_79 (fun σ H locs hI ew ho => ?_)
    have e26 := ew.trans qq.symm
    have fr := frs fr ho (by decide)
    refine lv_iconst (v := 1) hx hb dX12_number_80 (by decide) ?_
    have hq := Option.some.inj h
    exact W.zret (v := 1) (ty := .boolean) hx hb hr rfl (fun t ht hW => qc_mk (congrArg (fun z => Outcome.returned (some (Value.int z.1))) hq) (by rw [ht]; exact ⟨σ, hI.nil, e26.trans (congrArg (fun z => z.2) hq), fr⟩)) hI.2.2 dX12_number_81 hlocks
  have b52 : ∀ (σ : St) (H : Heap) (locs : List Loc) (ls : Array Slot) (G26 : Grp) (v1 : Int32) (v2 : Int32) , IV HB D y n n κ σ locs H → σ 26 = G26 → (∀ j, j ∉ W_X12_number → σ j = σ0 j) → lv_has ls 3 [(0, .ref (HB.size + 91)), (1, .int v1), (2, .int v2)] → f_X12_number_b52 F  G26 v1 v2 = some q → WX RM_X12_number p l e s m args below meth c HB (some (.int q.1)) (B_X12_number HB D y n κ σ0 q) H locs (F0 m 52 ls []) := by
    intro  σ H locs ls G26 v1 v2 hI e26 fr hl h
    unfold f_X12_number_b52 at h
    refine lv_iload_n hx hb dX12_number_52 rfl (lv_at hl 1 rfl) ?_
    refine lv_bipush (v := 6) hx hb dX12_number_53 (by decide) ?_
    refine lv_icmp_ne (tgt := 73) hx hb dX12_number_55 (by decide) (fun hc => ?_) (fun hc => ?_)
    · replace h := ite_f hc h
      exact b73  σ H locs ls G26 v1 v2  hI e26 fr (lv_sub hl [0, 1, 2] rfl) h
    · replace h := ite_t hc h
      refine lv_iload_n hx hb dX12_number_58 rfl (lv_at hl 2 rfl) ?_
      refine lv_aload_n hx hb dX12_number_59 rfl (lv_at hl 0 rfl) ?_
      refine gf_X12_49 hx hb hts hown hKK hI hN dX12_number_60 ?_
      refine lv_iconst (v := 5) hx hb dX12_number_63 (by decide) ?_
      obtain ⟨hin_, h⟩ := ck_e h
      refine la_45 hx hb hKK hI e26 (lc105 hN) (kc105 hk0) hin_ dX12_number_64 ?_
      refine lv_iadd hx hb dX12_number_65 ?_
      refine lv_bipush (v := 100) hx hb dX12_number_66 (by decide) ?_
      refine lv_icmp_le (tgt := 73) hx hb dX12_number_68 (by decide) (fun hc => ?_) (fun hc => ?_)
      · replace h := ite_t hc h
        exact b73  σ H locs ls G26 v1 v2  hI e26 fr (lv_sub hl [0, 1, 2] rfl) h
      · replace h := ite_f hc h
        refine lv_iconst (v := 0) hx hb dX12_number_71 (by decide) ?_
        have hq := Option.some.inj h
        exact W.zret (v := 0) (ty := .boolean) hx hb hr rfl (fun t ht hW => qc_mk (congrArg (fun z => Outcome.returned (some (Value.int z.1))) hq) (by rw [ht]; exact ⟨σ, hI.nil, e26.trans (congrArg (fun z => z.2) hq), fr⟩)) hI.2.2 dX12_number_72 hlocks
  have b21 : ∀ (σ : St) (H : Heap) (locs : List Loc) (ls : Array Slot) (G26 : Grp) (v1 : Int32) (v2 : Int32) (s0 : Int32) (s1 : Int32) , IV HB D y n n κ σ locs H → σ 26 = G26 → (∀ j, j ∉ W_X12_number → σ j = σ0 j) → lv_has ls 3 [(0, .ref (HB.size + 91)), (1, .int v1), (2, .int v2)] → f_X12_number_b21 F  G26 v1 v2 s0 s1 = some q → WX RM_X12_number p l e s m args below meth c HB (some (.int q.1)) (B_X12_number HB D y n κ σ0 q) H locs (F0 m 21 ls [.int s1, .int s0]) := by
    intro  σ H locs ls G26 v1 v2 s0 s1 hI e26 fr hl h
    unfold f_X12_number_b21 at h
    refine lv_iload_n hx hb dX12_number_21 rfl (lv_at hl 1 rfl) ?_
    obtain ⟨q_22, hq_22, h⟩ := ob_e h
    refine r_callS (As := [.int v1]) (rest := [.int s1, .int s0]) hx hb hml hts hown (c_X12_mostOf l HB D y F n κ σ hN v1  q_22 hq_22) cal_X12_mostOf st_X12_mostOf lm_X12_308 ⟨Nat.le_of_ble_eq_true rfl, Nat.le_of_ble_eq_true rfl⟩ hI.nil hKK rfl hl.1 hI.2.2 rfl (Nat.le_of_ble_eq_true rfl) dX12_number_22 ⟨Nat.le_of_ble_eq_true rfl, Nat.le_of_ble_eq_true rfl⟩ rfl rfl rfl (fun H locs hB hlo => ?_)
    have hI := hB.re hlo
    obtain ⟨q_25, hq_25, h⟩ := ob_e h
    refine r_callS (As := [.int s0, .int s1, .int q_22]) (rest := []) hx hb hml hts hown (c_X12_in l HB D y F n κ σ hN s0 s1 q_22  q_25 hq_25) cal_X12_in st_X12_in lm_X12_260 ⟨Nat.le_of_ble_eq_true rfl, Nat.le_of_ble_eq_true rfl⟩ hI.nil hKK rfl hl.1 hI.2.2 rfl (Nat.le_of_ble_eq_true rfl) dX12_number_25 ⟨Nat.le_of_ble_eq_true rfl, Nat.le_of_ble_eq_true rfl⟩ rfl rfl rfl (fun H locs hB hlo => ?_)
    have hI := hB.re hlo
    refine lv_if_ne (tgt := 33) hx hb dX12_number_28 (by decide) (fun hc => ?_) (fun hc => ?_)
    · replace h := ite_f hc h
      refine lv_iload_n hx hb dX12_number_33 rfl (lv_at hl 1 rfl) ?_
      refine lv_iconst (v := 5) hx hb dX12_number_34 (by decide) ?_
      refine lv_icmp_ne (tgt := 52) hx hb dX12_number_35 (by decide) (fun hc => ?_) (fun hc => ?_)
      · replace h := ite_f hc h
        exact b52  σ H locs ls G26 v1 v2  hI e26 fr (lv_sub hl [0, 1, 2] rfl) h
      · replace h := ite_t hc h
        refine lv_iload_n hx hb dX12_number_38 rfl (lv_at hl 2 rfl) ?_
        refine lv_aload_n hx hb dX12_number_39 rfl (lv_at hl 0 rfl) ?_
        refine gf_X12_49 hx hb hts hown hKK hI hN dX12_number_40 ?_
        refine lv_bipush (v := 6) hx hb dX12_number_43 (by decide) ?_
        obtain ⟨hin_, h⟩ := ck_e h
        refine la_45 hx hb hKK hI e26 (lc105 hN) (kc105 hk0) hin_ dX12_number_45 ?_
        refine lv_iadd hx hb dX12_number_46 ?_
        refine lv_bipush (v := 100) hx hb dX12_number_47 (by decide) ?_
        refine lv_icmp_gt (tgt := 71) hx hb dX12_number_49 (by decide) (fun hc => ?_) (fun hc => ?_)
        · replace h := ite_t hc h
          refine lv_iconst (v := 0) hx hb dX12_number_71 (by decide) ?_
          have hq := Option.some.inj h
          exact W.zret (v := 0) (ty := .boolean) hx hb hr rfl (fun t ht hW => qc_mk (congrArg (fun z => Outcome.returned (some (Value.int z.1))) hq) (by rw [ht]; exact ⟨σ, hI.nil, e26.trans (congrArg (fun z => z.2) hq), fr⟩)) hI.2.2 dX12_number_72 hlocks
        · replace h := ite_f hc h
          exact b52  σ H locs ls G26 v1 v2  hI e26 fr (lv_sub hl [0, 1, 2] rfl) h
    · replace h := ite_t hc h
      refine lv_iconst (v := 0) hx hb dX12_number_31 (by decide) ?_
      have hq := Option.some.inj h
      exact W.zret (v := 0) (ty := .boolean) hx hb hr rfl (fun t ht hW => qc_mk (congrArg (fun z => Outcome.returned (some (Value.int z.1))) hq) (by rw [ht]; exact ⟨σ, hI.nil, e26.trans (congrArg (fun z => z.2) hq), fr⟩)) hI.2.2 dX12_number_32 hlocks
  obtain ⟨σ, hI, e26, fr⟩ : ∃ σ : St, IV HB D y n n κ σ [] s.heap ∧ σ 26 = G26 ∧ ∀ j, j ∉ W_X12_number → σ j = σ0 j := ⟨σ0, hI, e26, fun _ _ => rfl⟩
  show WX RM_X12_number p l e s m args below meth c HB (some (.int q.1)) (B_X12_number HB D y n κ σ0 q) s.heap [] (F0 m 0 ls [])
  generalize s.heap = H at hI ⊢
  unfold f_X12_number at h
  obtain ⟨locs, hlocs⟩ : ∃ x : List Loc, x = [] := ⟨_, rfl⟩
  rw [← hlocs] at hI ⊢
  refine lv_iload_n hx hb dX12_number_0 rfl (lv_at hl 1 rfl) ?_
  refine lv_iconst (v := 0) hx hb dX12_number_1 (by decide) ?_
  refine lv_bipush (v := 7) hx hb dX12_number_2 (by decide) ?_
  obtain ⟨q_4, hq_4, h⟩ := ob_e h
  refine r_callS (As := [.int v1, .int 0, .int 7]) (rest := []) hx hb hml hts hown (c_X12_in l HB D y F n κ σ hN v1 0 7  q_4 hq_4) cal_X12_in st_X12_in lm_X12_260 ⟨Nat.le_of_ble_eq_true rfl, Nat.le_of_ble_eq_true rfl⟩ hI.nil hKK rfl hl.1 hI.2.2 rfl (Nat.le_of_ble_eq_true rfl) dX12_number_4 ⟨Nat.le_of_ble_eq_true rfl, Nat.le_of_ble_eq_true rfl⟩ rfl rfl rfl (fun H locs hB hlo => ?_)
  have hI := hB.re hlo
  refine lv_if_eq (tgt := 31) hx hb dX12_number_7 (by decide) (fun hc => ?_) (fun hc => ?_)
  · replace h := ite_t hc h
    refine lv_iconst (v := 0) hx hb dX12_number_31 (by decide) ?_
    have hq := Option.some.inj h
    exact W.zret (v := 0) (ty := .boolean) hx hb hr rfl (fun t ht hW => qc_mk (congrArg (fun z => Outcome.returned (some (Value.int z.1))) hq) (by rw [ht]; exact ⟨σ, hI.nil, e26.trans (congrArg (fun z => z.2) hq), fr⟩)) hI.2.2 dX12_number_32 hlocks
  · replace h := ite_f hc h
    refine lv_iload_n hx hb dX12_number_10 rfl (lv_at hl 2 rfl) ?_
    refine lv_iload_n hx hb dX12_number_11 rfl (lv_at hl 1 rfl) ?_
    refine lv_iconst (v := 4) hx hb dX12_number_12 (by decide) ?_
    refine lv_icmp_ge (tgt := 20) hx hb dX12_number_13 (by decide) (fun hc => ?_) (fun hc => ?_)
    · replace h := ite_t hc h
      refine lv_iconst (v := 0) hx hb dX12_number_20 (by decide) ?_
      exact b21  σ H locs ls G26 v1 v2 v2 0  hI e26 fr (lv_sub hl [0, 1, 2] rfl) h
    · replace h := ite_f hc h
      refine lv_iconst (v := 1) hx hb dX12_number_16 (by decide) ?_
      refine lv_goto (tgt := 21) hx hb dX12_number_17 (by decide) ?_
      exact b21  σ H locs ls G26 v1 v2 v2 1  hI e26 fr (lv_sub hl [0, 1, 2] rfl) h
noncomputable def f_X12_types_l2b (F : Nat)  (k2 : Grp → Int32 → Int32 → Option (Grp)) (G27 : Grp) (v1 : Int32) (v2 : Int32) : Option (Grp) :=
  if v2 < 0 then some G27 else ck (G27.1 91 20) 240 (bn (gI G27 106 (G27.1 91 20).toNatClampNeg (vp_nar .byte ((v1 >>> ((8 * v2) &&& 31)).toInt8.toInt32))) (fun G27_21 => bn (gI G27_21 91 20 ((G27_21.1 91 20) + 1)) (fun G27_29 => bn (v2 + (-1)) (fun v2_32 => k2 G27_29 v1 v2_32))))
noncomputable def f_X12_types_l2 (F : Nat)  (fu : Nat) : Grp → Int32 → Int32 → Option (Grp) := Nat.rec (motive := fun _ => Grp → Int32 → Int32 → Option (Grp)) (fun _ _ _ => none) (fun _ ih => f_X12_types_l2b F  ih) fu
noncomputable def f_X12_types (F : Nat) (G27 : Grp) (v1 : Int32) : Option (Grp) :=
  f_X12_types_l2 F  F G27 v1 3
def RM_X12_types : Room := { frames := 0, cells := 0, slots := 0, locals := 0 }
abbrev W_X12_types : List Nat := [27]
abbrev B_X12_types (HB : Heap) (D : va_G) (y : Nat → ClassId) (n : Nat) (κ : Nat → Nat) (σ0 : St) (q : Grp) : Heap → Prop := fun H => ∃ σ : St, IV HB D y n n κ σ [] H ∧ σ 27 = q ∧ ∀ j, j ∉ W_X12_types → σ j = σ0 j
set_option maxRecDepth 100000 in
set_option maxHeartbeats 4000000 in
theorem c_X12_types (l : Launch) (HB : Heap) (D : va_G) (y : Nat → ClassId) (F n : Nat) (κ : Nat → Nat) (σ0 : St) (hN : N0 ≤ n) (v1 : Int32)  (G27 : Grp) (e27 : σ0 27 = G27) (q : Grp) (h : f_X12_types F G27 v1 = some q) : MT l HB D y yX12_types cX12_types 3 none RM_X12_types [.ref (HB.size + 91), .int v1] (IV HB D y n n κ σ0 []) none (B_X12_types HB D y n κ σ0 q) := by
  refine Met.ofW (cc := cX12_types) (maxL := 3) (ret := none) (by decide) rfl ?_
  intro p e s m args below meth c s₁ BL hml hv
  obtain ⟨rfl, hI, hKK⟩ := hv
  have hx := BL.exec
  have hb := BL.bytes
  have hr := BL.returns
  have hts : ∀ w ∈ gtb, w.before _ s = true := fun w hw => atoms_spec BL.pre w (List.mem_cons_of_mem _ hw)
  have hml : c.maxLocals = 3 := hml
  have hown : s.vm.findClass RX12 = some m.cls := findClass_of_methodNamed BL.named
  have hlocks := BL.notSynchronized
  have hk0 := hI.1.2.2.2.2
  have hl := lv_entry ([.ref (HB.size + 91), .int v1]) (n := 3) (Nat.le_of_ble_eq_true rfl)
  rw [lg_entry_eq]
  generalize (lg_sl ([.ref (HB.size + 91), .int v1]) ++ List.replicate (3 - (lg_sl ([.ref (HB.size + 91), .int v1])).length) Slot.unset).toArray = ls at hl ⊢
  have hl : lv_has ls 3 [(0, .ref (HB.size + 91)), (1, .int v1)] := hl
  generalize hargs : ([.ref (HB.size + 91), .int v1] : List Value).toArray = args at *
  have b2 : ∀ (fu : Nat) (σ : St) (H : Heap) (locs : List Loc) (ls : Array Slot) (G27 : Grp) (v1 : Int32) (v2 : Int32) , IV HB D y n n κ σ locs H → σ 27 = G27 → (∀ j, j ∉ W_X12_types → σ j = σ0 j) → lv_has ls 3 [(0, .ref (HB.size + 91)), (1, .int v1), (2, .int v2)] → f_X12_types_l2 F  fu G27 v1 v2 = some q → WX RM_X12_types p l e s m args below meth c HB none (B_X12_types HB D y n κ σ0 q) H locs (F0 m 2 ls []) := by
    intro  fu
    induction fu with
    | zero =>
      intro σ H locs ls G27 v1 v2 hI e27 fr hl h
      exact absurd h (by intro h; cases h)
    | succ fu hk2 =>
      intro σ H locs ls G27 v1 v2 hI e27 fr hl h
      have h : f_X12_types_l2b F  (f_X12_types_l2 F  fu) G27 v1 v2 = some q := h
      generalize f_X12_types_l2 F  fu = k2 at h hk2
      unfold f_X12_types_l2b at h
      refine lv_iload_n hx hb dX12_types_2 rfl (lv_at hl 2 rfl) ?_
      refine lv_if_lt (tgt := 38) hx hb dX12_types_3 (by decide) (fun hc => ?_) (fun hc => ?_)
      · replace h := ite_t hc h
        have hq := Option.some.inj h
        exact W.vret hx hb hr (fun t ht hW => qc_mk (rfl) (by rw [ht]; exact ⟨σ, hI.nil, e27.trans (congrArg (fun z => z) hq), fr⟩)) hI.2.2 dX12_types_38 hlocks
      · replace h := ite_f hc h
        refine lv_aload_n hx hb dX12_types_6 rfl (lv_at hl 0 rfl) ?_
        refine gf_X12_52 hx hb hts hown hKK hI hN dX12_types_7 ?_
        refine lv_aload_n hx hb dX12_types_10 rfl (lv_at hl 0 rfl) ?_
        refine gt_X12_311 hx hb hts hown hKK hI e27 (lc91 hN) (kc91 hk0) dX12_types_11 ?_
        refine lv_iload_n hx hb dX12_types_14 rfl (lv_at hl 1 rfl) ?_
        refine lv_bipush (v := 8) hx hb dX12_types_15 (by decide) ?_
        refine lv_iload_n hx hb dX12_types_17 rfl (lv_at hl 2 rfl) ?_
        refine lv_imul hx hb dX12_types_18 ?_
        refine lv_ishr hx hb dX12_types_19 ?_
        refine lv_i2b hx hb dX12_types_20 rfl ?_
        obtain ⟨hin_, h⟩ := ck_e h
        obtain ⟨G27_21, qq, h⟩ := bn_e h
        refine sa_46 hx hb hKK hI e27 (lc106 hN) (kc106 hk0) hin_ dX12_types_21 (fun σ H locs hI ew ho => ?_)
        have e27 := ew.trans qq.symm
        have fr := frs fr ho (by decide)
        refine lv_aload_n hx hb dX12_types_22 rfl (lv_at hl 0 rfl) ?_
        refine lv_aload_n hx hb dX12_types_23 rfl (lv_at hl 0 rfl) ?_
        refine gt_X12_311 hx hb hts hown hKK hI e27 (lc91 hN) (kc91 hk0) dX12_types_24 ?_
        refine lv_iconst (v := 1) hx hb dX12_types_27 (by decide) ?_
        refine lv_iadd hx hb dX12_types_28 ?_
        obtain ⟨G27_29, qq, h⟩ := bn_e h
        refine pt_X12_311 hx hb hts hown hKK hI e27 (lc91 hN) (kc91 hk0) dX12_types_29 (fun σ H locs hI ew ho => ?_)
        have e27 := ew.trans qq.symm
        have fr := frs fr ho (by decide)
        obtain ⟨v2_32, qq, h⟩ := bn_e h
        refine lv_iinc (v := v2_32) (lv' := [(2, .int v2_32), (0, .ref (HB.size + 91)), (1, .int v1)]) hx hb dX12_types_32 hl (k := 2) rfl (by rw [qq]; rfl) (by decide) rfl (fun ls hl => ?_)
        refine lv_goto (tgt := 2) hx hb dX12_types_35 (by decide) ?_
        exact hk2 σ H locs ls G27_29 v1 v2_32  hI e27 fr (lv_sub hl [1, 2, 0] rfl) h
  obtain ⟨σ, hI, e27, fr⟩ : ∃ σ : St, IV HB D y n n κ σ [] s.heap ∧ σ 27 = G27 ∧ ∀ j, j ∉ W_X12_types → σ j = σ0 j := ⟨σ0, hI, e27, fun _ _ => rfl⟩
  show WX RM_X12_types p l e s m args below meth c HB none (B_X12_types HB D y n κ σ0 q) s.heap [] (F0 m 0 ls [])
  generalize s.heap = H at hI ⊢
  unfold f_X12_types at h
  obtain ⟨locs, hlocs⟩ : ∃ x : List Loc, x = [] := ⟨_, rfl⟩
  rw [← hlocs] at hI ⊢
  refine lv_iconst (v := 3) hx hb dX12_types_0 (by decide) ?_
  refine lv_istore_n (lv' := [(2, .int 3), (0, .ref (HB.size + 91)), (1, .int v1)]) hx hb dX12_types_1 rfl hl (by decide) rfl (fun ls hl => ?_)
  exact b2  F σ H locs ls G27 v1 3  hI e27 fr (lv_sub hl [1, 2, 0] rfl) h
noncomputable def f_X12_feed (F : Nat) (G27 : Grp) (v1 : Int32) (v2 : Int32) (v3 : Int32) (v4 : Int32) (v5 : Int32) : Option (Int32 × Grp) :=
  if ((G27.1 91 20) + 20) ≤ 240 then ob (f_X12_types F G27 v1) (fun q_17 => ob (f_X12_types F q_17 v2) (fun q_22 => ob (f_X12_types F q_22 v3) (fun q_27 => ob (f_X12_types F q_27 v4) (fun q_33 => ob (f_X12_types F q_33 v5) (fun q_39 => some ((q_39.1 91 20), q_39)))))) else some ((-1), G27)
def RM_X12_feed : Room := { frames := 1, cells := 0, slots := 0, locals := 22 }
abbrev W_X12_feed : List Nat := [27]
abbrev B_X12_feed (HB : Heap) (D : va_G) (y : Nat → ClassId) (n : Nat) (κ : Nat → Nat) (σ0 : St) (q : Int32 × Grp) : Heap → Prop := fun H => ∃ σ : St, IV HB D y n n κ σ [] H ∧ σ 27 = q.2 ∧ ∀ j, j ∉ W_X12_feed → σ j = σ0 j
set_option maxRecDepth 100000 in
set_option maxHeartbeats 4000000 in
theorem c_X12_feed (l : Launch) (HB : Heap) (D : va_G) (y : Nat → ClassId) (F n : Nat) (κ : Nat → Nat) (σ0 : St) (hN : N0 ≤ n) (v1 : Int32)  (v2 : Int32)  (v3 : Int32)  (v4 : Int32)  (v5 : Int32)  (G27 : Grp) (e27 : σ0 27 = G27) (q : Int32 × Grp) (h : f_X12_feed F G27 v1 v2 v3 v4 v5 = some q) : MT l HB D y yX12_feed cX12_feed 6 (some .int) RM_X12_feed [.ref (HB.size + 91), .int v1, .int v2, .int v3, .int v4, .int v5] (IV HB D y n n κ σ0 []) (some (.int q.1)) (B_X12_feed HB D y n κ σ0 q) := by
  refine Met.ofW (cc := cX12_feed) (maxL := 6) (ret := (some .int)) (by decide) rfl ?_
  intro p e s m args below meth c s₁ BL hml hv
  obtain ⟨rfl, hI, hKK⟩ := hv
  have hx := BL.exec
  have hb := BL.bytes
  have hr := BL.returns
  have hts : ∀ w ∈ gtb, w.before _ s = true := fun w hw => atoms_spec BL.pre w (List.mem_cons_of_mem _ hw)
  have hml : c.maxLocals = 6 := hml
  have hown : s.vm.findClass RX12 = some m.cls := findClass_of_methodNamed BL.named
  have hlocks := BL.notSynchronized
  have hk0 := hI.1.2.2.2.2
  have hl := lv_entry ([.ref (HB.size + 91), .int v1, .int v2, .int v3, .int v4, .int v5]) (n := 6) (Nat.le_of_ble_eq_true rfl)
  rw [lg_entry_eq]
  generalize (lg_sl ([.ref (HB.size + 91), .int v1, .int v2, .int v3, .int v4, .int v5]) ++ List.replicate (6 - (lg_sl ([.ref (HB.size + 91), .int v1, .int v2, .int v3, .int v4, .int v5])).length) Slot.unset).toArray = ls at hl ⊢
  have hl : lv_has ls 6 [(0, .ref (HB.size + 91)), (1, .int v1), (2, .int v2), (3, .int v3), (4, .int v4), (5, .int v5)] := hl
  generalize hargs : ([.ref (HB.size + 91), .int v1, .int v2, .int v3, .int v4, .int v5] : List Value).toArray = args at *
  obtain ⟨σ, hI, e27, fr⟩ : ∃ σ : St, IV HB D y n n κ σ [] s.heap ∧ σ 27 = G27 ∧ ∀ j, j ∉ W_X12_feed → σ j = σ0 j := ⟨σ0, hI, e27, fun _ _ => rfl⟩
  show WX RM_X12_feed p l e s m args below meth c HB (some (.int q.1)) (B_X12_feed HB D y n κ σ0 q) s.heap [] (F0 m 0 ls [])
  generalize s.heap = H at hI ⊢
  unfold f_X12_feed at h
  obtain ⟨locs, hlocs⟩ : ∃ x : List Loc, x = [] := ⟨_, rfl⟩
  rw [← hlocs] at hI ⊢
  refine lv_aload_n hx hb dX12_feed_0 rfl (lv_at hl 0 rfl) ?_
  refine gt_X12_311 hx hb hts hown hKK hI e27 (lc91 hN) (kc91 hk0) dX12_feed_1 ?_
  refine lv_bipush (v := 20) hx hb dX12_feed_4 (by decide) ?_
  refine lv_iadd hx hb dX12_feed_6 ?_
  refine lv_sipush (v := 240) hx hb dX12_feed_7 (by decide) ?_
  refine lv_icmp_le (tgt := 15) hx hb dX12_feed_10 (by decide) (fun hc => ?_) (fun hc => ?_)
  · replace h := ite_t hc h
    refine lv_aload_n hx hb dX12_feed_15 rfl (lv_at hl 0 rfl) ?_
    refine lv_iload_n hx hb dX12_feed_16 rfl (lv_at hl 1 rfl) ?_
    obtain ⟨q_17, hq_17, h⟩ := ob_e h
    refine r_callV (As := [.int v1]) (rest := []) hx hb hml hts hown (c_X12_types l HB D y F n κ σ hN v1 G27 e27 q_17 hq_17) cal_X12_types im_X12_types se_X12_types lm_X12_314 ⟨Nat.le_of_ble_eq_true rfl, Nat.le_of_ble_eq_true rfl⟩ hI.nil hKK (r_recv hKK hI (hE12 HB.size y) rfl (lc91 hN) (kc91 hk0)) rfl hl.1 hI.2.2 rfl (Nat.le_of_ble_eq_true rfl) dX12_feed_17 ⟨Nat.le_of_ble_eq_true rfl, Nat.le_of_ble_eq_true rfl⟩ rfl rfl rfl (fun H locs hB hlo => ?_)
    obtain ⟨σ, hB, en27, ho⟩ := hB
    have hI := hB.re hlo
    have e27 := en27
    have fr := frc fr ho (by decide)
    refine lv_aload_n hx hb dX12_feed_20 rfl (lv_at hl 0 rfl) ?_
    refine lv_iload_n hx hb dX12_feed_21 rfl (lv_at hl 2 rfl) ?_
    obtain ⟨q_22, hq_22, h⟩ := ob_e h
    refine r_callV (As := [.int v2]) (rest := []) hx hb hml hts hown (c_X12_types l HB D y F n κ σ hN v2 q_17 e27 q_22 hq_22) cal_X12_types im_X12_types se_X12_types lm_X12_314 ⟨Nat.le_of_ble_eq_true rfl, Nat.le_of_ble_eq_true rfl⟩ hI.nil hKK (r_recv hKK hI (hE12 HB.size y) rfl (lc91 hN) (kc91 hk0)) rfl hl.1 hI.2.2 rfl (Nat.le_of_ble_eq_true rfl) dX12_feed_22 ⟨Nat.le_of_ble_eq_true rfl, Nat.le_of_ble_eq_true rfl⟩ rfl rfl rfl (fun H locs hB hlo => ?_)
    obtain ⟨σ, hB, en27, ho⟩ := hB
    have hI := hB.re hlo
    have e27 := en27
    have fr := frc fr ho (by decide)
    refine lv_aload_n hx hb dX12_feed_25 rfl (lv_at hl 0 rfl) ?_
    refine lv_iload_n hx hb dX12_feed_26 rfl (lv_at hl 3 rfl) ?_
    obtain ⟨q_27, hq_27, h⟩ := ob_e h
    refine r_callV (As := [.int v3]) (rest := []) hx hb hml hts hown (c_X12_types l HB D y F n κ σ hN v3 q_22 e27 q_27 hq_27) cal_X12_types im_X12_types se_X12_types lm_X12_314 ⟨Nat.le_of_ble_eq_true rfl, Nat.le_of_ble_eq_true rfl⟩ hI.nil hKK (r_recv hKK hI (hE12 HB.size y) rfl (lc91 hN) (kc91 hk0)) rfl hl.1 hI.2.2 rfl (Nat.le_of_ble_eq_true rfl) dX12_feed_27 ⟨Nat.le_of_ble_eq_true rfl, Nat.le_of_ble_eq_true rfl⟩ rfl rfl rfl (fun H locs hB hlo => ?_)
    obtain ⟨σ, hB, en27, ho⟩ := hB
    have hI := hB.re hlo
    have e27 := en27
    have fr := frc fr ho (by decide)
    refine lv_aload_n hx hb dX12_feed_30 rfl (lv_at hl 0 rfl) ?_
    refine lv_iload hx hb dX12_feed_31 (lv_at hl 4 rfl) ?_
    obtain ⟨q_33, hq_33, h⟩ := ob_e h
    refine r_callV (As := [.int v4]) (rest := []) hx hb hml hts hown (c_X12_types l HB D y F n κ σ hN v4 q_27 e27 q_33 hq_33) cal_X12_types im_X12_types se_X12_types lm_X12_314 ⟨Nat.le_of_ble_eq_true rfl, Nat.le_of_ble_eq_true rfl⟩ hI.nil hKK (r_recv hKK hI (hE12 HB.size y) rfl (lc91 hN) (kc91 hk0)) rfl hl.1 hI.2.2 rfl (Nat.le_of_ble_eq_true rfl) dX12_feed_33 ⟨Nat.le_of_ble_eq_true rfl, Nat.le_of_ble_eq_true rfl⟩ rfl rfl rfl (fun H locs hB hlo => ?_)
    obtain ⟨σ, hB, en27, ho⟩ := hB
    have hI := hB.re hlo
    have e27 := en27
    have fr := frc fr ho (by decide)
    refine lv_aload_n hx hb dX12_feed_36 rfl (lv_at hl 0 rfl) ?_
    refine lv_iload hx hb dX12_feed_37 (lv_at hl 5 rfl) ?_
    obtain ⟨q_39, hq_39, h⟩ := ob_e h
    refine r_callV (As := [.int v5]) (rest := []) hx hb hml hts hown (c_X12_types l HB D y F n κ σ hN v5 q_33 e27 q_39 hq_39) cal_X12_types im_X12_types se_X12_types lm_X12_314 ⟨Nat.le_of_ble_eq_true rfl, Nat.le_of_ble_eq_true rfl⟩ hI.nil hKK (r_recv hKK hI (hE12 HB.size y) rfl (lc91 hN) (kc91 hk0)) rfl hl.1 hI.2.2 rfl (Nat.le_of_ble_eq_true rfl) dX12_feed_39 ⟨Nat.le_of_ble_eq_true rfl, Nat.le_of_ble_eq_true rfl⟩ rfl rfl rfl (fun H locs hB hlo => ?_)
    obtain ⟨σ, hB, en27, ho⟩ := hB
    have hI := hB.re hlo
    have e27 := en27
    have fr := frc fr ho (by decide)
    refine lv_aload_n hx hb dX12_feed_42 rfl (lv_at hl 0 rfl) ?_
    refine gt_X12_311 hx hb hts hown hKK hI e27 (lc91 hN) (kc91 hk0) dX12_feed_43 ?_
    have hq := Option.some.inj h
    exact W.iret (v := (q_39.1 91 20)) hx hb hr (fun t ht hW => qc_mk (congrArg (fun z => Outcome.returned (some (Value.int z.1))) hq) (by rw [ht]; exact ⟨σ, hI.nil, e27.trans (congrArg (fun z => z.2) hq), fr⟩)) hI.2.2 dX12_feed_46 hlocks
  · replace h := ite_f hc h
    refine lv_iconst (v := (-1)) hx hb dX12_feed_13 (by decide) ?_
    have hq := Option.some.inj h
    exact W.iret (v := (-1)) hx hb hr (fun t ht hW => qc_mk (congrArg (fun z => Outcome.returned (some (Value.int z.1))) hq) (by rw [ht]; exact ⟨σ, hI.nil, e27.trans (congrArg (fun z => z.2) hq), fr⟩)) hI.2.2 dX12_feed_14 hlocks
noncomputable def f_X12_sign (F : Nat) (G27 : Grp) (G28 : Grp)  : Option (Int32) :=
  if (G28.1 91 22) ≤ (G28.1 91 21) then some 0 else ck (G28.1 91 21) 240 (some ((G27.1 106 (G28.1 91 21).toNatClampNeg) &&& 255))
def RM_X12_sign : Room := { frames := 0, cells := 0, slots := 0, locals := 0 }
abbrev B_X12_sign (HB : Heap) (D : va_G) (y : Nat → ClassId) (n : Nat) (κ : Nat → Nat) (σ : St) (q : Int32) : Heap → Prop := fun H => IV HB D y n n κ σ [] H
set_option maxRecDepth 100000 in
set_option maxHeartbeats 4000000 in
theorem c_X12_sign (l : Launch) (HB : Heap) (D : va_G) (y : Nat → ClassId) (F n : Nat) (κ : Nat → Nat) (σ : St) (hN : N0 ≤ n)  (G27 : Grp) (e27 : σ 27 = G27) (G28 : Grp) (e28 : σ 28 = G28) (q : Int32) (h : f_X12_sign F G27 G28 = some q) : MT l HB D y yX12_sign cX12_sign 1 (some .int) RM_X12_sign [.ref (HB.size + 91)] (IV HB D y n n κ σ []) (some (.int q)) (B_X12_sign HB D y n κ σ q) := by
  refine Met.ofW (cc := cX12_sign) (maxL := 1) (ret := (some .int)) (by decide) rfl ?_
  intro p e s m args below meth c s₁ BL hml hv
  obtain ⟨rfl, hI, hKK⟩ := hv
  have hx := BL.exec
  have hb := BL.bytes
  have hr := BL.returns
  have hts : ∀ w ∈ gtb, w.before _ s = true := fun w hw => atoms_spec BL.pre w (List.mem_cons_of_mem _ hw)
  have hml : c.maxLocals = 1 := hml
  have hown : s.vm.findClass RX12 = some m.cls := findClass_of_methodNamed BL.named
  have hlocks := BL.notSynchronized
  have hk0 := hI.1.2.2.2.2
  have hl := lv_entry ([.ref (HB.size + 91)]) (n := 1) (Nat.le_of_ble_eq_true rfl)
  rw [lg_entry_eq]
  generalize (lg_sl ([.ref (HB.size + 91)]) ++ List.replicate (1 - (lg_sl ([.ref (HB.size + 91)])).length) Slot.unset).toArray = ls at hl ⊢
  have hl : lv_has ls 1 [(0, .ref (HB.size + 91))] := hl
  generalize hargs : ([.ref (HB.size + 91)] : List Value).toArray = args at *
  show WX RM_X12_sign p l e s m args below meth c HB (some (.int q)) (B_X12_sign HB D y n κ σ q) s.heap [] (F0 m 0 ls [])
  generalize s.heap = H at hI ⊢
  unfold f_X12_sign at h
  obtain ⟨locs, hlocs⟩ : ∃ x : List Loc, x = [] := ⟨_, rfl⟩
  rw [← hlocs] at hI ⊢
  refine lv_aload_n hx hb dX12_sign_0 rfl (lv_at hl 0 rfl) ?_
  refine gt_X12_318 hx hb hts hown hKK hI e28 (lc91 hN) (kc91 hk0) dX12_sign_1 ?_
  refine lv_aload_n hx hb dX12_sign_4 rfl (lv_at hl 0 rfl) ?_
  refine gt_X12_321 hx hb hts hown hKK hI e28 (lc91 hN) (kc91 hk0) dX12_sign_5 ?_
  refine lv_icmp_ge (tgt := 27) hx hb dX12_sign_8 (by decide) (fun hc => ?_) (fun hc => ?_)
  · replace h := ite_t hc h
    refine lv_iconst (v := 0) hx hb dX12_sign_27 (by decide) ?_
    have hq := Option.some.inj h
    exact W.iret (v := 0) hx hb hr (fun t ht hW => qc_mk (congrArg (fun z => Outcome.returned (some (Value.int z))) hq) (by rw [ht]; exact hI.nil)) hI.2.2 dX12_sign_28 hlocks
  · replace h := ite_f hc h
    refine lv_aload_n hx hb dX12_sign_11 rfl (lv_at hl 0 rfl) ?_
    refine gf_X12_52 hx hb hts hown hKK hI hN dX12_sign_12 ?_
    refine lv_aload_n hx hb dX12_sign_15 rfl (lv_at hl 0 rfl) ?_
    refine gt_X12_318 hx hb hts hown hKK hI e28 (lc91 hN) (kc91 hk0) dX12_sign_16 ?_
    obtain ⟨hin_, h⟩ := ck_e h
    refine la_46 hx hb hKK hI e27 (lc106 hN) (kc106 hk0) hin_ dX12_sign_19 ?_
    refine lv_sipush (v := 255) hx hb dX12_sign_20 (by decide) ?_
    refine lv_iand hx hb dX12_sign_23 ?_
    refine lv_goto (tgt := 28) hx hb dX12_sign_24 (by decide) ?_
    have hq := Option.some.inj h
    exact W.iret (v := ((G27.1 106 (G28.1 91 21).toNatClampNeg) &&& 255)) hx hb hr (fun t ht hW => qc_mk (congrArg (fun z => Outcome.returned (some (Value.int z))) hq) (by rw [ht]; exact hI.nil)) hI.2.2 dX12_sign_28 hlocks
noncomputable def f_X12_wrong (F : Nat) (G28 : Grp) (v1 : Int32) : Option (Int32 × Grp) :=
  bn (gI G28 91 23 ((1000 * v1) + (G28.1 91 21))) (fun G28_11 => some (0, G28_11))
def RM_X12_wrong : Room := { frames := 0, cells := 0, slots := 0, locals := 0 }
abbrev W_X12_wrong : List Nat := [28]
abbrev B_X12_wrong (HB : Heap) (D : va_G) (y : Nat → ClassId) (n : Nat) (κ : Nat → Nat) (σ0 : St) (q : Int32 × Grp) : Heap → Prop := fun H => ∃ σ : St, IV HB D y n n κ σ [] H ∧ σ 28 = q.2 ∧ ∀ j, j ∉ W_X12_wrong → σ j = σ0 j
set_option maxRecDepth 100000 in
set_option maxHeartbeats 4000000 in
theorem c_X12_wrong (l : Launch) (HB : Heap) (D : va_G) (y : Nat → ClassId) (F n : Nat) (κ : Nat → Nat) (σ0 : St) (hN : N0 ≤ n) (v1 : Int32)  (G28 : Grp) (e28 : σ0 28 = G28) (q : Int32 × Grp) (h : f_X12_wrong F G28 v1 = some q) : MT l HB D y yX12_wrong cX12_wrong 2 (some .boolean) RM_X12_wrong [.ref (HB.size + 91), .int v1] (IV HB D y n n κ σ0 []) (some (.int q.1)) (B_X12_wrong HB D y n κ σ0 q) := by
  refine Met.ofW (cc := cX12_wrong) (maxL := 2) (ret := (some .boolean)) (by decide) rfl ?_
  intro p e s m args below meth c s₁ BL hml hv
  obtain ⟨rfl, hI, hKK⟩ := hv
  have hx := BL.exec
  have hb := BL.bytes
  have hr := BL.returns
  have hts : ∀ w ∈ gtb, w.before _ s = true := fun w hw => atoms_spec BL.pre w (List.mem_cons_of_mem _ hw)
  have hml : c.maxLocals = 2 := hml
  have hown : s.vm.findClass RX12 = some m.cls := findClass_of_methodNamed BL.named
  have hlocks := BL.notSynchronized
  have hk0 := hI.1.2.2.2.2
  have hl := lv_entry ([.ref (HB.size + 91), .int v1]) (n := 2) (Nat.le_of_ble_eq_true rfl)
  rw [lg_entry_eq]
  generalize (lg_sl ([.ref (HB.size + 91), .int v1]) ++ List.replicate (2 - (lg_sl ([.ref (HB.size + 91), .int v1])).length) Slot.unset).toArray = ls at hl ⊢
  have hl : lv_has ls 2 [(0, .ref (HB.size + 91)), (1, .int v1)] := hl
  generalize hargs : ([.ref (HB.size + 91), .int v1] : List Value).toArray = args at *
  obtain ⟨σ, hI, e28, fr⟩ : ∃ σ : St, IV HB D y n n κ σ [] s.heap ∧ σ 28 = G28 ∧ ∀ j, j ∉ W_X12_wrong → σ j = σ0 j := ⟨σ0, hI, e28, fun _ _ => rfl⟩
  show WX RM_X12_wrong p l e s m args below meth c HB (some (.int q.1)) (B_X12_wrong HB D y n κ σ0 q) s.heap [] (F0 m 0 ls [])
  generalize s.heap = H at hI ⊢
  unfold f_X12_wrong at h
  obtain ⟨locs, hlocs⟩ : ∃ x : List Loc, x = [] := ⟨_, rfl⟩
  rw [← hlocs] at hI ⊢
  refine lv_aload_n hx hb dX12_wrong_0 rfl (lv_at hl 0 rfl) ?_
  refine lv_sipush (v := 1000) hx hb dX12_wrong_1 (by decide) ?_
  refine lv_iload_n hx hb dX12_wrong_4 rfl (lv_at hl 1 rfl) ?_
  refine lv_imul hx hb dX12_wrong_5 ?_
  refine lv_aload_n hx hb dX12_wrong_6 rfl (lv_at hl 0 rfl) ?_
  refine gt_X12_318 hx hb hts hown hKK hI e28 (lc91 hN) (kc91 hk0) dX12_wrong_7 ?_
  refine lv_iadd hx hb dX12_wrong_10 ?_
  obtain ⟨G28_11, qq, h⟩ := bn_e h
  refine pt_X12_324 hx hb hts hown hKK hI e28 (lc91 hN) (kc91 hk0) dX12_wrong_11 (fun σ H locs hI ew ho => ?_)
  have e28 := ew.trans qq.symm
  have fr := frs fr ho (by decide)
  refine lv_iconst (v := 0) hx hb dX12_wrong_14 (by decide) ?_
  have hq := Option.some.inj h
  exact W.zret (v := 0) (ty := .boolean) hx hb hr rfl (fun t ht hW => qc_mk (congrArg (fun z => Outcome.returned (some (Value.int z.1))) hq) (by rw [ht]; exact ⟨σ, hI.nil, e28.trans (congrArg (fun z => z.2) hq), fr⟩)) hI.2.2 dX12_wrong_15 hlocks
noncomputable def f_X12_part (F : Nat) (G28 : Grp) (v1 : Int32) (v2 : Int32) (v3 : Int32) (v4 : Int32) : Option (Int32 × Grp) :=
  ck (G28.1 91 39) 420 (bn (gI G28 111 (G28.1 91 39).toNatClampNeg v1) (fun G28_9 => ck (G28_9.1 91 39) 420 (bn (gI G28_9 112 (G28_9.1 91 39).toNatClampNeg v2) (fun G28_19 => ck (G28_19.1 91 39) 420 (bn (gI G28_19 113 (G28_19.1 91 39).toNatClampNeg v3) (fun G28_29 => ck (G28_29.1 91 39) 420 (bn (gI G28_29 114 (G28_29.1 91 39).toNatClampNeg v4) (fun G28_40 => bn (gI G28_40 91 39 ((G28_40.1 91 39) + 1)) (fun G28_48 => some (((G28_48.1 91 39) - 1), G28_48))))))))))
def RM_X12_part : Room := { frames := 0, cells := 0, slots := 0, locals := 0 }
abbrev W_X12_part : List Nat := [28]
abbrev B_X12_part (HB : Heap) (D : va_G) (y : Nat → ClassId) (n : Nat) (κ : Nat → Nat) (σ0 : St) (q : Int32 × Grp) : Heap → Prop := fun H => ∃ σ : St, IV HB D y n n κ σ [] H ∧ σ 28 = q.2 ∧ ∀ j, j ∉ W_X12_part → σ j = σ0 j
set_option maxRecDepth 100000 in
set_option maxHeartbeats 4000000 in
theorem c_X12_part (l : Launch) (HB : Heap) (D : va_G) (y : Nat → ClassId) (F n : Nat) (κ : Nat → Nat) (σ0 : St) (hN : N0 ≤ n) (v1 : Int32)  (v2 : Int32)  (v3 : Int32)  (v4 : Int32)  (G28 : Grp) (e28 : σ0 28 = G28) (q : Int32 × Grp) (h : f_X12_part F G28 v1 v2 v3 v4 = some q) : MT l HB D y yX12_part cX12_part 5 (some .int) RM_X12_part [.ref (HB.size + 91), .int v1, .int v2, .int v3, .int v4] (IV HB D y n n κ σ0 []) (some (.int q.1)) (B_X12_part HB D y n κ σ0 q) := by
  refine Met.ofW (cc := cX12_part) (maxL := 5) (ret := (some .int)) (by decide) rfl ?_
  intro p e s m args below meth c s₁ BL hml hv
  obtain ⟨rfl, hI, hKK⟩ := hv
  have hx := BL.exec
  have hb := BL.bytes
  have hr := BL.returns
  have hts : ∀ w ∈ gtb, w.before _ s = true := fun w hw => atoms_spec BL.pre w (List.mem_cons_of_mem _ hw)
  have hml : c.maxLocals = 5 := hml
  have hown : s.vm.findClass RX12 = some m.cls := findClass_of_methodNamed BL.named
  have hlocks := BL.notSynchronized
  have hk0 := hI.1.2.2.2.2
  have hl := lv_entry ([.ref (HB.size + 91), .int v1, .int v2, .int v3, .int v4]) (n := 5) (Nat.le_of_ble_eq_true rfl)
  rw [lg_entry_eq]
  generalize (lg_sl ([.ref (HB.size + 91), .int v1, .int v2, .int v3, .int v4]) ++ List.replicate (5 - (lg_sl ([.ref (HB.size + 91), .int v1, .int v2, .int v3, .int v4])).length) Slot.unset).toArray = ls at hl ⊢
  have hl : lv_has ls 5 [(0, .ref (HB.size + 91)), (1, .int v1), (2, .int v2), (3, .int v3), (4, .int v4)] := hl
  generalize hargs : ([.ref (HB.size + 91), .int v1, .int v2, .int v3, .int v4] : List Value).toArray = args at *
  obtain ⟨σ, hI, e28, fr⟩ : ∃ σ : St, IV HB D y n n κ σ [] s.heap ∧ σ 28 = G28 ∧ ∀ j, j ∉ W_X12_part → σ j = σ0 j := ⟨σ0, hI, e28, fun _ _ => rfl⟩
  show WX RM_X12_part p l e s m args below meth c HB (some (.int q.1)) (B_X12_part HB D y n κ σ0 q) s.heap [] (F0 m 0 ls [])
  generalize s.heap = H at hI ⊢
  unfold f_X12_part at h
  obtain ⟨locs, hlocs⟩ : ∃ x : List Loc, x = [] := ⟨_, rfl⟩
  rw [← hlocs] at hI ⊢
  refine lv_aload_n hx hb dX12_part_0 rfl (lv_at hl 0 rfl) ?_
  refine gf_X12_68 hx hb hts hown hKK hI hN dX12_part_1 ?_
  refine lv_aload_n hx hb dX12_part_4 rfl (lv_at hl 0 rfl) ?_
  refine gt_X12_327 hx hb hts hown hKK hI e28 (lc91 hN) (kc91 hk0) dX12_part_5 ?_
  refine lv_iload_n hx hb dX12_part_8 rfl (lv_at hl 1 rfl) ?_
  obtain ⟨hin_, h⟩ := ck_e h
  obtain ⟨G28_9, qq, h⟩ := bn_e h
  refine sa_48 hx hb hKK hI e28 (lc111 hN) (kc111 hk0) hin_ dX12_part_9 (fun σ H locs hI ew ho => ?_)
  have e28 := ew.trans qq.symm
  have fr := frs fr ho (by decide)
  refine lv_aload_n hx hb dX12_part_10 rfl (lv_at hl 0 rfl) ?_
  refine gf_X12_71 hx hb hts hown hKK hI hN dX12_part_11 ?_
  refine lv_aload_n hx hb dX12_part_14 rfl (lv_at hl 0 rfl) ?_
  refine gt_X12_327 hx hb hts hown hKK hI e28 (lc91 hN) (kc91 hk0) dX12_part_15 ?_
  refine lv_iload_n hx hb dX12_part_18 rfl (lv_at hl 2 rfl) ?_
  obtain ⟨hin_, h⟩ := ck_e h
  obtain ⟨G28_19, qq, h⟩ := bn_e h
  refine sa_48 hx hb hKK hI e28 (lc112 hN) (kc112 hk0) hin_ dX12_part_19 (fun σ H locs hI ew ho => ?_)
  have e28 := ew.trans qq.symm
  have fr := frs fr ho (by decide)
  refine lv_aload_n hx hb dX12_part_20 rfl (lv_at hl 0 rfl) ?_
  refine gf_X12_74 hx hb hts hown hKK hI hN dX12_part_21 ?_
  refine lv_aload_n hx hb dX12_part_24 rfl (lv_at hl 0 rfl) ?_
  refine gt_X12_327 hx hb hts hown hKK hI e28 (lc91 hN) (kc91 hk0) dX12_part_25 ?_
  refine lv_iload_n hx hb dX12_part_28 rfl (lv_at hl 3 rfl) ?_
  obtain ⟨hin_, h⟩ := ck_e h
  obtain ⟨G28_29, qq, h⟩ := bn_e h
  refine sa_48 hx hb hKK hI e28 (lc113 hN) (kc113 hk0) hin_ dX12_part_29 (fun σ H locs hI ew ho => ?_)
  have e28 := ew.trans qq.symm
  have fr := frs fr ho (by decide)
  refine lv_aload_n hx hb dX12_part_30 rfl (lv_at hl 0 rfl) ?_
  refine gf_X12_77 hx hb hts hown hKK hI hN dX12_part_31 ?_
  refine lv_aload_n hx hb dX12_part_34 rfl (lv_at hl 0 rfl) ?_
  refine gt_X12_327 hx hb hts hown hKK hI e28 (lc91 hN) (kc91 hk0) dX12_part_35 ?_
  refine lv_iload hx hb dX12_part_38 (lv_at hl 4 rfl) ?_
  obtain ⟨hin_, h⟩ := ck_e h
  obtain ⟨G28_40, qq, h⟩ := bn_e h
  refine sa_48 hx hb hKK hI e28 (lc114 hN) (kc114 hk0) hin_ dX12_part_40 (fun σ H locs hI ew ho => ?_)
  have e28 := ew.trans qq.symm
  have fr := frs fr ho (by decide)
  refine lv_aload_n hx hb dX12_part_41 rfl (lv_at hl 0 rfl) ?_
  refine lv_aload_n hx hb dX12_part_42 rfl (lv_at hl 0 rfl) ?_
  refine gt_X12_327 hx hb hts hown hKK hI e28 (lc91 hN) (kc91 hk0) dX12_part_43 ?_
  refine lv_iconst (v := 1) hx hb dX12_part_46 (by decide) ?_
  refine lv_iadd hx hb dX12_part_47 ?_
  obtain ⟨G28_48, qq, h⟩ := bn_e h
  refine pt_X12_327 hx hb hts hown hKK hI e28 (lc91 hN) (kc91 hk0) dX12_part_48 (fun σ H locs hI ew ho => ?_)
  have e28 := ew.trans qq.symm
  have fr := frs fr ho (by decide)
  refine lv_aload_n hx hb dX12_part_51 rfl (lv_at hl 0 rfl) ?_
  refine gt_X12_327 hx hb hts hown hKK hI e28 (lc91 hN) (kc91 hk0) dX12_part_52 ?_
  refine lv_iconst (v := 1) hx hb dX12_part_55 (by decide) ?_
  refine lv_isub hx hb dX12_part_56 ?_
  have hq := Option.some.inj h
  exact W.iret (v := ((G28_48.1 91 39) - 1)) hx hb hr (fun t ht hW => qc_mk (congrArg (fun z => Outcome.returned (some (Value.int z.1))) hq) (by rw [ht]; exact ⟨σ, hI.nil, e28.trans (congrArg (fun z => z.2) hq), fr⟩)) hI.2.2 dX12_part_57 hlocks
noncomputable def f_X12_pushes (F : Nat) (G28 : Grp) (v1 : Int32) : Option (Grp) :=
  ck (G28.1 91 41) 220 (bn (gI G28 119 (G28.1 91 41).toNatClampNeg v1) (fun G28_9 => bn (gI G28_9 91 41 ((G28_9.1 91 41) + 1)) (fun G28_17 => some G28_17)))
def RM_X12_pushes : Room := { frames := 0, cells := 0, slots := 0, locals := 0 }
abbrev W_X12_pushes : List Nat := [28]
abbrev B_X12_pushes (HB : Heap) (D : va_G) (y : Nat → ClassId) (n : Nat) (κ : Nat → Nat) (σ0 : St) (q : Grp) : Heap → Prop := fun H => ∃ σ : St, IV HB D y n n κ σ [] H ∧ σ 28 = q ∧ ∀ j, j ∉ W_X12_pushes → σ j = σ0 j
set_option maxRecDepth 100000 in
set_option maxHeartbeats 4000000 in
theorem c_X12_pushes (l : Launch) (HB : Heap) (D : va_G) (y : Nat → ClassId) (F n : Nat) (κ : Nat → Nat) (σ0 : St) (hN : N0 ≤ n) (v1 : Int32)  (G28 : Grp) (e28 : σ0 28 = G28) (q : Grp) (h : f_X12_pushes F G28 v1 = some q) : MT l HB D y yX12_pushes cX12_pushes 2 none RM_X12_pushes [.ref (HB.size + 91), .int v1] (IV HB D y n n κ σ0 []) none (B_X12_pushes HB D y n κ σ0 q) := by
  refine Met.ofW (cc := cX12_pushes) (maxL := 2) (ret := none) (by decide) rfl ?_
  intro p e s m args below meth c s₁ BL hml hv
  obtain ⟨rfl, hI, hKK⟩ := hv
  have hx := BL.exec
  have hb := BL.bytes
  have hr := BL.returns
  have hts : ∀ w ∈ gtb, w.before _ s = true := fun w hw => atoms_spec BL.pre w (List.mem_cons_of_mem _ hw)
  have hml : c.maxLocals = 2 := hml
  have hown : s.vm.findClass RX12 = some m.cls := findClass_of_methodNamed BL.named
  have hlocks := BL.notSynchronized
  have hk0 := hI.1.2.2.2.2
  have hl := lv_entry ([.ref (HB.size + 91), .int v1]) (n := 2) (Nat.le_of_ble_eq_true rfl)
  rw [lg_entry_eq]
  generalize (lg_sl ([.ref (HB.size + 91), .int v1]) ++ List.replicate (2 - (lg_sl ([.ref (HB.size + 91), .int v1])).length) Slot.unset).toArray = ls at hl ⊢
  have hl : lv_has ls 2 [(0, .ref (HB.size + 91)), (1, .int v1)] := hl
  generalize hargs : ([.ref (HB.size + 91), .int v1] : List Value).toArray = args at *
  obtain ⟨σ, hI, e28, fr⟩ : ∃ σ : St, IV HB D y n n κ σ [] s.heap ∧ σ 28 = G28 ∧ ∀ j, j ∉ W_X12_pushes → σ j = σ0 j := ⟨σ0, hI, e28, fun _ _ => rfl⟩
  show WX RM_X12_pushes p l e s m args below meth c HB none (B_X12_pushes HB D y n κ σ0 q) s.heap [] (F0 m 0 ls [])
  generalize s.heap = H at hI ⊢
  unfold f_X12_pushes at h
  obtain ⟨locs, hlocs⟩ : ∃ x : List Loc, x = [] := ⟨_, rfl⟩
  rw [← hlocs] at hI ⊢
  refine lv_aload_n hx hb dX12_pushes_0 rfl (lv_at hl 0 rfl) ?_
  refine gf_X12_92 hx hb hts hown hKK hI hN dX12_pushes_1 ?_
  refine lv_aload_n hx hb dX12_pushes_4 rfl (lv_at hl 0 rfl) ?_
  refine gt_X12_330 hx hb hts hown hKK hI e28 (lc91 hN) (kc91 hk0) dX12_pushes_5 ?_
  refine lv_iload_n hx hb dX12_pushes_8 rfl (lv_at hl 1 rfl) ?_
  obtain ⟨hin_, h⟩ := ck_e h
  obtain ⟨G28_9, qq, h⟩ := bn_e h
  refine sa_51 hx hb hKK hI e28 (lc119 hN) (kc119 hk0) hin_ dX12_pushes_9 (fun σ H locs hI ew ho => ?_)
  have e28 := ew.trans qq.symm
  have fr := frs fr ho (by decide)
  refine lv_aload_n hx hb dX12_pushes_10 rfl (lv_at hl 0 rfl) ?_
  refine lv_aload_n hx hb dX12_pushes_11 rfl (lv_at hl 0 rfl) ?_
  refine gt_X12_330 hx hb hts hown hKK hI e28 (lc91 hN) (kc91 hk0) dX12_pushes_12 ?_
  refine lv_iconst (v := 1) hx hb dX12_pushes_15 (by decide) ?_
  refine lv_iadd hx hb dX12_pushes_16 ?_
  obtain ⟨G28_17, qq, h⟩ := bn_e h
  refine pt_X12_330 hx hb hts hown hKK hI e28 (lc91 hN) (kc91 hk0) dX12_pushes_17 (fun σ H locs hI ew ho => ?_)
  have e28 := ew.trans qq.symm
  have fr := frs fr ho (by decide)
  have hq := Option.some.inj h
  exact W.vret hx hb hr (fun t ht hW => qc_mk (rfl) (by rw [ht]; exact ⟨σ, hI.nil, e28.trans (congrArg (fun z => z) hq), fr⟩)) hI.2.2 dX12_pushes_20 hlocks
noncomputable def f_X12_joins (F : Nat) (G28 : Grp) (v1 : Int32) : Option (Grp) :=
  ck ((G28.1 91 41) - 1) 220 (bn ((G28.1 119 ((G28.1 91 41) - 1).toNatClampNeg)) (fun v2_11 => ck ((G28.1 91 41) - 2) 220 (bn ((G28.1 119 ((G28.1 91 41) - 2).toNatClampNeg)) (fun v3_23 => bn (gI G28 91 41 ((G28.1 91 41) - 2)) (fun G28_31 => ob (f_X12_part F G28_31 v1 0 v3_23 v2_11) (fun q_40 => ob (f_X12_pushes F (q_40.2) (q_40.1)) (fun q_43 => some q_43)))))))
def RM_X12_joins : Room := { frames := 1, cells := 0, slots := 0, locals := 24 }
abbrev W_X12_joins : List Nat := [28]
abbrev B_X12_joins (HB : Heap) (D : va_G) (y : Nat → ClassId) (n : Nat) (κ : Nat → Nat) (σ0 : St) (q : Grp) : Heap → Prop := fun H => ∃ σ : St, IV HB D y n n κ σ [] H ∧ σ 28 = q ∧ ∀ j, j ∉ W_X12_joins → σ j = σ0 j
set_option maxRecDepth 100000 in
set_option maxHeartbeats 4000000 in
theorem c_X12_joins (l : Launch) (HB : Heap) (D : va_G) (y : Nat → ClassId) (F n : Nat) (κ : Nat → Nat) (σ0 : St) (hN : N0 ≤ n) (v1 : Int32)  (G28 : Grp) (e28 : σ0 28 = G28) (q : Grp) (h : f_X12_joins F G28 v1 = some q) : MT l HB D y yX12_joins cX12_joins 4 none RM_X12_joins [.ref (HB.size + 91), .int v1] (IV HB D y n n κ σ0 []) none (B_X12_joins HB D y n κ σ0 q) := by
  refine Met.ofW (cc := cX12_joins) (maxL := 4) (ret := none) (by decide) rfl ?_
  intro p e s m args below meth c s₁ BL hml hv
  obtain ⟨rfl, hI, hKK⟩ := hv
  have hx := BL.exec
  have hb := BL.bytes
  have hr := BL.returns
  have hts : ∀ w ∈ gtb, w.before _ s = true := fun w hw => atoms_spec BL.pre w (List.mem_cons_of_mem _ hw)
  have hml : c.maxLocals = 4 := hml
  have hown : s.vm.findClass RX12 = some m.cls := findClass_of_methodNamed BL.named
  have hlocks := BL.notSynchronized
  have hk0 := hI.1.2.2.2.2
  have hl := lv_entry ([.ref (HB.size + 91), .int v1]) (n := 4) (Nat.le_of_ble_eq_true rfl)
  rw [lg_entry_eq]
  generalize (lg_sl ([.ref (HB.size + 91), .int v1]) ++ List.replicate (4 - (lg_sl ([.ref (HB.size + 91), .int v1])).length) Slot.unset).toArray = ls at hl ⊢
  have hl : lv_has ls 4 [(0, .ref (HB.size + 91)), (1, .int v1)] := hl
  generalize hargs : ([.ref (HB.size + 91), .int v1] : List Value).toArray = args at *
  obtain ⟨σ, hI, e28, fr⟩ : ∃ σ : St, IV HB D y n n κ σ [] s.heap ∧ σ 28 = G28 ∧ ∀ j, j ∉ W_X12_joins → σ j = σ0 j := ⟨σ0, hI, e28, fun _ _ => rfl⟩
  show WX RM_X12_joins p l e s m args below meth c HB none (B_X12_joins HB D y n κ σ0 q) s.heap [] (F0 m 0 ls [])
  generalize s.heap = H at hI ⊢
  unfold f_X12_joins at h
  obtain ⟨locs, hlocs⟩ : ∃ x : List Loc, x = [] := ⟨_, rfl⟩
  rw [← hlocs] at hI ⊢
  refine lv_aload_n hx hb dX12_joins_0 rfl (lv_at hl 0 rfl) ?_
  refine gf_X12_92 hx hb hts hown hKK hI hN dX12_joins_1 ?_
  refine lv_aload_n hx hb dX12_joins_4 rfl (lv_at hl 0 rfl) ?_
  refine gt_X12_330 hx hb hts hown hKK hI e28 (lc91 hN) (kc91 hk0) dX12_joins_5 ?_
  refine lv_iconst (v := 1) hx hb dX12_joins_8 (by decide) ?_
  refine lv_isub hx hb dX12_joins_9 ?_
  obtain ⟨hin_, h⟩ := ck_e h
  refine la_51 hx hb hKK hI e28 (lc119 hN) (kc119 hk0) hin_ dX12_joins_10 ?_
  obtain ⟨v2_11, qq, h⟩ := bn_e h
  refine topi qq ?_
  refine lv_istore_n (lv' := [(2, .int v2_11), (0, .ref (HB.size + 91)), (1, .int v1)]) hx hb dX12_joins_11 rfl hl (by decide) rfl (fun ls hl => ?_)
  refine lv_aload_n hx hb dX12_joins_12 rfl (lv_at hl 1 rfl) ?_
  refine gf_X12_92 hx hb hts hown hKK hI hN dX12_joins_13 ?_
  refine lv_aload_n hx hb dX12_joins_16 rfl (lv_at hl 1 rfl) ?_
  refine gt_X12_330 hx hb hts hown hKK hI e28 (lc91 hN) (kc91 hk0) dX12_joins_17 ?_
  refine lv_iconst (v := 2) hx hb dX12_joins_20 (by decide) ?_
  refine lv_isub hx hb dX12_joins_21 ?_
  obtain ⟨hin_, h⟩ := ck_e h
  refine la_51 hx hb hKK hI e28 (lc119 hN) (kc119 hk0) hin_ dX12_joins_22 ?_
  obtain ⟨v3_23, qq, h⟩ := bn_e h
  refine topi qq ?_
  refine lv_istore_n (lv' := [(3, .int v3_23), (2, .int v2_11), (0, .ref (HB.size + 91)), (1, .int v1)]) hx hb dX12_joins_23 rfl hl (by decide) rfl (fun ls hl => ?_)
  refine lv_aload_n hx hb dX12_joins_24 rfl (lv_at hl 2 rfl) ?_
  refine lv_aload_n hx hb dX12_joins_25 rfl (lv_at hl 2 rfl) ?_
  refine gt_X12_330 hx hb hts hown hKK hI e28 (lc91 hN) (kc91 hk0) dX12_joins_26 ?_
  refine lv_iconst (v := 2) hx hb dX12_joins_29 (by decide) ?_
  refine lv_isub hx hb dX12_joins_30 ?_
  obtain ⟨G28_31, qq, h⟩ := bn_e h
  refine pt_X12_330 hx hb hts hown hKK hI e28 (lc91 hN) (kc91 hk0) dX12_joins_31 (fun σ H locs hI ew ho => ?_)
  have e28 := ew.trans qq.symm
  have fr := frs fr ho (by decide)
  refine lv_aload_n hx hb dX12_joins_34 rfl (lv_at hl 2 rfl) ?_
  refine lv_aload_n hx hb dX12_joins_35 rfl (lv_at hl 2 rfl) ?_
  refine lv_iload_n hx hb dX12_joins_36 rfl (lv_at hl 3 rfl) ?_
  refine lv_iconst (v := 0) hx hb dX12_joins_37 (by decide) ?_
  refine lv_iload_n hx hb dX12_joins_38 rfl (lv_at hl 0 rfl) ?_
  refine lv_iload_n hx hb dX12_joins_39 rfl (lv_at hl 1 rfl) ?_
  obtain ⟨q_40, hq_40, h⟩ := ob_e h
  refine r_callV (As := [.int v1, .int 0, .int v3_23, .int v2_11]) (rest := [.ref (HB.size + 91)]) hx hb hml hts hown (c_X12_part l HB D y F n κ σ hN v1 0 v3_23 v2_11 G28_31 e28 q_40 hq_40) cal_X12_part im_X12_part se_X12_part lm_X12_333 ⟨Nat.le_of_ble_eq_true rfl, Nat.le_of_ble_eq_true rfl⟩ hI.nil hKK (r_recv hKK hI (hE12 HB.size y) rfl (lc91 hN) (kc91 hk0)) rfl hl.1 hI.2.2 rfl (Nat.le_of_ble_eq_true rfl) dX12_joins_40 ⟨Nat.le_of_ble_eq_true rfl, Nat.le_of_ble_eq_true rfl⟩ rfl rfl rfl (fun H locs hB hlo => ?_)
  obtain ⟨σ, hB, en28, ho⟩ := hB
  have hI := hB.re hlo
  have e28 := en28
  have fr := frc fr ho (by decide)
  obtain ⟨q_43, hq_43, h⟩ := ob_e h
  refine r_callV (As := [.int (q_40.1)]) (rest := []) hx hb hml hts hown (c_X12_pushes l HB D y F n κ σ hN (q_40.1) (q_40.2) e28 q_43 hq_43) cal_X12_pushes im_X12_pushes se_X12_pushes lm_X12_337 ⟨Nat.le_of_ble_eq_true rfl, Nat.le_of_ble_eq_true rfl⟩ hI.nil hKK (r_recv hKK hI (hE12 HB.size y) rfl (lc91 hN) (kc91 hk0)) rfl hl.1 hI.2.2 rfl (Nat.le_of_ble_eq_true rfl) dX12_joins_43 ⟨Nat.le_of_ble_eq_true rfl, Nat.le_of_ble_eq_true rfl⟩ rfl rfl rfl (fun H locs hB hlo => ?_)
  obtain ⟨σ, hB, en28, ho⟩ := hB
  have hI := hB.re hlo
  have e28 := en28
  have fr := frc fr ho (by decide)
  have hq := Option.some.inj h
  exact W.vret hx hb hr (fun t ht hW => qc_mk (rfl) (by rw [ht]; exact ⟨σ, hI.nil, e28.trans (congrArg (fun z => z) hq), fr⟩)) hI.2.2 dX12_joins_46 hlocks
noncomputable def f_X12_isLetter (F : Nat)  (v0 : Int32) : Option (Int32) :=
  if v0 < 97 then some 0 else if 122 < v0 then some 0 else some 1
def RM_X12_isLetter : Room := { frames := 0, cells := 0, slots := 0, locals := 0 }
abbrev B_X12_isLetter (HB : Heap) (D : va_G) (y : Nat → ClassId) (n : Nat) (κ : Nat → Nat) (σ : St) (q : Int32) : Heap → Prop := fun H => IV HB D y n n κ σ [] H
set_option maxRecDepth 100000 in
set_option maxHeartbeats 4000000 in
theorem c_X12_isLetter (l : Launch) (HB : Heap) (D : va_G) (y : Nat → ClassId) (F n : Nat) (κ : Nat → Nat) (σ : St) (hN : N0 ≤ n) (v0 : Int32)   (q : Int32) (h : f_X12_isLetter F v0 = some q) : MT l HB D y yX12_isLetter cX12_isLetter 1 (some .boolean) RM_X12_isLetter [.int v0] (IV HB D y n n κ σ []) (some (.int q)) (B_X12_isLetter HB D y n κ σ q) := by
  refine Met.ofW (cc := cX12_isLetter) (maxL := 1) (ret := (some .boolean)) (by decide) rfl ?_
  intro p e s m args below meth c s₁ BL hml hv
  obtain ⟨rfl, hI, hKK⟩ := hv
  have hx := BL.exec
  have hb := BL.bytes
  have hr := BL.returns
  have hts : ∀ w ∈ gtb, w.before _ s = true := fun w hw => atoms_spec BL.pre w (List.mem_cons_of_mem _ hw)
  have hml : c.maxLocals = 1 := hml
  have hown : s.vm.findClass RX12 = some m.cls := findClass_of_methodNamed BL.named
  have hlocks := BL.notSynchronized
  have hk0 := hI.1.2.2.2.2
  have hl := lv_entry ([.int v0]) (n := 1) (Nat.le_of_ble_eq_true rfl)
  rw [lg_entry_eq]
  generalize (lg_sl ([.int v0]) ++ List.replicate (1 - (lg_sl ([.int v0])).length) Slot.unset).toArray = ls at hl ⊢
  have hl : lv_has ls 1 [(0, .int v0)] := hl
  generalize hargs : ([.int v0] : List Value).toArray = args at *
  show WX RM_X12_isLetter p l e s m args below meth c HB (some (.int q)) (B_X12_isLetter HB D y n κ σ q) s.heap [] (F0 m 0 ls [])
  generalize s.heap = H at hI ⊢
  unfold f_X12_isLetter at h
  obtain ⟨locs, hlocs⟩ : ∃ x : List Loc, x = [] := ⟨_, rfl⟩
  rw [← hlocs] at hI ⊢
  refine lv_iload_n hx hb dX12_isLetter_0 rfl (lv_at hl 0 rfl) ?_
  refine lv_bipush (v := 97) hx hb dX12_isLetter_1 (by decide) ?_
  refine lv_icmp_lt (tgt := 16) hx hb dX12_isLetter_3 (by decide) (fun hc => ?_) (fun hc => ?_)
  · replace h := ite_t hc h
    refine lv_iconst (v := 0) hx hb dX12_isLetter_16 (by decide) ?_
    have hq := Option.some.inj h
    exact W.zret (v := 0) (ty := .boolean) hx hb hr rfl (fun t ht hW => qc_mk (congrArg (fun z => Outcome.returned (some (Value.int z))) hq) (by rw [ht]; exact hI.nil)) hI.2.2 dX12_isLetter_17 hlocks
  · replace h := ite_f hc h
    refine lv_iload_n hx hb dX12_isLetter_6 rfl (lv_at hl 0 rfl) ?_
    refine lv_bipush (v := 122) hx hb dX12_isLetter_7 (by decide) ?_
    refine lv_icmp_gt (tgt := 16) hx hb dX12_isLetter_9 (by decide) (fun hc => ?_) (fun hc => ?_)
    · replace h := ite_t hc h
      refine lv_iconst (v := 0) hx hb dX12_isLetter_16 (by decide) ?_
      have hq := Option.some.inj h
      exact W.zret (v := 0) (ty := .boolean) hx hb hr rfl (fun t ht hW => qc_mk (congrArg (fun z => Outcome.returned (some (Value.int z))) hq) (by rw [ht]; exact hI.nil)) hI.2.2 dX12_isLetter_17 hlocks
    · replace h := ite_f hc h
      refine lv_iconst (v := 1) hx hb dX12_isLetter_12 (by decide) ?_
      refine lv_goto (tgt := 17) hx hb dX12_isLetter_13 (by decide) ?_
      have hq := Option.some.inj h
      exact W.zret (v := 1) (ty := .boolean) hx hb hr rfl (fun t ht hW => qc_mk (congrArg (fun z => Outcome.returned (some (Value.int z))) hq) (by rw [ht]; exact hI.nil)) hI.2.2 dX12_isLetter_17 hlocks
noncomputable def f_X12_isDigit (F : Nat)  (v0 : Int32) : Option (Int32) :=
  if v0 < 48 then some 0 else if 57 < v0 then some 0 else some 1
def RM_X12_isDigit : Room := { frames := 0, cells := 0, slots := 0, locals := 0 }
abbrev B_X12_isDigit (HB : Heap) (D : va_G) (y : Nat → ClassId) (n : Nat) (κ : Nat → Nat) (σ : St) (q : Int32) : Heap → Prop := fun H => IV HB D y n n κ σ [] H
set_option maxRecDepth 100000 in
set_option maxHeartbeats 4000000 in
theorem c_X12_isDigit (l : Launch) (HB : Heap) (D : va_G) (y : Nat → ClassId) (F n : Nat) (κ : Nat → Nat) (σ : St) (hN : N0 ≤ n) (v0 : Int32)   (q : Int32) (h : f_X12_isDigit F v0 = some q) : MT l HB D y yX12_isDigit cX12_isDigit 1 (some .boolean) RM_X12_isDigit [.int v0] (IV HB D y n n κ σ []) (some (.int q)) (B_X12_isDigit HB D y n κ σ q) := by
  refine Met.ofW (cc := cX12_isDigit) (maxL := 1) (ret := (some .boolean)) (by decide) rfl ?_
  intro p e s m args below meth c s₁ BL hml hv
  obtain ⟨rfl, hI, hKK⟩ := hv
  have hx := BL.exec
  have hb := BL.bytes
  have hr := BL.returns
  have hts : ∀ w ∈ gtb, w.before _ s = true := fun w hw => atoms_spec BL.pre w (List.mem_cons_of_mem _ hw)
  have hml : c.maxLocals = 1 := hml
  have hown : s.vm.findClass RX12 = some m.cls := findClass_of_methodNamed BL.named
  have hlocks := BL.notSynchronized
  have hk0 := hI.1.2.2.2.2
  have hl := lv_entry ([.int v0]) (n := 1) (Nat.le_of_ble_eq_true rfl)
  rw [lg_entry_eq]
  generalize (lg_sl ([.int v0]) ++ List.replicate (1 - (lg_sl ([.int v0])).length) Slot.unset).toArray = ls at hl ⊢
  have hl : lv_has ls 1 [(0, .int v0)] := hl
  generalize hargs : ([.int v0] : List Value).toArray = args at *
  show WX RM_X12_isDigit p l e s m args below meth c HB (some (.int q)) (B_X12_isDigit HB D y n κ σ q) s.heap [] (F0 m 0 ls [])
  generalize s.heap = H at hI ⊢
  unfold f_X12_isDigit at h
  obtain ⟨locs, hlocs⟩ : ∃ x : List Loc, x = [] := ⟨_, rfl⟩
  rw [← hlocs] at hI ⊢
  refine lv_iload_n hx hb dX12_isDigit_0 rfl (lv_at hl 0 rfl) ?_
  refine lv_bipush (v := 48) hx hb dX12_isDigit_1 (by decide) ?_
  refine lv_icmp_lt (tgt := 16) hx hb dX12_isDigit_3 (by decide) (fun hc => ?_) (fun hc => ?_)
  · replace h := ite_t hc h
    refine lv_iconst (v := 0) hx hb dX12_isDigit_16 (by decide) ?_
    have hq := Option.some.inj h
    exact W.zret (v := 0) (ty := .boolean) hx hb hr rfl (fun t ht hW => qc_mk (congrArg (fun z => Outcome.returned (some (Value.int z))) hq) (by rw [ht]; exact hI.nil)) hI.2.2 dX12_isDigit_17 hlocks
  · replace h := ite_f hc h
    refine lv_iload_n hx hb dX12_isDigit_6 rfl (lv_at hl 0 rfl) ?_
    refine lv_bipush (v := 57) hx hb dX12_isDigit_7 (by decide) ?_
    refine lv_icmp_gt (tgt := 16) hx hb dX12_isDigit_9 (by decide) (fun hc => ?_) (fun hc => ?_)
    · replace h := ite_t hc h
      refine lv_iconst (v := 0) hx hb dX12_isDigit_16 (by decide) ?_
      have hq := Option.some.inj h
      exact W.zret (v := 0) (ty := .boolean) hx hb hr rfl (fun t ht hW => qc_mk (congrArg (fun z => Outcome.returned (some (Value.int z))) hq) (by rw [ht]; exact hI.nil)) hI.2.2 dX12_isDigit_17 hlocks
    · replace h := ite_f hc h
      refine lv_iconst (v := 1) hx hb dX12_isDigit_12 (by decide) ?_
      refine lv_goto (tgt := 17) hx hb dX12_isDigit_13 (by decide) ?_
      have hq := Option.some.inj h
      exact W.zret (v := 1) (ty := .boolean) hx hb hr rfl (fun t ht hW => qc_mk (congrArg (fun z => Outcome.returned (some (Value.int z))) hq) (by rw [ht]; exact hI.nil)) hI.2.2 dX12_isDigit_17 hlocks
noncomputable def f_X12_isAtom (F : Nat)  (v0 : Int32) : Option (Int32) :=
  ob (f_X12_isLetter F v0) (fun q_1 => if q_1 = 0 then ob (f_X12_isDigit F v0) (fun q_8 => if q_8 = 0 then if v0 = 35 then some 1 else if v0 = 64 then some 1 else if v0 = 95 then some 1 else if v0 = 46 then some 1 else if v0 = 94 then some 1 else some 0 else some 1) else some 1)
def RM_X12_isAtom : Room := { frames := 1, cells := 0, slots := 0, locals := 20 }
abbrev B_X12_isAtom (HB : Heap) (D : va_G) (y : Nat → ClassId) (n : Nat) (κ : Nat → Nat) (σ : St) (q : Int32) : Heap → Prop := fun H => IV HB D y n n κ σ [] H
set_option maxRecDepth 100000 in
set_option maxHeartbeats 4000000 in
theorem c_X12_isAtom (l : Launch) (HB : Heap) (D : va_G) (y : Nat → ClassId) (F n : Nat) (κ : Nat → Nat) (σ : St) (hN : N0 ≤ n) (v0 : Int32)   (q : Int32) (h : f_X12_isAtom F v0 = some q) : MT l HB D y yX12_isAtom cX12_isAtom 1 (some .boolean) RM_X12_isAtom [.int v0] (IV HB D y n n κ σ []) (some (.int q)) (B_X12_isAtom HB D y n κ σ q) := by
  refine Met.ofW (cc := cX12_isAtom) (maxL := 1) (ret := (some .boolean)) (by decide) rfl ?_
  intro p e s m args below meth c s₁ BL hml hv
  obtain ⟨rfl, hI, hKK⟩ := hv
  have hx := BL.exec
  have hb := BL.bytes
  have hr := BL.returns
  have hts : ∀ w ∈ gtb, w.before _ s = true := fun w hw => atoms_spec BL.pre w (List.mem_cons_of_mem _ hw)
  have hml : c.maxLocals = 1 := hml
  have hown : s.vm.findClass RX12 = some m.cls := findClass_of_methodNamed BL.named
  have hlocks := BL.notSynchronized
  have hk0 := hI.1.2.2.2.2
  have hl := lv_entry ([.int v0]) (n := 1) (Nat.le_of_ble_eq_true rfl)
  rw [lg_entry_eq]
  generalize (lg_sl ([.int v0]) ++ List.replicate (1 - (lg_sl ([.int v0])).length) Slot.unset).toArray = ls at hl ⊢
  have hl : lv_has ls 1 [(0, .int v0)] := hl
  generalize hargs : ([.int v0] : List Value).toArray = args at *
  show WX RM_X12_isAtom p l e s m args below meth c HB (some (.int q)) (B_X12_isAtom HB D y n κ σ q) s.heap [] (F0 m 0 ls [])
  generalize s.heap = H at hI ⊢
  unfold f_X12_isAtom at h
  obtain ⟨locs, hlocs⟩ : ∃ x : List Loc, x = [] := ⟨_, rfl⟩
  rw [← hlocs] at hI ⊢
  refine lv_iload_n hx hb dX12_isAtom_0 rfl (lv_at hl 0 rfl) ?_
  obtain ⟨q_1, hq_1, h⟩ := ob_e h
  refine r_callS (As := [.int v0]) (rest := []) hx hb hml hts hown (c_X12_isLetter l HB D y F n κ σ hN v0  q_1 hq_1) cal_X12_isLetter st_X12_isLetter lm_X12_340 ⟨Nat.le_of_ble_eq_true rfl, Nat.le_of_ble_eq_true rfl⟩ hI.nil hKK rfl hl.1 hI.2.2 rfl (Nat.le_of_ble_eq_true rfl) dX12_isAtom_1 ⟨Nat.le_of_ble_eq_true rfl, Nat.le_of_ble_eq_true rfl⟩ rfl rfl rfl (fun H locs hB hlo => ?_)
  have hI := hB.re hlo
  refine lv_if_ne (tgt := 44) hx hb dX12_isAtom_4 (by decide) (fun hc => ?_) (fun hc => ?_)
  · replace h := ite_f hc h
    refine lv_iconst (v := 1) hx hb dX12_isAtom_44 (by decide) ?_
    refine lv_goto (tgt := 49) hx hb dX12_isAtom_45 (by decide) ?_
    have hq := Option.some.inj h
    exact W.zret (v := 1) (ty := .boolean) hx hb hr rfl (fun t ht hW => qc_mk (congrArg (fun z => Outcome.returned (some (Value.int z))) hq) (by rw [ht]; exact hI.nil)) hI.2.2 dX12_isAtom_49 hlocks
  · replace h := ite_t hc h
    refine lv_iload_n hx hb dX12_isAtom_7 rfl (lv_at hl 0 rfl) ?_
    obtain ⟨q_8, hq_8, h⟩ := ob_e h
    refine r_callS (As := [.int v0]) (rest := []) hx hb hml hts hown (c_X12_isDigit l HB D y F n κ σ hN v0  q_8 hq_8) cal_X12_isDigit st_X12_isDigit lm_X12_343 ⟨Nat.le_of_ble_eq_true rfl, Nat.le_of_ble_eq_true rfl⟩ hI.nil hKK rfl hl.1 hI.2.2 rfl (Nat.le_of_ble_eq_true rfl) dX12_isAtom_8 ⟨Nat.le_of_ble_eq_true rfl, Nat.le_of_ble_eq_true rfl⟩ rfl rfl rfl (fun H locs hB hlo => ?_)
    have hI := hB.re hlo
    refine lv_if_ne (tgt := 44) hx hb dX12_isAtom_11 (by decide) (fun hc => ?_) (fun hc => ?_)
    · replace h := ite_f hc h
      refine lv_iconst (v := 1) hx hb dX12_isAtom_44 (by decide) ?_
      refine lv_goto (tgt := 49) hx hb dX12_isAtom_45 (by decide) ?_
      have hq := Option.some.inj h
      exact W.zret (v := 1) (ty := .boolean) hx hb hr rfl (fun t ht hW => qc_mk (congrArg (fun z => Outcome.returned (some (Value.int z))) hq) (by rw [ht]; exact hI.nil)) hI.2.2 dX12_isAtom_49 hlocks
    · replace h := ite_t hc h
      refine lv_iload_n hx hb dX12_isAtom_14 rfl (lv_at hl 0 rfl) ?_
      refine lv_bipush (v := 35) hx hb dX12_isAtom_15 (by decide) ?_
      refine lv_icmp_eq (tgt := 44) hx hb dX12_isAtom_17 (by decide) (fun hc => ?_) (fun hc => ?_)
      · replace h := ite_t hc h
        refine lv_iconst (v := 1) hx hb dX12_isAtom_44 (by decide) ?_
        refine lv_goto (tgt := 49) hx hb dX12_isAtom_45 (by decide) ?_
        have hq := Option.some.inj h
        exact W.zret (v := 1) (ty := .boolean) hx hb hr rfl (fun t ht hW => qc_mk (congrArg (fun z => Outcome.returned (some (Value.int z))) hq) (by rw [ht]; exact hI.nil)) hI.2.2 dX12_isAtom_49 hlocks
      · replace h := ite_f hc h
        refine lv_iload_n hx hb dX12_isAtom_20 rfl (lv_at hl 0 rfl) ?_
        refine lv_bipush (v := 64) hx hb dX12_isAtom_21 (by decide) ?_
        refine lv_icmp_eq (tgt := 44) hx hb dX12_isAtom_23 (by decide) (fun hc => ?_) (fun hc => ?_)
        · replace h := ite_t hc h
          refine lv_iconst (v := 1) hx hb dX12_isAtom_44 (by decide) ?_
          refine lv_goto (tgt := 49) hx hb dX12_isAtom_45 (by decide) ?_
          have hq := Option.some.inj h
          exact W.zret (v := 1) (ty := .boolean) hx hb hr rfl (fun t ht hW => qc_mk (congrArg (fun z => Outcome.returned (some (Value.int z))) hq) (by rw [ht]; exact hI.nil)) hI.2.2 dX12_isAtom_49 hlocks
        · replace h := ite_f hc h
          refine lv_iload_n hx hb dX12_isAtom_26 rfl (lv_at hl 0 rfl) ?_
          refine lv_bipush (v := 95) hx hb dX12_isAtom_27 (by decide) ?_
          refine lv_icmp_eq (tgt := 44) hx hb dX12_isAtom_29 (by decide) (fun hc => ?_) (fun hc => ?_)
          · replace h := ite_t hc h
            refine lv_iconst (v := 1) hx hb dX12_isAtom_44 (by decide) ?_
            refine lv_goto (tgt := 49) hx hb dX12_isAtom_45 (by decide) ?_
            have hq := Option.some.inj h
            exact W.zret (v := 1) (ty := .boolean) hx hb hr rfl (fun t ht hW => qc_mk (congrArg (fun z => Outcome.returned (some (Value.int z))) hq) (by rw [ht]; exact hI.nil)) hI.2.2 dX12_isAtom_49 hlocks
          · replace h := ite_f hc h
            refine lv_iload_n hx hb dX12_isAtom_32 rfl (lv_at hl 0 rfl) ?_
            refine lv_bipush (v := 46) hx hb dX12_isAtom_33 (by decide) ?_
            refine lv_icmp_eq (tgt := 44) hx hb dX12_isAtom_35 (by decide) (fun hc => ?_) (fun hc => ?_)
            · replace h := ite_t hc h
              refine lv_iconst (v := 1) hx hb dX12_isAtom_44 (by decide) ?_
              refine lv_goto (tgt := 49) hx hb dX12_isAtom_45 (by decide) ?_
              have hq := Option.some.inj h
              exact W.zret (v := 1) (ty := .boolean) hx hb hr rfl (fun t ht hW => qc_mk (congrArg (fun z => Outcome.returned (some (Value.int z))) hq) (by rw [ht]; exact hI.nil)) hI.2.2 dX12_isAtom_49 hlocks
            · replace h := ite_f hc h
              refine lv_iload_n hx hb dX12_isAtom_38 rfl (lv_at hl 0 rfl) ?_
              refine lv_bipush (v := 94) hx hb dX12_isAtom_39 (by decide) ?_
              refine lv_icmp_ne (tgt := 48) hx hb dX12_isAtom_41 (by decide) (fun hc => ?_) (fun hc => ?_)
              · replace h := ite_f hc h
                refine lv_iconst (v := 0) hx hb dX12_isAtom_48 (by decide) ?_
                have hq := Option.some.inj h
                exact W.zret (v := 0) (ty := .boolean) hx hb hr rfl (fun t ht hW => qc_mk (congrArg (fun z => Outcome.returned (some (Value.int z))) hq) (by rw [ht]; exact hI.nil)) hI.2.2 dX12_isAtom_49 hlocks
              · replace h := ite_t hc h
                refine lv_iconst (v := 1) hx hb dX12_isAtom_44 (by decide) ?_
                refine lv_goto (tgt := 49) hx hb dX12_isAtom_45 (by decide) ?_
                have hq := Option.some.inj h
                exact W.zret (v := 1) (ty := .boolean) hx hb hr rfl (fun t ht hW => qc_mk (congrArg (fun z => Outcome.returned (some (Value.int z))) hq) (by rw [ht]; exact hI.nil)) hI.2.2 dX12_isAtom_49 hlocks
noncomputable def f_X12_closesRows_l2b (F : Nat)  (k2 : Grp → Int32 → Int32 → Option (Grp)) (G28 : Grp) (v1 : Int32) (v2 : Int32) : Option (Grp) :=
  ck v1 8 (if (G28.1 121 v1.toNatClampNeg) ≤ v2 then some G28 else ob (f_X12_joins F G28 3) (fun q_14 => bn (v2 + 1) (fun v2_17 => k2 q_14 v1 v2_17)))
noncomputable def f_X12_closesRows_l2 (F : Nat)  (fu : Nat) : Grp → Int32 → Int32 → Option (Grp) := Nat.rec (motive := fun _ => Grp → Int32 → Int32 → Option (Grp)) (fun _ _ _ => none) (fun _ ih => f_X12_closesRows_l2b F  ih) fu
noncomputable def f_X12_closesRows (F : Nat) (G28 : Grp) (v1 : Int32) : Option (Grp) :=
  f_X12_closesRows_l2 F  F G28 v1 0
def RM_X12_closesRows : Room := { frames := 2, cells := 0, slots := 0, locals := 47 }
abbrev W_X12_closesRows : List Nat := [28]
abbrev B_X12_closesRows (HB : Heap) (D : va_G) (y : Nat → ClassId) (n : Nat) (κ : Nat → Nat) (σ0 : St) (q : Grp) : Heap → Prop := fun H => ∃ σ : St, IV HB D y n n κ σ [] H ∧ σ 28 = q ∧ ∀ j, j ∉ W_X12_closesRows → σ j = σ0 j
set_option maxRecDepth 100000 in
set_option maxHeartbeats 4000000 in
theorem c_X12_closesRows (l : Launch) (HB : Heap) (D : va_G) (y : Nat → ClassId) (F n : Nat) (κ : Nat → Nat) (σ0 : St) (hN : N0 ≤ n) (v1 : Int32)  (G28 : Grp) (e28 : σ0 28 = G28) (q : Grp) (h : f_X12_closesRows F G28 v1 = some q) : MT l HB D y yX12_closesRows cX12_closesRows 3 none RM_X12_closesRows [.ref (HB.size + 91), .int v1] (IV HB D y n n κ σ0 []) none (B_X12_closesRows HB D y n κ σ0 q) := by
  refine Met.ofW (cc := cX12_closesRows) (maxL := 3) (ret := none) (by decide) rfl ?_
  intro p e s m args below meth c s₁ BL hml hv
  obtain ⟨rfl, hI, hKK⟩ := hv
  have hx := BL.exec
  have hb := BL.bytes
  have hr := BL.returns
  have hts : ∀ w ∈ gtb, w.before _ s = true := fun w hw => atoms_spec BL.pre w (List.mem_cons_of_mem _ hw)
  have hml : c.maxLocals = 3 := hml
  have hown : s.vm.findClass RX12 = some m.cls := findClass_of_methodNamed BL.named
  have hlocks := BL.notSynchronized
  have hk0 := hI.1.2.2.2.2
  have hl := lv_entry ([.ref (HB.size + 91), .int v1]) (n := 3) (Nat.le_of_ble_eq_true rfl)
  rw [lg_entry_eq]
  generalize (lg_sl ([.ref (HB.size + 91), .int v1]) ++ List.replicate (3 - (lg_sl ([.ref (HB.size + 91), .int v1])).length) Slot.unset).toArray = ls at hl ⊢
  have hl : lv_has ls 3 [(0, .ref (HB.size + 91)), (1, .int v1)] := hl
  generalize hargs : ([.ref (HB.size + 91), .int v1] : List Value).toArray = args at *
  have b2 : ∀ (fu : Nat) (σ : St) (H : Heap) (locs : List Loc) (ls : Array Slot) (G28 : Grp) (v1 : Int32) (v2 : Int32) , IV HB D y n n κ σ locs H → σ 28 = G28 → (∀ j, j ∉ W_X12_closesRows → σ j = σ0 j) → lv_has ls 3 [(0, .ref (HB.size + 91)), (1, .int v1), (2, .int v2)] → f_X12_closesRows_l2 F  fu G28 v1 v2 = some q → WX RM_X12_closesRows p l e s m args below meth c HB none (B_X12_closesRows HB D y n κ σ0 q) H locs (F0 m 2 ls []) := by
    intro  fu
    induction fu with
    | zero =>
      intro σ H locs ls G28 v1 v2 hI e28 fr hl h
      exact absurd h (by intro h; cases h)
    | succ fu hk2 =>
      intro σ H locs ls G28 v1 v2 hI e28 fr hl h
      have h : f_X12_closesRows_l2b F  (f_X12_closesRows_l2 F  fu) G28 v1 v2 = some q := h
      generalize f_X12_closesRows_l2 F  fu = k2 at h hk2
      unfold f_X12_closesRows_l2b at h
      refine lv_iload_n hx hb dX12_closesRows_2 rfl (lv_at hl 2 rfl) ?_
      refine lv_aload_n hx hb dX12_closesRows_3 rfl (lv_at hl 0 rfl) ?_
      refine gf_X12_98 hx hb hts hown hKK hI hN dX12_closesRows_4 ?_
      refine lv_iload_n hx hb dX12_closesRows_7 rfl (lv_at hl 1 rfl) ?_
      obtain ⟨hin_, h⟩ := ck_e h
      refine la_52 hx hb hKK hI e28 (lc121 hN) (kc121 hk0) hin_ dX12_closesRows_8 ?_
      refine lv_icmp_ge (tgt := 23) hx hb dX12_closesRows_9 (by decide) (fun hc => ?_) (fun hc => ?_)
      · replace h := ite_t hc h
        have hq := Option.some.inj h
        exact W.vret hx hb hr (fun t ht hW => qc_mk (rfl) (by rw [ht]; exact ⟨σ, hI.nil, e28.trans (congrArg (fun z => z) hq), fr⟩)) hI.2.2 dX12_closesRows_23 hlocks
      · replace h := ite_f hc h
        refine lv_aload_n hx hb dX12_closesRows_12 rfl (lv_at hl 0 rfl) ?_
        refine lv_iconst (v := 3) hx hb dX12_closesRows_13 (by decide) ?_
        obtain ⟨q_14, hq_14, h⟩ := ob_e h
        refine r_callV (As := [.int 3]) (rest := []) hx hb hml hts hown (c_X12_joins l HB D y F n κ σ hN 3 G28 e28 q_14 hq_14) cal_X12_joins im_X12_joins se_X12_joins lm_X12_346 ⟨Nat.le_of_ble_eq_true rfl, Nat.le_of_ble_eq_true rfl⟩ hI.nil hKK (r_recv hKK hI (hE12 HB.size y) rfl (lc91 hN) (kc91 hk0)) rfl hl.1 hI.2.2 rfl (Nat.le_of_ble_eq_true rfl) dX12_closesRows_14 ⟨Nat.le_of_ble_eq_true rfl, Nat.le_of_ble_eq_true rfl⟩ rfl rfl rfl (fun H locs hB hlo => ?_)
        obtain ⟨σ, hB, en28, ho⟩ := hB
        have hI := hB.re hlo
        have e28 := en28
        have fr := frc fr ho (by decide)
        obtain ⟨v2_17, qq, h⟩ := bn_e h
        refine lv_iinc (v := v2_17) (lv' := [(2, .int v2_17), (0, .ref (HB.size + 91)), (1, .int v1)]) hx hb dX12_closesRows_17 hl (k := 2) rfl (by rw [qq]; rfl) (by decide) rfl (fun ls hl => ?_)
        refine lv_goto (tgt := 2) hx hb dX12_closesRows_20 (by decide) ?_
        exact hk2 σ H locs ls q_14 v1 v2_17  hI e28 fr (lv_sub hl [1, 2, 0] rfl) h
  obtain ⟨σ, hI, e28, fr⟩ : ∃ σ : St, IV HB D y n n κ σ [] s.heap ∧ σ 28 = G28 ∧ ∀ j, j ∉ W_X12_closesRows → σ j = σ0 j := ⟨σ0, hI, e28, fun _ _ => rfl⟩
  show WX RM_X12_closesRows p l e s m args below meth c HB none (B_X12_closesRows HB D y n κ σ0 q) s.heap [] (F0 m 0 ls [])
  generalize s.heap = H at hI ⊢
  unfold f_X12_closesRows at h
  obtain ⟨locs, hlocs⟩ : ∃ x : List Loc, x = [] := ⟨_, rfl⟩
  rw [← hlocs] at hI ⊢
  refine lv_iconst (v := 0) hx hb dX12_closesRows_0 (by decide) ?_
  refine lv_istore_n (lv' := [(2, .int 0), (0, .ref (HB.size + 91)), (1, .int v1)]) hx hb dX12_closesRows_1 rfl hl (by decide) rfl (fun ls hl => ?_)
  exact b2  F σ H locs ls G28 v1 0  hI e28 fr (lv_sub hl [1, 2, 0] rfl) h
noncomputable def f_X12_comes_b14 (F : Nat)  (G28 : Grp) (v1 : Int32) : Option (Grp) :=
  ck v1 8 (bn (gI G28 120 v1.toNatClampNeg 1) (fun G28_20 => some G28_20))
noncomputable def f_X12_comes (F : Nat) (G28 : Grp) (v1 : Int32) : Option (Grp) :=
  ck v1 8 (if (G28.1 120 v1.toNatClampNeg) ≤ 0 then f_X12_comes_b14 F  G28 v1 else ob (f_X12_joins F G28 2) (fun q_11 => f_X12_comes_b14 F  q_11 v1))
def RM_X12_comes : Room := { frames := 2, cells := 0, slots := 0, locals := 47 }
abbrev W_X12_comes : List Nat := [28]
abbrev B_X12_comes (HB : Heap) (D : va_G) (y : Nat → ClassId) (n : Nat) (κ : Nat → Nat) (σ0 : St) (q : Grp) : Heap → Prop := fun H => ∃ σ : St, IV HB D y n n κ σ [] H ∧ σ 28 = q ∧ ∀ j, j ∉ W_X12_comes → σ j = σ0 j
set_option maxRecDepth 100000 in
set_option maxHeartbeats 4000000 in
theorem c_X12_comes (l : Launch) (HB : Heap) (D : va_G) (y : Nat → ClassId) (F n : Nat) (κ : Nat → Nat) (σ0 : St) (hN : N0 ≤ n) (v1 : Int32)  (G28 : Grp) (e28 : σ0 28 = G28) (q : Grp) (h : f_X12_comes F G28 v1 = some q) : MT l HB D y yX12_comes cX12_comes 2 none RM_X12_comes [.ref (HB.size + 91), .int v1] (IV HB D y n n κ σ0 []) none (B_X12_comes HB D y n κ σ0 q) := by
  refine Met.ofW (cc := cX12_comes) (maxL := 2) (ret := none) (by decide) rfl ?_
  intro p e s m args below meth c s₁ BL hml hv
  obtain ⟨rfl, hI, hKK⟩ := hv
  have hx := BL.exec
  have hb := BL.bytes
  have hr := BL.returns
  have hts : ∀ w ∈ gtb, w.before _ s = true := fun w hw => atoms_spec BL.pre w (List.mem_cons_of_mem _ hw)
  have hml : c.maxLocals = 2 := hml
  have hown : s.vm.findClass RX12 = some m.cls := findClass_of_methodNamed BL.named
  have hlocks := BL.notSynchronized
  have hk0 := hI.1.2.2.2.2
  have hl := lv_entry ([.ref (HB.size + 91), .int v1]) (n := 2) (Nat.le_of_ble_eq_true rfl)
  rw [lg_entry_eq]
  generalize (lg_sl ([.ref (HB.size + 91), .int v1]) ++ List.replicate (2 - (lg_sl ([.ref (HB.size + 91), .int v1])).length) Slot.unset).toArray = ls at hl ⊢
  have hl : lv_has ls 2 [(0, .ref (HB.size + 91)), (1, .int v1)] := hl
  generalize hargs : ([.ref (HB.size + 91), .int v1] : List Value).toArray = args at *
  have b14 : ∀ (σ : St) (H : Heap) (locs : List Loc) (ls : Array Slot) (G28 : Grp) (v1 : Int32) , IV HB D y n n κ σ locs H → σ 28 = G28 → (∀ j, j ∉ W_X12_comes → σ j = σ0 j) → lv_has ls 2 [(0, .ref (HB.size + 91)), (1, .int v1)] → f_X12_comes_b14 F  G28 v1 = some q → WX RM_X12_comes p l e s m args below meth c HB none (B_X12_comes HB D y n κ σ0 q) H locs (F0 m 14 ls []) := by
    intro  σ H locs ls G28 v1 hI e28 fr hl h
    unfold f_X12_comes_b14 at h
    refine lv_aload_n hx hb dX12_comes_14 rfl (lv_at hl 0 rfl) ?_
    refine gf_X12_95 hx hb hts hown hKK hI hN dX12_comes_15 ?_
    refine lv_iload_n hx hb dX12_comes_18 rfl (lv_at hl 1 rfl) ?_
    refine lv_iconst (v := 1) hx hb dX12_comes_19 (by decide) ?_
    obtain ⟨hin_, h⟩ := ck_e h
    obtain ⟨G28_20, qq, h⟩ := bn_e h
    refine sa_52 hx hb hKK hI e28 (lc120 hN) (kc120 hk0) hin_ dX12_comes_20 (fun σ H locs hI ew ho => ?_)
    have e28 := ew.trans qq.symm
    have fr := frs fr ho (by decide)
    have hq := Option.some.inj h
    exact W.vret hx hb hr (fun t ht hW => qc_mk (rfl) (by rw [ht]; exact ⟨σ, hI.nil, e28.trans (congrArg (fun z => z) hq), fr⟩)) hI.2.2 dX12_comes_21 hlocks
  obtain ⟨σ, hI, e28, fr⟩ : ∃ σ : St, IV HB D y n n κ σ [] s.heap ∧ σ 28 = G28 ∧ ∀ j, j ∉ W_X12_comes → σ j = σ0 j := ⟨σ0, hI, e28, fun _ _ => rfl⟩
  show WX RM_X12_comes p l e s m args below meth c HB none (B_X12_comes HB D y n κ σ0 q) s.heap [] (F0 m 0 ls [])
  generalize s.heap = H at hI ⊢
  unfold f_X12_comes at h
  obtain ⟨locs, hlocs⟩ : ∃ x : List Loc, x = [] := ⟨_, rfl⟩
  rw [← hlocs] at hI ⊢
  refine lv_aload_n hx hb dX12_comes_0 rfl (lv_at hl 0 rfl) ?_
  refine gf_X12_95 hx hb hts hown hKK hI hN dX12_comes_1 ?_
  refine lv_iload_n hx hb dX12_comes_4 rfl (lv_at hl 1 rfl) ?_
  obtain ⟨hin_, h⟩ := ck_e h
  refine la_52 hx hb hKK hI e28 (lc120 hN) (kc120 hk0) hin_ dX12_comes_5 ?_
  refine lv_if_le (tgt := 14) hx hb dX12_comes_6 (by decide) (fun hc => ?_) (fun hc => ?_)
  · replace h := ite_t hc h
    exact b14  σ H locs ls G28 v1  hI e28 fr (lv_sub hl [0, 1] rfl) h
  · replace h := ite_f hc h
    refine lv_aload_n hx hb dX12_comes_9 rfl (lv_at hl 0 rfl) ?_
    refine lv_iconst (v := 2) hx hb dX12_comes_10 (by decide) ?_
    obtain ⟨q_11, hq_11, h⟩ := ob_e h
    refine r_callV (As := [.int 2]) (rest := []) hx hb hml hts hown (c_X12_joins l HB D y F n κ σ hN 2 G28 e28 q_11 hq_11) cal_X12_joins im_X12_joins se_X12_joins lm_X12_346 ⟨Nat.le_of_ble_eq_true rfl, Nat.le_of_ble_eq_true rfl⟩ hI.nil hKK (r_recv hKK hI (hE12 HB.size y) rfl (lc91 hN) (kc91 hk0)) rfl hl.1 hI.2.2 rfl (Nat.le_of_ble_eq_true rfl) dX12_comes_11 ⟨Nat.le_of_ble_eq_true rfl, Nat.le_of_ble_eq_true rfl⟩ rfl rfl rfl (fun H locs hB hlo => ?_)
    obtain ⟨σ, hB, en28, ho⟩ := hB
    have hI := hB.re hlo
    have e28 := en28
    have fr := frc fr ho (by decide)
    exact b14  σ H locs ls q_11 v1  hI e28 fr (lv_sub hl [0, 1] rfl) h
noncomputable def f_X12_repeats_b57 (F : Nat)  (G27 : Grp) (G28 : Grp) (s1 : Int32) (s3 : Int32) : Option (Grp) :=
  ck ((G28.1 91 41) - 1) 220 (ob (f_X12_part F G28 s3 0 (G28.1 119 ((G28.1 91 41) - 1).toNatClampNeg) (-1)) (fun q_70 => ck s1 220 (bn (gI (q_70.2) 119 s1.toNatClampNeg (q_70.1)) (fun G28_73 => bn (gI G28_73 91 21 ((G28_73.1 91 21) + 1)) (fun G28_81 => some G28_81)))))
noncomputable def f_X12_repeats_b24 (F : Nat)  (G27 : Grp) (G28 : Grp) (v1 : Int32) : Option (Grp) :=
  if v1 = 42 then f_X12_repeats_b57 F  G27 G28 ((G28.1 91 41) - 1) 4 else if v1 = 43 then f_X12_repeats_b57 F  G27 G28 ((G28.1 91 41) - 1) 5 else f_X12_repeats_b57 F  G27 G28 ((G28.1 91 41) - 1) 6
noncomputable def f_X12_repeats (F : Nat) (G27 : Grp) (G28 : Grp)  : Option (Grp) :=
  ob (f_X12_sign F G27 G28) (fun q_1 => if q_1 = 42 then f_X12_repeats_b24 F  G27 G28 q_1 else if q_1 = 43 then f_X12_repeats_b24 F  G27 G28 q_1 else if q_1 = 63 then f_X12_repeats_b24 F  G27 G28 q_1 else some G28)
def RM_X12_repeats : Room := { frames := 1, cells := 0, slots := 0, locals := 24 }
abbrev W_X12_repeats : List Nat := [28]
abbrev B_X12_repeats (HB : Heap) (D : va_G) (y : Nat → ClassId) (n : Nat) (κ : Nat → Nat) (σ0 : St) (q : Grp) : Heap → Prop := fun H => ∃ σ : St, IV HB D y n n κ σ [] H ∧ σ 28 = q ∧ ∀ j, j ∉ W_X12_repeats → σ j = σ0 j
set_option maxRecDepth 100000 in
set_option maxHeartbeats 4000000 in
theorem c_X12_repeats (l : Launch) (HB : Heap) (D : va_G) (y : Nat → ClassId) (F n : Nat) (κ : Nat → Nat) (σ0 : St) (hN : N0 ≤ n)  (G27 : Grp) (e27 : σ0 27 = G27) (G28 : Grp) (e28 : σ0 28 = G28) (q : Grp) (h : f_X12_repeats F G27 G28 = some q) : MT l HB D y yX12_repeats cX12_repeats 2 none RM_X12_repeats [.ref (HB.size + 91)] (IV HB D y n n κ σ0 []) none (B_X12_repeats HB D y n κ σ0 q) := by
  refine Met.ofW (cc := cX12_repeats) (maxL := 2) (ret := none) (by decide) rfl ?_
  intro p e s m args below meth c s₁ BL hml hv
  obtain ⟨rfl, hI, hKK⟩ := hv
  have hx := BL.exec
  have hb := BL.bytes
  have hr := BL.returns
  have hts : ∀ w ∈ gtb, w.before _ s = true := fun w hw => atoms_spec BL.pre w (List.mem_cons_of_mem _ hw)
  have hml : c.maxLocals = 2 := hml
  have hown : s.vm.findClass RX12 = some m.cls := findClass_of_methodNamed BL.named
  have hlocks := BL.notSynchronized
  have hk0 := hI.1.2.2.2.2
  have hl := lv_entry ([.ref (HB.size + 91)]) (n := 2) (Nat.le_of_ble_eq_true rfl)
  rw [lg_entry_eq]
  generalize (lg_sl ([.ref (HB.size + 91)]) ++ List.replicate (2 - (lg_sl ([.ref (HB.size + 91)])).length) Slot.unset).toArray = ls at hl ⊢
  have hl : lv_has ls 2 [(0, .ref (HB.size + 91))] := hl
  generalize hargs : ([.ref (HB.size + 91)] : List Value).toArray = args at *
  have b57 : ∀ (σ : St) (H : Heap) (locs : List Loc) (ls : Array Slot) (G27 : Grp) (G28 : Grp) (s1 : Int32) (s3 : Int32) , IV HB D y n n κ σ locs H → σ 27 = G27 → σ 28 = G28 → (∀ j, j ∉ W_X12_repeats → σ j = σ0 j) → lv_has ls 2 [(0, .ref (HB.size + 91))] → f_X12_repeats_b57 F  G27 G28 s1 s3 = some q → WX RM_X12_repeats p l e s m args below meth c HB none (B_X12_repeats HB D y n κ σ0 q) H locs (F0 m 57 ls [.int s3, .ref (HB.size + 91), .int s1, .ref (HB.size + 119)]) := by
    intro  σ H locs ls G27 G28 s1 s3 hI e27 e28 fr hl h
    unfold f_X12_repeats_b57 at h
    refine lv_iconst (v := 0) hx hb dX12_repeats_57 (by decide) ?_
    refine lv_aload_n hx hb dX12_repeats_58 rfl (lv_at hl 0 rfl) ?_
    refine gf_X12_92 hx hb hts hown hKK hI hN dX12_repeats_59 ?_
    refine lv_aload_n hx hb dX12_repeats_62 rfl (lv_at hl 0 rfl) ?_
    refine gt_X12_330 hx hb hts hown hKK hI e28 (lc91 hN) (kc91 hk0) dX12_repeats_63 ?_
    refine lv_iconst (v := 1) hx hb dX12_repeats_66 (by decide) ?_
    refine lv_isub hx hb dX12_repeats_67 ?_
    obtain ⟨hin_, h⟩ := ck_e h
    refine la_51 hx hb hKK hI e28 (lc119 hN) (kc119 hk0) hin_ dX12_repeats_68 ?_
    refine lv_iconst (v := (-1)) hx hb dX12_repeats_69 (by decide) ?_
    obtain ⟨q_70, hq_70, h⟩ := ob_e h
    refine r_callV (As := [.int s3, .int 0, .int (G28.1 119 ((G28.1 91 41) - 1).toNatClampNeg), .int (-1)]) (rest := [.int s1, .ref (HB.size + 119)]) hx hb hml hts hown (c_X12_part l HB D y F n κ σ hN s3 0 (G28.1 119 ((G28.1 91 41) - 1).toNatClampNeg) (-1) G28 e28 q_70 hq_70) cal_X12_part im_X12_part se_X12_part lm_X12_333 ⟨Nat.le_of_ble_eq_true rfl, Nat.le_of_ble_eq_true rfl⟩ hI.nil hKK (r_recv hKK hI (hE12 HB.size y) rfl (lc91 hN) (kc91 hk0)) rfl hl.1 hI.2.2 rfl (Nat.le_of_ble_eq_true rfl) dX12_repeats_70 ⟨Nat.le_of_ble_eq_true rfl, Nat.le_of_ble_eq_true rfl⟩ rfl rfl rfl (fun H locs hB hlo => ?_)
    obtain ⟨σ, hB, en28, ho⟩ := hB
    have hI := hB.re hlo
    have e28 := en28
    have e27 := (ho 27 (ni rfl)).trans e27
    have fr := frc fr ho (by decide)
    obtain ⟨hin_, h⟩ := ck_e h
    obtain ⟨G28_73, qq, h⟩ := bn_e h
    refine sa_51 hx hb hKK hI e28 (lc119 hN) (kc119 hk0) hin_ dX12_repeats_73 (fun σ H locs hI ew ho => ?_)
    have e28 := ew.trans qq.symm
    have e27 := (ho 27 (nn rfl)).trans e27
    have fr := frs fr ho (by decide)
    refine lv_aload_n hx hb dX12_repeats_74 rfl (lv_at hl 0 rfl) ?_
    refine lv_aload_n hx hb dX12_repeats_75 rfl (lv_at hl 0 rfl) ?_
    refine gt_X12_318 hx hb hts hown hKK hI e28 (lc91 hN) (kc91 hk0) dX12_repeats_76 ?_
    refine lv_iconst (v := 1) hx hb dX12_repeats_79 (by decide) ?_
    refine lv_iadd hx hb dX12_repeats_80 ?_
    obtain ⟨G28_81, qq, h⟩ := bn_e h
    refine pt_X12_318 hx hb hts hown hKK hI e28 (lc91 hN) (kc91 hk0) dX12_repeats_81 (fun σ H locs hI ew ho => ?_)
    have e28 := ew.trans qq.symm
    have e27 := (ho 27 (nn rfl)).trans e27
    have fr := frs fr ho (by decide)
    have hq := Option.some.inj h
    exact W.vret hx hb hr (fun t ht hW => qc_mk (rfl) (by rw [ht]; exact ⟨σ, hI.nil, e28.trans (congrArg (fun z => z) hq), fr⟩)) hI.2.2 dX12_repeats_84 hlocks
  have b24 : ∀ (σ : St) (H : Heap) (locs : List Loc) (ls : Array Slot) (G27 : Grp) (G28 : Grp) (v1 : Int32) , IV HB D y n n κ σ locs H → σ 27 = G27 → σ 28 = G28 → (∀ j, j ∉ W_X12_repeats → σ j = σ0 j) → lv_has ls 2 [(0, .ref (HB.size + 91)), (1, .int v1)] → f_X12_repeats_b24 F  G27 G28 v1 = some q → WX RM_X12_repeats p l e s m args below meth c HB none (B_X12_repeats HB D y n κ σ0 q) H locs (F0 m 24 ls []) := by
    intro  σ H locs ls G27 G28 v1 hI e27 e28 fr hl h
    unfold f_X12_repeats_b24 at h
    refine lv_aload_n hx hb dX12_repeats_24 rfl (lv_at hl 0 rfl) ?_
    refine gf_X12_92 hx hb hts hown hKK hI hN dX12_repeats_25 ?_
    refine lv_aload_n hx hb dX12_repeats_28 rfl (lv_at hl 0 rfl) ?_
    refine gt_X12_330 hx hb hts hown hKK hI e28 (lc91 hN) (kc91 hk0) dX12_repeats_29 ?_
    refine lv_iconst (v := 1) hx hb dX12_repeats_32 (by decide) ?_
    refine lv_isub hx hb dX12_repeats_33 ?_
    refine lv_aload_n hx hb dX12_repeats_34 rfl (lv_at hl 0 rfl) ?_
    refine lv_iload_n hx hb dX12_repeats_35 rfl (lv_at hl 1 rfl) ?_
    refine lv_bipush (v := 42) hx hb dX12_repeats_36 (by decide) ?_
    refine lv_icmp_ne (tgt := 45) hx hb dX12_repeats_38 (by decide) (fun hc => ?_) (fun hc => ?_)
    · replace h := ite_f hc h
      refine lv_iload_n hx hb dX12_repeats_45 rfl (lv_at hl 1 rfl) ?_
      refine lv_bipush (v := 43) hx hb dX12_repeats_46 (by decide) ?_
      refine lv_icmp_ne (tgt := 55) hx hb dX12_repeats_48 (by decide) (fun hc => ?_) (fun hc => ?_)
      · replace h := ite_f hc h
        refine lv_bipush (v := 6) hx hb dX12_repeats_55 (by decide) ?_
        exact b57  σ H locs ls G27 G28 ((G28.1 91 41) - 1) 6  hI e27 e28 fr (lv_sub hl [0] rfl) h
      · replace h := ite_t hc h
        refine lv_iconst (v := 5) hx hb dX12_repeats_51 (by decide) ?_
        refine lv_goto (tgt := 57) hx hb dX12_repeats_52 (by decide) ?_
        exact b57  σ H locs ls G27 G28 ((G28.1 91 41) - 1) 5  hI e27 e28 fr (lv_sub hl [0] rfl) h
    · replace h := ite_t hc h
      refine lv_iconst (v := 4) hx hb dX12_repeats_41 (by decide) ?_
      refine lv_goto (tgt := 57) hx hb dX12_repeats_42 (by decide) ?_
      exact b57  σ H locs ls G27 G28 ((G28.1 91 41) - 1) 4  hI e27 e28 fr (lv_sub hl [0] rfl) h
  obtain ⟨σ, hI, e27, e28, fr⟩ : ∃ σ : St, IV HB D y n n κ σ [] s.heap ∧ σ 27 = G27 ∧ σ 28 = G28 ∧ ∀ j, j ∉ W_X12_repeats → σ j = σ0 j := ⟨σ0, hI, e27, e28, fun _ _ => rfl⟩
  show WX RM_X12_repeats p l e s m args below meth c HB none (B_X12_repeats HB D y n κ σ0 q) s.heap [] (F0 m 0 ls [])
  generalize s.heap = H at hI ⊢
  unfold f_X12_repeats at h
  obtain ⟨locs, hlocs⟩ : ∃ x : List Loc, x = [] := ⟨_, rfl⟩
  rw [← hlocs] at hI ⊢
  refine lv_aload_n hx hb dX12_repeats_0 rfl (lv_at hl 0 rfl) ?_
  obtain ⟨q_1, hq_1, h⟩ := ob_e h
  refine r_callV (As := []) (rest := []) hx hb hml hts hown (c_X12_sign l HB D y F n κ σ hN  G27 e27 G28 e28 q_1 hq_1) cal_X12_sign im_X12_sign se_X12_sign lm_X12_349 ⟨Nat.le_of_ble_eq_true rfl, Nat.le_of_ble_eq_true rfl⟩ hI.nil hKK (r_recv hKK hI (hE12 HB.size y) rfl (lc91 hN) (kc91 hk0)) rfl hl.1 hI.2.2 rfl (Nat.le_of_ble_eq_true rfl) dX12_repeats_1 ⟨Nat.le_of_ble_eq_true rfl, Nat.le_of_ble_eq_true rfl⟩ rfl rfl rfl (fun H locs hB hlo => ?_)
  have hI := hB.re hlo
  refine lv_istore_n (lv' := [(1, .int q_1), (0, .ref (HB.size + 91))]) hx hb dX12_repeats_4 rfl hl (by decide) rfl (fun ls hl => ?_)
  refine lv_iload_n hx hb dX12_repeats_5 rfl (lv_at hl 0 rfl) ?_
  refine lv_bipush (v := 42) hx hb dX12_repeats_6 (by decide) ?_
  refine lv_icmp_eq (tgt := 24) hx hb dX12_repeats_8 (by decide) (fun hc => ?_) (fun hc => ?_)
  · replace h := ite_t hc h
    exact b24  σ H locs ls G27 G28 q_1  hI e27 e28 fr (lv_sub hl [1, 0] rfl) h
  · replace h := ite_f hc h
    refine lv_iload_n hx hb dX12_repeats_11 rfl (lv_at hl 0 rfl) ?_
    refine lv_bipush (v := 43) hx hb dX12_repeats_12 (by decide) ?_
    refine lv_icmp_eq (tgt := 24) hx hb dX12_repeats_14 (by decide) (fun hc => ?_) (fun hc => ?_)
    · replace h := ite_t hc h
      exact b24  σ H locs ls G27 G28 q_1  hI e27 e28 fr (lv_sub hl [1, 0] rfl) h
    · replace h := ite_f hc h
      refine lv_iload_n hx hb dX12_repeats_17 rfl (lv_at hl 0 rfl) ?_
      refine lv_bipush (v := 63) hx hb dX12_repeats_18 (by decide) ?_
      refine lv_icmp_eq (tgt := 24) hx hb dX12_repeats_20 (by decide) (fun hc => ?_) (fun hc => ?_)
      · replace h := ite_t hc h
        exact b24  σ H locs ls G27 G28 q_1  hI e27 e28 fr (lv_sub hl [1, 0] rfl) h
      · replace h := ite_f hc h
        have hq := Option.some.inj h
        exact W.vret hx hb hr (fun t ht hW => qc_mk (rfl) (by rw [ht]; exact ⟨σ, hI.nil, e28.trans (congrArg (fun z => z) hq), fr⟩)) hI.2.2 dX12_repeats_23 hlocks
