noncomputable def f_X12_reads_b87 (F : Nat)  (G23 : Grp) (G24 : Grp) (G25 : Grp) (G26 : Grp) (G29 : Grp) (G30 : Grp) (G32 : Grp) (G33 : Grp) (G36 : Grp) (v1 : Int32) : Option (Grp × Grp × Grp × Grp) :=
  ob (f_X12_moves F G23 G32 v1 3) (fun q_90 => some (G25, G30, q_90, G36))
noncomputable def f_X12_reads (F : Nat) (G23 : Grp) (G24 : Grp) (G25 : Grp) (G26 : Grp) (G29 : Grp) (G30 : Grp) (G32 : Grp) (G33 : Grp) (G36 : Grp) (v1 : Int32) : Option (Grp × Grp × Grp × Grp) :=
  ck v1 200 (bn ((G32.1 132 v1.toNatClampNeg)) (fun v2_6 => ob (f_X12_isOpen F G25 v2_6) (fun q_9 => if q_9 = 0 then ob (f_X12_moves F G23 G32 v1 7) (fun q_19 => some (G25, G30, q_19, G36)) else ob (f_X12_looksAt F G29 G30 G32 v1) (fun q_25 => ob (f_X12_hasFind F G29 q_25 114) (fun q_31 => if q_31 = 0 then ob (f_X12_hasFind F G29 q_25 104) (fun q_50 => if q_50 = 0 then ob (f_X12_isUnlike F G25 G26 G32 G33 G36 v1) (fun q_58 => if q_58 = 0 then ck v2_6 40 (ob (f_X12_hintsFound F G29 q_25) (fun q_71 => ob (f_X12_bits F ((G25.1 103 v2_6.toNatClampNeg) ||| q_71)) (fun q_75 => ck 3 8 (if q_75 < (G26.1 105 (3 : Int32).toNatClampNeg) then ob (f_X12_passes F G23 G24 G25 G29 q_25 G32 G33 G36 v1) (fun q_98 => some (q_98.1, q_25, q_98.2.1, q_98.2.2)) else f_X12_reads_b87 F  G23 G24 G25 G26 G29 q_25 G32 G33 G36 v1)))) else f_X12_reads_b87 F  G23 G24 G25 G26 G29 q_25 G32 G33 G36 v1) else f_X12_reads_b87 F  G23 G24 G25 G26 G29 q_25 G32 G33 G36 v1) else ob (f_X12_moves F G23 G32 v1 7) (fun q_41 => some (G25, q_25, q_41, G36)))))))
def RM_X12_reads : Room := { frames := 5, cells := 0, slots := 0, locals := 120 }
abbrev W_X12_reads : List Nat := [25, 30, 32, 36]
abbrev B_X12_reads (HB : Heap) (D : va_G) (y : Nat → ClassId) (n : Nat) (κ : Nat → Nat) (σ0 : St) (q : Grp × Grp × Grp × Grp) : Heap → Prop := fun H => ∃ σ : St, IV HB D y n n κ σ [] H ∧ σ 25 = q.1 ∧ σ 30 = q.2.1 ∧ σ 32 = q.2.2.1 ∧ σ 36 = q.2.2.2 ∧ ∀ j, j ∉ W_X12_reads → σ j = σ0 j
set_option maxRecDepth 100000 in
set_option maxHeartbeats 4000000 in
theorem c_X12_reads (l : Launch) (HB : Heap) (D : va_G) (y : Nat → ClassId) (F n : Nat) (κ : Nat → Nat) (σ0 : St) (hN : N0 ≤ n) (v1 : Int32)  (G23 : Grp) (e23 : σ0 23 = G23) (G24 : Grp) (e24 : σ0 24 = G24) (G25 : Grp) (e25 : σ0 25 = G25) (G26 : Grp) (e26 : σ0 26 = G26) (G29 : Grp) (e29 : σ0 29 = G29) (G30 : Grp) (e30 : σ0 30 = G30) (G32 : Grp) (e32 : σ0 32 = G32) (G33 : Grp) (e33 : σ0 33 = G33) (G36 : Grp) (e36 : σ0 36 = G36) (q : Grp × Grp × Grp × Grp) (h : f_X12_reads F G23 G24 G25 G26 G29 G30 G32 G33 G36 v1 = some q) : MT l HB D y yX12_reads cX12_reads 3 none RM_X12_reads [.ref (HB.size + 91), .int v1] (IV HB D y n n κ σ0 []) none (B_X12_reads HB D y n κ σ0 q) := by
  refine Met.ofW (cc := cX12_reads) (maxL := 3) (ret := none) (by decide) rfl ?_
  intro p e s m args below meth c s₁ BL hml hv
  obtain ⟨rfl, hI, hKK⟩ := hv
  have hx := BL.exec
  have hb := BL.bytes
  have hr := BL.returns
  have hts : ∀ w ∈ gtb, w.before _ s = true := fun w hw => atoms_spec BL.pre w (List.mem_cons_of_mem _ hw)
  have hml : c.maxLocals = 3 := hml
  have hown : s.vm.findClass RX12 = some m.cls := findClass_of_methodNamed BL.named
  have hlocks := BL.notSynchronized
  have hk0 := hI.1.2.2.2.2
  have hl := lv_entry ([.ref (HB.size + 91), .int v1]) (n := 3) (Nat.le_of_ble_eq_true rfl)
  rw [lg_entry_eq]
  generalize (lg_sl ([.ref (HB.size + 91), .int v1]) ++ List.replicate (3 - (lg_sl ([.ref (HB.size + 91), .int v1])).length) Slot.unset).toArray = ls at hl ⊢
  have hl : lv_has ls 3 [(0, .ref (HB.size + 91)), (1, .int v1)] := hl
  generalize hargs : ([.ref (HB.size + 91), .int v1] : List Value).toArray = args at *
  have b87 : ∀ (σ : St) (H : Heap) (locs : List Loc) (ls : Array Slot) (G23 : Grp) (G24 : Grp) (G25 : Grp) (G26 : Grp) (G29 : Grp) (G30 : Grp) (G32 : Grp) (G33 : Grp) (G36 : Grp) (v1 : Int32) , IV HB D y n n κ σ locs H → σ 23 = G23 → σ 24 = G24 → σ 25 = G25 → σ 26 = G26 → σ 29 = G29 → σ 30 = G30 → σ 32 = G32 → σ 33 = G33 → σ 36 = G36 → (∀ j, j ∉ W_X12_reads → σ j = σ0 j) → lv_has ls 3 [(0, .ref (HB.size + 91)), (1, .int v1)] → f_X12_reads_b87 F  G23 G24 G25 G26 G29 G30 G32 G33 G36 v1 = some q → WX RM_X12_reads p l e s m args below meth c HB none (B_X12_reads HB D y n κ σ0 q) H locs (F0 m 87 ls []) := by
    intro  σ H locs ls G23 G24 G25 G26 G29 G30 G32 G33 G36 v1 hI e23 e24 e25 e26 e29 e30 e32 e33 e36 fr hl h
    unfold f_X12_reads_b87 at h
    refine lv_aload_n hx hb dX12_reads_87 rfl (lv_at hl 0 rfl) ?_
    refine lv_iload_n hx hb dX12_reads_88 rfl (lv_at hl 1 rfl) ?_
    refine lv_iconst (v := 3) hx hb dX12_reads_89 (by decide) ?_
    obtain ⟨q_90, hq_90, h⟩ := ob_e h
    refine r_callV (As := [.int v1, .int 3]) (rest := []) hx hb hml hts hown (c_X12_moves l HB D y F n κ σ hN v1 3 G23 e23 G32 e32 q_90 hq_90) cal_X12_moves im_X12_moves se_X12_moves lm_X12_455 ⟨Nat.le_of_ble_eq_true rfl, Nat.le_of_ble_eq_true rfl⟩ hI.nil hKK (r_recv hKK hI (hE12 HB.size y) rfl (lc91 hN) (kc91 hk0)) rfl hl.1 hI.2.2 rfl (Nat.le_of_ble_eq_true rfl) dX12_reads_90 ⟨Nat.le_of_ble_eq_true rfl, Nat.le_of_ble_eq_true rfl⟩ rfl rfl rfl (fun H locs hB hlo => ?_)
    obtain ⟨σ, hB, en32, ho⟩ := hB
    have hI := hB.re hlo
    have e32 := en32
    have e23 := (ho 23 (ni rfl)).trans e23
    have e24 := (ho 24 (ni rfl)).trans e24
    have e25 := (ho 25 (ni rfl)).trans e25
    have e26 := (ho 26 (ni rfl)).trans e26
    have e29 := (ho 29 (ni rfl)).trans e29
    have e30 := (ho 30 (ni rfl)).trans e30
    have e33 := (ho 33 (ni rfl)).trans e33
    have e36 := (ho 36 (ni rfl)).trans e36
    have fr := frc fr ho (by decide)
    refine lv_goto (tgt := 101) hx hb dX12_reads_93 (by decide) ?_
    have hq := Option.some.inj h
    exact W.vret hx hb hr (fun t ht hW => qc_mk (rfl) (by rw [ht]; exact ⟨σ, hI.nil, e25.trans (congrArg (fun z => z.1) hq), e30.trans (congrArg (fun z => z.2.1) hq), e32.trans (congrArg (fun z => z.2.2.1) hq), e36.trans (congrArg (fun z => z.2.2.2) hq), fr⟩)) hI.2.2 dX12_reads_101 hlocks
  obtain ⟨σ, hI, e23, e24, e25, e26, e29, e30, e32, e33, e36, fr⟩ : ∃ σ : St, IV HB D y n n κ σ [] s.heap ∧ σ 23 = G23 ∧ σ 24 = G24 ∧ σ 25 = G25 ∧ σ 26 = G26 ∧ σ 29 = G29 ∧ σ 30 = G30 ∧ σ 32 = G32 ∧ σ 33 = G33 ∧ σ 36 = G36 ∧ ∀ j, j ∉ W_X12_reads → σ j = σ0 j := ⟨σ0, hI, e23, e24, e25, e26, e29, e30, e32, e33, e36, fun _ _ => rfl⟩
  show WX RM_X12_reads p l e s m args below meth c HB none (B_X12_reads HB D y n κ σ0 q) s.heap [] (F0 m 0 ls [])
  generalize s.heap = H at hI ⊢
  unfold f_X12_reads at h
  obtain ⟨locs, hlocs⟩ : ∃ x : List Loc, x = [] := ⟨_, rfl⟩
  rw [← hlocs] at hI ⊢
  refine lv_aload_n hx hb dX12_reads_0 rfl (lv_at hl 0 rfl) ?_
  refine gf_X12_133 hx hb hts hown hKK hI hN dX12_reads_1 ?_
  refine lv_iload_n hx hb dX12_reads_4 rfl (lv_at hl 1 rfl) ?_
  obtain ⟨hin_, h⟩ := ck_e h
  refine la_57 hx hb hKK hI e32 (lc132 hN) (kc132 hk0) hin_ dX12_reads_5 ?_
  obtain ⟨v2_6, qq, h⟩ := bn_e h
  refine topi qq ?_
  refine lv_istore_n (lv' := [(2, .int v2_6), (0, .ref (HB.size + 91)), (1, .int v1)]) hx hb dX12_reads_6 rfl hl (by decide) rfl (fun ls hl => ?_)
  refine lv_aload_n hx hb dX12_reads_7 rfl (lv_at hl 1 rfl) ?_
  refine lv_iload_n hx hb dX12_reads_8 rfl (lv_at hl 0 rfl) ?_
  obtain ⟨q_9, hq_9, h⟩ := ob_e h
  refine r_callV (As := [.int v2_6]) (rest := []) hx hb hml hts hown (c_X12_isOpen l HB D y F n κ σ hN v2_6 G25 e25 q_9 hq_9) cal_X12_isOpen im_X12_isOpen se_X12_isOpen lm_X12_277 ⟨Nat.le_of_ble_eq_true rfl, Nat.le_of_ble_eq_true rfl⟩ hI.nil hKK (r_recv hKK hI (hE12 HB.size y) rfl (lc91 hN) (kc91 hk0)) rfl hl.1 hI.2.2 rfl (Nat.le_of_ble_eq_true rfl) dX12_reads_9 ⟨Nat.le_of_ble_eq_true rfl, Nat.le_of_ble_eq_true rfl⟩ rfl rfl rfl (fun H locs hB hlo => ?_)
  have hI := hB.re hlo
  refine lv_if_ne (tgt := 23) hx hb dX12_reads_12 (by decide) (fun hc => ?_) (fun hc => ?_)
  · replace h := ite_f hc h
    refine lv_aload_n hx hb dX12_reads_23 rfl (lv_at hl 1 rfl) ?_
    refine lv_iload_n hx hb dX12_reads_24 rfl (lv_at hl 2 rfl) ?_
    obtain ⟨q_25, hq_25, h⟩ := ob_e h
    refine r_callV (As := [.int v1]) (rest := []) hx hb hml hts hown (c_X12_looksAt l HB D y F n κ σ hN v1 G29 e29 G30 e30 G32 e32 q_25 hq_25) cal_X12_looksAt im_X12_looksAt se_X12_looksAt lm_X12_458 ⟨Nat.le_of_ble_eq_true rfl, Nat.le_of_ble_eq_true rfl⟩ hI.nil hKK (r_recv hKK hI (hE12 HB.size y) rfl (lc91 hN) (kc91 hk0)) rfl hl.1 hI.2.2 rfl (Nat.le_of_ble_eq_true rfl) dX12_reads_25 ⟨Nat.le_of_ble_eq_true rfl, Nat.le_of_ble_eq_true rfl⟩ rfl rfl rfl (fun H locs hB hlo => ?_)
    obtain ⟨σ, hB, en30, ho⟩ := hB
    have hI := hB.re hlo
    have e30 := en30
    have e23 := (ho 23 (ni rfl)).trans e23
    have e24 := (ho 24 (ni rfl)).trans e24
    have e25 := (ho 25 (ni rfl)).trans e25
    have e26 := (ho 26 (ni rfl)).trans e26
    have e29 := (ho 29 (ni rfl)).trans e29
    have e32 := (ho 32 (ni rfl)).trans e32
    have e33 := (ho 33 (ni rfl)).trans e33
    have e36 := (ho 36 (ni rfl)).trans e36
    have fr := frc fr ho (by decide)
    refine lv_aload_n hx hb dX12_reads_28 rfl (lv_at hl 1 rfl) ?_
    refine lv_bipush (v := 114) hx hb dX12_reads_29 (by decide) ?_
    obtain ⟨q_31, hq_31, h⟩ := ob_e h
    refine r_callV (As := [.int 114]) (rest := []) hx hb hml hts hown (c_X12_hasFind l HB D y F n κ σ hN 114 G29 e29 q_25 e30 q_31 hq_31) cal_X12_hasFind im_X12_hasFind se_X12_hasFind lm_X12_461 ⟨Nat.le_of_ble_eq_true rfl, Nat.le_of_ble_eq_true rfl⟩ hI.nil hKK (r_recv hKK hI (hE12 HB.size y) rfl (lc91 hN) (kc91 hk0)) rfl hl.1 hI.2.2 rfl (Nat.le_of_ble_eq_true rfl) dX12_reads_31 ⟨Nat.le_of_ble_eq_true rfl, Nat.le_of_ble_eq_true rfl⟩ rfl rfl rfl (fun H locs hB hlo => ?_)
    have hI := hB.re hlo
    refine lv_if_eq (tgt := 47) hx hb dX12_reads_34 (by decide) (fun hc => ?_) (fun hc => ?_)
    · replace h := ite_t hc h
      refine lv_aload_n hx hb dX12_reads_47 rfl (lv_at hl 1 rfl) ?_
      refine lv_bipush (v := 104) hx hb dX12_reads_48 (by decide) ?_
      obtain ⟨q_50, hq_50, h⟩ := ob_e h
      refine r_callV (As := [.int 104]) (rest := []) hx hb hml hts hown (c_X12_hasFind l HB D y F n κ σ hN 104 G29 e29 q_25 e30 q_50 hq_50) cal_X12_hasFind im_X12_hasFind se_X12_hasFind lm_X12_461 ⟨Nat.le_of_ble_eq_true rfl, Nat.le_of_ble_eq_true rfl⟩ hI.nil hKK (r_recv hKK hI (hE12 HB.size y) rfl (lc91 hN) (kc91 hk0)) rfl hl.1 hI.2.2 rfl (Nat.le_of_ble_eq_true rfl) dX12_reads_50 ⟨Nat.le_of_ble_eq_true rfl, Nat.le_of_ble_eq_true rfl⟩ rfl rfl rfl (fun H locs hB hlo => ?_)
      have hI := hB.re hlo
      refine lv_if_ne (tgt := 87) hx hb dX12_reads_53 (by decide) (fun hc => ?_) (fun hc => ?_)
      · replace h := ite_f hc h
        exact b87  σ H locs ls G23 G24 G25 G26 G29 q_25 G32 G33 G36 v1  hI e23 e24 e25 e26 e29 e30 e32 e33 e36 fr (lv_sub hl [1, 2] rfl) h
      · replace h := ite_t hc h
        refine lv_aload_n hx hb dX12_reads_56 rfl (lv_at hl 1 rfl) ?_
        refine lv_iload_n hx hb dX12_reads_57 rfl (lv_at hl 2 rfl) ?_
        obtain ⟨q_58, hq_58, h⟩ := ob_e h
        refine r_callV (As := [.int v1]) (rest := []) hx hb hml hts hown (c_X12_isUnlike l HB D y F n κ σ hN v1 G25 e25 G26 e26 G32 e32 G33 e33 G36 e36 q_58 hq_58) cal_X12_isUnlike im_X12_isUnlike se_X12_isUnlike lm_X12_443 ⟨Nat.le_of_ble_eq_true rfl, Nat.le_of_ble_eq_true rfl⟩ hI.nil hKK (r_recv hKK hI (hE12 HB.size y) rfl (lc91 hN) (kc91 hk0)) rfl hl.1 hI.2.2 rfl (Nat.le_of_ble_eq_true rfl) dX12_reads_58 ⟨Nat.le_of_ble_eq_true rfl, Nat.le_of_ble_eq_true rfl⟩ rfl rfl rfl (fun H locs hB hlo => ?_)
        have hI := hB.re hlo
        refine lv_if_ne (tgt := 87) hx hb dX12_reads_61 (by decide) (fun hc => ?_) (fun hc => ?_)
        · replace h := ite_f hc h
          exact b87  σ H locs ls G23 G24 G25 G26 G29 q_25 G32 G33 G36 v1  hI e23 e24 e25 e26 e29 e30 e32 e33 e36 fr (lv_sub hl [1, 2] rfl) h
        · replace h := ite_t hc h
          refine lv_aload_n hx hb dX12_reads_64 rfl (lv_at hl 1 rfl) ?_
          refine gf_X12_43 hx hb hts hown hKK hI hN dX12_reads_65 ?_
          refine lv_iload_n hx hb dX12_reads_68 rfl (lv_at hl 0 rfl) ?_
          obtain ⟨hin_, h⟩ := ck_e h
          refine la_44 hx hb hKK hI e25 (lc103 hN) (kc103 hk0) hin_ dX12_reads_69 ?_
          refine lv_aload_n hx hb dX12_reads_70 rfl (lv_at hl 1 rfl) ?_
          obtain ⟨q_71, hq_71, h⟩ := ob_e h
          refine r_callV (As := []) (rest := [.int (G25.1 103 v2_6.toNatClampNeg)]) hx hb hml hts hown (c_X12_hintsFound l HB D y F n κ σ hN  G29 e29 q_25 e30 q_71 hq_71) cal_X12_hintsFound im_X12_hintsFound se_X12_hintsFound lm_X12_446 ⟨Nat.le_of_ble_eq_true rfl, Nat.le_of_ble_eq_true rfl⟩ hI.nil hKK (r_recv hKK hI (hE12 HB.size y) rfl (lc91 hN) (kc91 hk0)) rfl hl.1 hI.2.2 rfl (Nat.le_of_ble_eq_true rfl) dX12_reads_71 ⟨Nat.le_of_ble_eq_true rfl, Nat.le_of_ble_eq_true rfl⟩ rfl rfl rfl (fun H locs hB hlo => ?_)
          have hI := hB.re hlo
          refine lv_ior hx hb dX12_reads_74 ?_
          obtain ⟨q_75, hq_75, h⟩ := ob_e h
          refine r_callS (As := [.int ((G25.1 103 v2_6.toNatClampNeg) ||| q_71)]) (rest := []) hx hb hml hts hown (c_X12_bits l HB D y F n κ σ hN ((G25.1 103 v2_6.toNatClampNeg) ||| q_71)  q_75 hq_75) cal_X12_bits st_X12_bits lm_X12_464 ⟨Nat.le_of_ble_eq_true rfl, Nat.le_of_ble_eq_true rfl⟩ hI.nil hKK rfl hl.1 hI.2.2 rfl (Nat.le_of_ble_eq_true rfl) dX12_reads_75 ⟨Nat.le_of_ble_eq_true rfl, Nat.le_of_ble_eq_true rfl⟩ rfl rfl rfl (fun H locs hB hlo => ?_)
          have hI := hB.re hlo
          refine lv_aload_n hx hb dX12_reads_78 rfl (lv_at hl 1 rfl) ?_
          refine gf_X12_49 hx hb hts hown hKK hI hN dX12_reads_79 ?_
          refine lv_iconst (v := 3) hx hb dX12_reads_82 (by decide) ?_
          obtain ⟨hin_, h⟩ := ck_e h
          refine la_45 hx hb hKK hI e26 (lc105 hN) (kc105 hk0) hin_ dX12_reads_83 ?_
          refine lv_icmp_lt (tgt := 96) hx hb dX12_reads_84 (by decide) (fun hc => ?_) (fun hc => ?_)
          · replace h := ite_t hc h
            refine lv_aload_n hx hb dX12_reads_96 rfl (lv_at hl 1 rfl) ?_
            refine lv_iload_n hx hb dX12_reads_97 rfl (lv_at hl 2 rfl) ?_
            obtain ⟨q_98, hq_98, h⟩ := ob_e h
            refine r_callV (As := [.int v1]) (rest := []) hx hb hml hts hown (c_X12_passes l HB D y F n κ σ hN v1 G23 e23 G24 e24 G25 e25 G29 e29 q_25 e30 G32 e32 G33 e33 G36 e36 q_98 hq_98) cal_X12_passes im_X12_passes se_X12_passes lm_X12_467 ⟨Nat.le_of_ble_eq_true rfl, Nat.le_of_ble_eq_true rfl⟩ hI.nil hKK (r_recv hKK hI (hE12 HB.size y) rfl (lc91 hN) (kc91 hk0)) rfl hl.1 hI.2.2 rfl (Nat.le_of_ble_eq_true rfl) dX12_reads_98 ⟨Nat.le_of_ble_eq_true rfl, Nat.le_of_ble_eq_true rfl⟩ rfl rfl rfl (fun H locs hB hlo => ?_)
            obtain ⟨σ, hB, en25, en32, en36, ho⟩ := hB
            have hI := hB.re hlo
            have e25 := en25
            have e32 := en32
            have e36 := en36
            have e23 := (ho 23 (ni rfl)).trans e23
            have e24 := (ho 24 (ni rfl)).trans e24
            have e26 := (ho 26 (ni rfl)).trans e26
            have e29 := (ho 29 (ni rfl)).trans e29
            have e30 := (ho 30 (ni rfl)).trans e30
            have e33 := (ho 33 (ni rfl)).trans e33
            have fr := frc fr ho (by decide)
            have hq := Option.some.inj h
            exact W.vret hx hb hr (fun t ht hW => qc_mk (rfl) (by rw [ht]; exact ⟨σ, hI.nil, e25.trans (congrArg (fun z => z.1) hq), e30.trans (congrArg (fun z => z.2.1) hq), e32.trans (congrArg (fun z => z.2.2.1) hq), e36.trans (congrArg (fun z => z.2.2.2) hq), fr⟩)) hI.2.2 dX12_reads_101 hlocks
          · replace h := ite_f hc h
            exact b87  σ H locs ls G23 G24 G25 G26 G29 q_25 G32 G33 G36 v1  hI e23 e24 e25 e26 e29 e30 e32 e33 e36 fr (lv_sub hl [1, 2] rfl) h
    · replace h := ite_f hc h
      refine lv_aload_n hx hb dX12_reads_37 rfl (lv_at hl 1 rfl) ?_
      refine lv_iload_n hx hb dX12_reads_38 rfl (lv_at hl 2 rfl) ?_
      refine lv_bipush (v := 7) hx hb dX12_reads_39 (by decide) ?_
      obtain ⟨q_41, hq_41, h⟩ := ob_e h
      refine r_callV (As := [.int v1, .int 7]) (rest := []) hx hb hml hts hown (c_X12_moves l HB D y F n κ σ hN v1 7 G23 e23 G32 e32 q_41 hq_41) cal_X12_moves im_X12_moves se_X12_moves lm_X12_455 ⟨Nat.le_of_ble_eq_true rfl, Nat.le_of_ble_eq_true rfl⟩ hI.nil hKK (r_recv hKK hI (hE12 HB.size y) rfl (lc91 hN) (kc91 hk0)) rfl hl.1 hI.2.2 rfl (Nat.le_of_ble_eq_true rfl) dX12_reads_41 ⟨Nat.le_of_ble_eq_true rfl, Nat.le_of_ble_eq_true rfl⟩ rfl rfl rfl (fun H locs hB hlo => ?_)
      obtain ⟨σ, hB, en32, ho⟩ := hB
      have hI := hB.re hlo
      have e32 := en32
      have e23 := (ho 23 (ni rfl)).trans e23
      have e24 := (ho 24 (ni rfl)).trans e24
      have e25 := (ho 25 (ni rfl)).trans e25
      have e26 := (ho 26 (ni rfl)).trans e26
      have e29 := (ho 29 (ni rfl)).trans e29
      have e30 := (ho 30 (ni rfl)).trans e30
      have e33 := (ho 33 (ni rfl)).trans e33
      have e36 := (ho 36 (ni rfl)).trans e36
      have fr := frc fr ho (by decide)
      refine lv_goto (tgt := 101) hx hb dX12_reads_44 (by decide) ?_
      have hq := Option.some.inj h
      exact W.vret hx hb hr (fun t ht hW => qc_mk (rfl) (by rw [ht]; exact ⟨σ, hI.nil, e25.trans (congrArg (fun z => z.1) hq), e30.trans (congrArg (fun z => z.2.1) hq), e32.trans (congrArg (fun z => z.2.2.1) hq), e36.trans (congrArg (fun z => z.2.2.2) hq), fr⟩)) hI.2.2 dX12_reads_101 hlocks
  · replace h := ite_t hc h
    refine lv_aload_n hx hb dX12_reads_15 rfl (lv_at hl 1 rfl) ?_
    refine lv_iload_n hx hb dX12_reads_16 rfl (lv_at hl 2 rfl) ?_
    refine lv_bipush (v := 7) hx hb dX12_reads_17 (by decide) ?_
    obtain ⟨q_19, hq_19, h⟩ := ob_e h
    refine r_callV (As := [.int v1, .int 7]) (rest := []) hx hb hml hts hown (c_X12_moves l HB D y F n κ σ hN v1 7 G23 e23 G32 e32 q_19 hq_19) cal_X12_moves im_X12_moves se_X12_moves lm_X12_455 ⟨Nat.le_of_ble_eq_true rfl, Nat.le_of_ble_eq_true rfl⟩ hI.nil hKK (r_recv hKK hI (hE12 HB.size y) rfl (lc91 hN) (kc91 hk0)) rfl hl.1 hI.2.2 rfl (Nat.le_of_ble_eq_true rfl) dX12_reads_19 ⟨Nat.le_of_ble_eq_true rfl, Nat.le_of_ble_eq_true rfl⟩ rfl rfl rfl (fun H locs hB hlo => ?_)
    obtain ⟨σ, hB, en32, ho⟩ := hB
    have hI := hB.re hlo
    have e32 := en32
    have e23 := (ho 23 (ni rfl)).trans e23
    have e24 := (ho 24 (ni rfl)).trans e24
    have e25 := (ho 25 (ni rfl)).trans e25
    have e26 := (ho 26 (ni rfl)).trans e26
    have e29 := (ho 29 (ni rfl)).trans e29
    have e30 := (ho 30 (ni rfl)).trans e30
    have e33 := (ho 33 (ni rfl)).trans e33
    have e36 := (ho 36 (ni rfl)).trans e36
    have fr := frc fr ho (by decide)
    have hq := Option.some.inj h
    exact W.vret hx hb hr (fun t ht hW => qc_mk (rfl) (by rw [ht]; exact ⟨σ, hI.nil, e25.trans (congrArg (fun z => z.1) hq), e30.trans (congrArg (fun z => z.2.1) hq), e32.trans (congrArg (fun z => z.2.2.1) hq), e36.trans (congrArg (fun z => z.2.2.2) hq), fr⟩)) hI.2.2 dX12_reads_22 hlocks
noncomputable def f_X12_decide (F : Nat) (G23 : Grp) (G24 : Grp) (G25 : Grp) (G29 : Grp) (G30 : Grp) (G32 : Grp) (G33 : Grp) (G36 : Grp) (v1 : Int32) (v2 : Int32) : Option (Int32 × Grp × Grp × Grp × Grp) :=
  ob (f_X12_isLetterThere F G32 v1) (fun q_2 => if q_2 = 0 then some (0, G25, G30, G32, G36) else ck v1 200 (if (G32.1 135 v1.toNatClampNeg) = 3 then if v2 = 0 then ob (f_X12_moves F G23 G32 v1 7) (fun q_41 => some (1, G25, G30, q_41, G36)) else ob (f_X12_looksAt F G29 G30 G32 v1) (fun q_26 => ob (f_X12_passes F G23 G24 G25 G29 q_26 G32 G33 G36 v1) (fun q_31 => some (1, q_31.1, q_26, q_31.2.1, q_31.2.2))) else some (0, G25, G30, G32, G36)))
def RM_X12_decide : Room := { frames := 5, cells := 0, slots := 0, locals := 120 }
abbrev W_X12_decide : List Nat := [25, 30, 32, 36]
abbrev B_X12_decide (HB : Heap) (D : va_G) (y : Nat → ClassId) (n : Nat) (κ : Nat → Nat) (σ0 : St) (q : Int32 × Grp × Grp × Grp × Grp) : Heap → Prop := fun H => ∃ σ : St, IV HB D y n n κ σ [] H ∧ σ 25 = q.2.1 ∧ σ 30 = q.2.2.1 ∧ σ 32 = q.2.2.2.1 ∧ σ 36 = q.2.2.2.2 ∧ ∀ j, j ∉ W_X12_decide → σ j = σ0 j
set_option maxRecDepth 100000 in
set_option maxHeartbeats 4000000 in
theorem c_X12_decide (l : Launch) (HB : Heap) (D : va_G) (y : Nat → ClassId) (F n : Nat) (κ : Nat → Nat) (σ0 : St) (hN : N0 ≤ n) (v1 : Int32)  (v2 : Int32)  (G23 : Grp) (e23 : σ0 23 = G23) (G24 : Grp) (e24 : σ0 24 = G24) (G25 : Grp) (e25 : σ0 25 = G25) (G29 : Grp) (e29 : σ0 29 = G29) (G30 : Grp) (e30 : σ0 30 = G30) (G32 : Grp) (e32 : σ0 32 = G32) (G33 : Grp) (e33 : σ0 33 = G33) (G36 : Grp) (e36 : σ0 36 = G36) (q : Int32 × Grp × Grp × Grp × Grp) (h : f_X12_decide F G23 G24 G25 G29 G30 G32 G33 G36 v1 v2 = some q) : MT l HB D y yX12_decide cX12_decide 3 (some .boolean) RM_X12_decide [.ref (HB.size + 91), .int v1, .int v2] (IV HB D y n n κ σ0 []) (some (.int q.1)) (B_X12_decide HB D y n κ σ0 q) := by
  refine Met.ofW (cc := cX12_decide) (maxL := 3) (ret := (some .boolean)) (by decide) rfl ?_
  intro p e s m args below meth c s₁ BL hml hv
  obtain ⟨rfl, hI, hKK⟩ := hv
  have hx := BL.exec
  have hb := BL.bytes
  have hr := BL.returns
  have hts : ∀ w ∈ gtb, w.before _ s = true := fun w hw => atoms_spec BL.pre w (List.mem_cons_of_mem _ hw)
  have hml : c.maxLocals = 3 := hml
  have hown : s.vm.findClass RX12 = some m.cls := findClass_of_methodNamed BL.named
  have hlocks := BL.notSynchronized
  have hk0 := hI.1.2.2.2.2
  have hl := lv_entry ([.ref (HB.size + 91), .int v1, .int v2]) (n := 3) (Nat.le_of_ble_eq_true rfl)
  rw [lg_entry_eq]
  generalize (lg_sl ([.ref (HB.size + 91), .int v1, .int v2]) ++ List.replicate (3 - (lg_sl ([.ref (HB.size + 91), .int v1, .int v2])).length) Slot.unset).toArray = ls at hl ⊢
  have hl : lv_has ls 3 [(0, .ref (HB.size + 91)), (1, .int v1), (2, .int v2)] := hl
  generalize hargs : ([.ref (HB.size + 91), .int v1, .int v2] : List Value).toArray = args at *
  obtain ⟨σ, hI, e23, e24, e25, e29, e30, e32, e33, e36, fr⟩ : ∃ σ : St, IV HB D y n n κ σ [] s.heap ∧ σ 23 = G23 ∧ σ 24 = G24 ∧ σ 25 = G25 ∧ σ 29 = G29 ∧ σ 30 = G30 ∧ σ 32 = G32 ∧ σ 33 = G33 ∧ σ 36 = G36 ∧ ∀ j, j ∉ W_X12_decide → σ j = σ0 j := ⟨σ0, hI, e23, e24, e25, e29, e30, e32, e33, e36, fun _ _ => rfl⟩
  show WX RM_X12_decide p l e s m args below meth c HB (some (.int q.1)) (B_X12_decide HB D y n κ σ0 q) s.heap [] (F0 m 0 ls [])
  generalize s.heap = H at hI ⊢
  unfold f_X12_decide at h
  obtain ⟨locs, hlocs⟩ : ∃ x : List Loc, x = [] := ⟨_, rfl⟩
  rw [← hlocs] at hI ⊢
  refine lv_aload_n hx hb dX12_decide_0 rfl (lv_at hl 0 rfl) ?_
  refine lv_iload_n hx hb dX12_decide_1 rfl (lv_at hl 1 rfl) ?_
  obtain ⟨q_2, hq_2, h⟩ := ob_e h
  refine r_callV (As := [.int v1]) (rest := []) hx hb hml hts hown (c_X12_isLetterThere l HB D y F n κ σ hN v1 G32 e32 q_2 hq_2) cal_X12_isLetterThere im_X12_isLetterThere se_X12_isLetterThere lm_X12_440 ⟨Nat.le_of_ble_eq_true rfl, Nat.le_of_ble_eq_true rfl⟩ hI.nil hKK (r_recv hKK hI (hE12 HB.size y) rfl (lc91 hN) (kc91 hk0)) rfl hl.1 hI.2.2 rfl (Nat.le_of_ble_eq_true rfl) dX12_decide_2 ⟨Nat.le_of_ble_eq_true rfl, Nat.le_of_ble_eq_true rfl⟩ rfl rfl rfl (fun H locs hB hlo => ?_)
  have hI := hB.re hlo
  refine lv_if_eq (tgt := 18) hx hb dX12_decide_5 (by decide) (fun hc => ?_) (fun hc => ?_)
  · replace h := ite_t hc h
    refine lv_iconst (v := 0) hx hb dX12_decide_18 (by decide) ?_
    have hq := Option.some.inj h
    exact W.zret (v := 0) (ty := .boolean) hx hb hr rfl (fun t ht hW => qc_mk (congrArg (fun z => Outcome.returned (some (Value.int z.1))) hq) (by rw [ht]; exact ⟨σ, hI.nil, e25.trans (congrArg (fun z => z.2.1) hq), e30.trans (congrArg (fun z => z.2.2.1) hq), e32.trans (congrArg (fun z => z.2.2.2.1) hq), e36.trans (congrArg (fun z => z.2.2.2.2) hq), fr⟩)) hI.2.2 dX12_decide_19 hlocks
  · replace h := ite_f hc h
    refine lv_aload_n hx hb dX12_decide_8 rfl (lv_at hl 0 rfl) ?_
    refine gf_X12_142 hx hb hts hown hKK hI hN dX12_decide_9 ?_
    refine lv_iload_n hx hb dX12_decide_12 rfl (lv_at hl 1 rfl) ?_
    obtain ⟨hin_, h⟩ := ck_e h
    refine la_57 hx hb hKK hI e32 (lc135 hN) (kc135 hk0) hin_ dX12_decide_13 ?_
    refine lv_iconst (v := 3) hx hb dX12_decide_14 (by decide) ?_
    refine lv_icmp_eq (tgt := 20) hx hb dX12_decide_15 (by decide) (fun hc => ?_) (fun hc => ?_)
    · replace h := ite_t hc h
      refine lv_iload_n hx hb dX12_decide_20 rfl (lv_at hl 2 rfl) ?_
      refine lv_if_eq (tgt := 37) hx hb dX12_decide_21 (by decide) (fun hc => ?_) (fun hc => ?_)
      · replace h := ite_t hc h
        refine lv_aload_n hx hb dX12_decide_37 rfl (lv_at hl 0 rfl) ?_
        refine lv_iload_n hx hb dX12_decide_38 rfl (lv_at hl 1 rfl) ?_
        refine lv_bipush (v := 7) hx hb dX12_decide_39 (by decide) ?_
        obtain ⟨q_41, hq_41, h⟩ := ob_e h
        refine r_callV (As := [.int v1, .int 7]) (rest := []) hx hb hml hts hown (c_X12_moves l HB D y F n κ σ hN v1 7 G23 e23 G32 e32 q_41 hq_41) cal_X12_moves im_X12_moves se_X12_moves lm_X12_455 ⟨Nat.le_of_ble_eq_true rfl, Nat.le_of_ble_eq_true rfl⟩ hI.nil hKK (r_recv hKK hI (hE12 HB.size y) rfl (lc91 hN) (kc91 hk0)) rfl hl.1 hI.2.2 rfl (Nat.le_of_ble_eq_true rfl) dX12_decide_41 ⟨Nat.le_of_ble_eq_true rfl, Nat.le_of_ble_eq_true rfl⟩ rfl rfl rfl (fun H locs hB hlo => ?_)
        obtain ⟨σ, hB, en32, ho⟩ := hB
        have hI := hB.re hlo
        have e32 := en32
        have e23 := (ho 23 (ni rfl)).trans e23
        have e24 := (ho 24 (ni rfl)).trans e24
        have e25 := (ho 25 (ni rfl)).trans e25
        have e29 := (ho 29 (ni rfl)).trans e29
        have e30 := (ho 30 (ni rfl)).trans e30
        have e33 := (ho 33 (ni rfl)).trans e33
        have e36 := (ho 36 (ni rfl)).trans e36
        have fr := frc fr ho (by decide)
        refine lv_iconst (v := 1) hx hb dX12_decide_44 (by decide) ?_
        have hq := Option.some.inj h
        exact W.zret (v := 1) (ty := .boolean) hx hb hr rfl (fun t ht hW => qc_mk (congrArg (fun z => Outcome.returned (some (Value.int z.1))) hq) (by rw [ht]; exact ⟨σ, hI.nil, e25.trans (congrArg (fun z => z.2.1) hq), e30.trans (congrArg (fun z => z.2.2.1) hq), e32.trans (congrArg (fun z => z.2.2.2.1) hq), e36.trans (congrArg (fun z => z.2.2.2.2) hq), fr⟩)) hI.2.2 dX12_decide_45 hlocks
      · replace h := ite_f hc h
        refine lv_aload_n hx hb dX12_decide_24 rfl (lv_at hl 0 rfl) ?_
        refine lv_iload_n hx hb dX12_decide_25 rfl (lv_at hl 1 rfl) ?_
        obtain ⟨q_26, hq_26, h⟩ := ob_e h
        refine r_callV (As := [.int v1]) (rest := []) hx hb hml hts hown (c_X12_looksAt l HB D y F n κ σ hN v1 G29 e29 G30 e30 G32 e32 q_26 hq_26) cal_X12_looksAt im_X12_looksAt se_X12_looksAt lm_X12_458 ⟨Nat.le_of_ble_eq_true rfl, Nat.le_of_ble_eq_true rfl⟩ hI.nil hKK (r_recv hKK hI (hE12 HB.size y) rfl (lc91 hN) (kc91 hk0)) rfl hl.1 hI.2.2 rfl (Nat.le_of_ble_eq_true rfl) dX12_decide_26 ⟨Nat.le_of_ble_eq_true rfl, Nat.le_of_ble_eq_true rfl⟩ rfl rfl rfl (fun H locs hB hlo => ?_)
        obtain ⟨σ, hB, en30, ho⟩ := hB
        have hI := hB.re hlo
        have e30 := en30
        have e23 := (ho 23 (ni rfl)).trans e23
        have e24 := (ho 24 (ni rfl)).trans e24
        have e25 := (ho 25 (ni rfl)).trans e25
        have e29 := (ho 29 (ni rfl)).trans e29
        have e32 := (ho 32 (ni rfl)).trans e32
        have e33 := (ho 33 (ni rfl)).trans e33
        have e36 := (ho 36 (ni rfl)).trans e36
        have fr := frc fr ho (by decide)
        refine lv_aload_n hx hb dX12_decide_29 rfl (lv_at hl 0 rfl) ?_
        refine lv_iload_n hx hb dX12_decide_30 rfl (lv_at hl 1 rfl) ?_
        obtain ⟨q_31, hq_31, h⟩ := ob_e h
        refine r_callV (As := [.int v1]) (rest := []) hx hb hml hts hown (c_X12_passes l HB D y F n κ σ hN v1 G23 e23 G24 e24 G25 e25 G29 e29 q_26 e30 G32 e32 G33 e33 G36 e36 q_31 hq_31) cal_X12_passes im_X12_passes se_X12_passes lm_X12_467 ⟨Nat.le_of_ble_eq_true rfl, Nat.le_of_ble_eq_true rfl⟩ hI.nil hKK (r_recv hKK hI (hE12 HB.size y) rfl (lc91 hN) (kc91 hk0)) rfl hl.1 hI.2.2 rfl (Nat.le_of_ble_eq_true rfl) dX12_decide_31 ⟨Nat.le_of_ble_eq_true rfl, Nat.le_of_ble_eq_true rfl⟩ rfl rfl rfl (fun H locs hB hlo => ?_)
        obtain ⟨σ, hB, en25, en32, en36, ho⟩ := hB
        have hI := hB.re hlo
        have e25 := en25
        have e32 := en32
        have e36 := en36
        have e23 := (ho 23 (ni rfl)).trans e23
        have e24 := (ho 24 (ni rfl)).trans e24
        have e29 := (ho 29 (ni rfl)).trans e29
        have e30 := (ho 30 (ni rfl)).trans e30
        have e33 := (ho 33 (ni rfl)).trans e33
        have fr := frc fr ho (by decide)
        refine lv_goto (tgt := 44) hx hb dX12_decide_34 (by decide) ?_
        refine lv_iconst (v := 1) hx hb dX12_decide_44 (by decide) ?_
        have hq := Option.some.inj h
        exact W.zret (v := 1) (ty := .boolean) hx hb hr rfl (fun t ht hW => qc_mk (congrArg (fun z => Outcome.returned (some (Value.int z.1))) hq) (by rw [ht]; exact ⟨σ, hI.nil, e25.trans (congrArg (fun z => z.2.1) hq), e30.trans (congrArg (fun z => z.2.2.1) hq), e32.trans (congrArg (fun z => z.2.2.2.1) hq), e36.trans (congrArg (fun z => z.2.2.2.2) hq), fr⟩)) hI.2.2 dX12_decide_45 hlocks
    · replace h := ite_f hc h
      refine lv_iconst (v := 0) hx hb dX12_decide_18 (by decide) ?_
      have hq := Option.some.inj h
      exact W.zret (v := 0) (ty := .boolean) hx hb hr rfl (fun t ht hW => qc_mk (congrArg (fun z => Outcome.returned (some (Value.int z.1))) hq) (by rw [ht]; exact ⟨σ, hI.nil, e25.trans (congrArg (fun z => z.2.1) hq), e30.trans (congrArg (fun z => z.2.2.1) hq), e32.trans (congrArg (fun z => z.2.2.2.1) hq), e36.trans (congrArg (fun z => z.2.2.2.2) hq), fr⟩)) hI.2.2 dX12_decide_19 hlocks
noncomputable def f_X12_lose_l34b (F : Nat)  (k34 : Grp → Grp → Grp → Int32 → Int32 → Int32 → Option (Int32 × Grp × Grp)) (G23 : Grp) (G32 : Grp) (G35 : Grp) (v1 : Int32) (v2 : Int32) (v3 : Int32) : Option (Int32 × Grp × Grp) :=
  if (G32.1 91 57) ≤ v3 then some (v2, G32, G35) else ck v3 200 (if (G32.1 135 v3.toNatClampNeg) = 1 then ck v3 200 (if (G32.1 137 v3.toNatClampNeg) = v1 then ob (f_X12_moves F G23 G32 v3 8) (fun q_69 => bn ((v2 + 1)) (fun v2_75 => bn (v3 + 1) (fun v3_76 => k34 G23 q_69 G35 v1 v2_75 v3_76))) else bn (v3 + 1) (fun v3_76 => k34 G23 G32 G35 v1 v2 v3_76)) else bn (v3 + 1) (fun v3_76 => k34 G23 G32 G35 v1 v2 v3_76))
noncomputable def f_X12_lose_l34 (F : Nat)  (fu : Nat) : Grp → Grp → Grp → Int32 → Int32 → Int32 → Option (Int32 × Grp × Grp) := Nat.rec (motive := fun _ => Grp → Grp → Grp → Int32 → Int32 → Int32 → Option (Int32 × Grp × Grp)) (fun _ _ _ _ _ _ => none) (fun _ ih => f_X12_lose_l34b F  ih) fu
noncomputable def f_X12_lose (F : Nat) (G23 : Grp) (G32 : Grp) (G35 : Grp) (v1 : Int32) : Option (Int32 × Grp × Grp) :=
  if v1 < 0 then some ((-1), G32, G35) else if (G35.1 91 58) ≤ v1 then some ((-1), G32, G35) else ck v1 1300 (if (G35.1 146 v1.toNatClampNeg) = 0 then some ((-1), G32, G35) else ck v1 1300 (bn (gI G35 146 v1.toNatClampNeg (vp_nar .boolean 0)) (fun G35_29 => f_X12_lose_l34 F  F G23 G32 G35_29 v1 0 0)))
def RM_X12_lose : Room := { frames := 1, cells := 0, slots := 0, locals := 22 }
abbrev W_X12_lose : List Nat := [32, 35]
abbrev B_X12_lose (HB : Heap) (D : va_G) (y : Nat → ClassId) (n : Nat) (κ : Nat → Nat) (σ0 : St) (q : Int32 × Grp × Grp) : Heap → Prop := fun H => ∃ σ : St, IV HB D y n n κ σ [] H ∧ σ 32 = q.2.1 ∧ σ 35 = q.2.2 ∧ ∀ j, j ∉ W_X12_lose → σ j = σ0 j
set_option maxRecDepth 100000 in
set_option maxHeartbeats 4000000 in
theorem c_X12_lose (l : Launch) (HB : Heap) (D : va_G) (y : Nat → ClassId) (F n : Nat) (κ : Nat → Nat) (σ0 : St) (hN : N0 ≤ n) (v1 : Int32)  (G23 : Grp) (e23 : σ0 23 = G23) (G32 : Grp) (e32 : σ0 32 = G32) (G35 : Grp) (e35 : σ0 35 = G35) (q : Int32 × Grp × Grp) (h : f_X12_lose F G23 G32 G35 v1 = some q) : MT l HB D y yX12_lose cX12_lose 4 (some .int) RM_X12_lose [.ref (HB.size + 91), .int v1] (IV HB D y n n κ σ0 []) (some (.int q.1)) (B_X12_lose HB D y n κ σ0 q) := by
  refine Met.ofW (cc := cX12_lose) (maxL := 4) (ret := (some .int)) (by decide) rfl ?_
  intro p e s m args below meth c s₁ BL hml hv
  obtain ⟨rfl, hI, hKK⟩ := hv
  have hx := BL.exec
  have hb := BL.bytes
  have hr := BL.returns
  have hts : ∀ w ∈ gtb, w.before _ s = true := fun w hw => atoms_spec BL.pre w (List.mem_cons_of_mem _ hw)
  have hml : c.maxLocals = 4 := hml
  have hown : s.vm.findClass RX12 = some m.cls := findClass_of_methodNamed BL.named
  have hlocks := BL.notSynchronized
  have hk0 := hI.1.2.2.2.2
  have hl := lv_entry ([.ref (HB.size + 91), .int v1]) (n := 4) (Nat.le_of_ble_eq_true rfl)
  rw [lg_entry_eq]
  generalize (lg_sl ([.ref (HB.size + 91), .int v1]) ++ List.replicate (4 - (lg_sl ([.ref (HB.size + 91), .int v1])).length) Slot.unset).toArray = ls at hl ⊢
  have hl : lv_has ls 4 [(0, .ref (HB.size + 91)), (1, .int v1)] := hl
  generalize hargs : ([.ref (HB.size + 91), .int v1] : List Value).toArray = args at *
  have b34 : ∀ (fu : Nat) (σ : St) (H : Heap) (locs : List Loc) (ls : Array Slot) (G23 : Grp) (G32 : Grp) (G35 : Grp) (v1 : Int32) (v2 : Int32) (v3 : Int32) , IV HB D y n n κ σ locs H → σ 23 = G23 → σ 32 = G32 → σ 35 = G35 → (∀ j, j ∉ W_X12_lose → σ j = σ0 j) → lv_has ls 4 [(0, .ref (HB.size + 91)), (1, .int v1), (2, .int v2), (3, .int v3)] → f_X12_lose_l34 F  fu G23 G32 G35 v1 v2 v3 = some q → WX RM_X12_lose p l e s m args below meth c HB (some (.int q.1)) (B_X12_lose HB D y n κ σ0 q) H locs (F0 m 34 ls []) := by
    intro  fu
    induction fu with
    | zero =>
      intro σ H locs ls G23 G32 G35 v1 v2 v3 hI e23 e32 e35 fr hl h
      exact absurd h (by intro h; cases h)
    | succ fu hk34 =>
      intro σ H locs ls G23 G32 G35 v1 v2 v3 hI e23 e32 e35 fr hl h
      have h : f_X12_lose_l34b F  (f_X12_lose_l34 F  fu) G23 G32 G35 v1 v2 v3 = some q := h
      generalize f_X12_lose_l34 F  fu = k34 at h hk34
      unfold f_X12_lose_l34b at h
      refine lv_iload_n hx hb dX12_lose_34 rfl (lv_at hl 3 rfl) ?_
      refine lv_aload_n hx hb dX12_lose_35 rfl (lv_at hl 0 rfl) ?_
      refine gt_X12_431 hx hb hts hown hKK hI e32 (lc91 hN) (kc91 hk0) dX12_lose_36 ?_
      refine lv_icmp_ge (tgt := 82) hx hb dX12_lose_39 (by decide) (fun hc => ?_) (fun hc => ?_)
      · replace h := ite_t hc h
        refine lv_iload_n hx hb dX12_lose_82 rfl (lv_at hl 2 rfl) ?_
        have hq := Option.some.inj h
        exact W.iret (v := v2) hx hb hr (fun t ht hW => qc_mk (congrArg (fun z => Outcome.returned (some (Value.int z.1))) hq) (by rw [ht]; exact ⟨σ, hI.nil, e32.trans (congrArg (fun z => z.2.1) hq), e35.trans (congrArg (fun z => z.2.2) hq), fr⟩)) hI.2.2 dX12_lose_83 hlocks
      · replace h := ite_f hc h
        refine lv_aload_n hx hb dX12_lose_42 rfl (lv_at hl 0 rfl) ?_
        refine gf_X12_142 hx hb hts hown hKK hI hN dX12_lose_43 ?_
        refine lv_iload_n hx hb dX12_lose_46 rfl (lv_at hl 3 rfl) ?_
        obtain ⟨hin_, h⟩ := ck_e h
        refine la_57 hx hb hKK hI e32 (lc135 hN) (kc135 hk0) hin_ dX12_lose_47 ?_
        refine lv_iconst (v := 1) hx hb dX12_lose_48 (by decide) ?_
        refine lv_icmp_ne (tgt := 76) hx hb dX12_lose_49 (by decide) (fun hc => ?_) (fun hc => ?_)
        · replace h := ite_f hc h
          obtain ⟨v3_76, qq, h⟩ := bn_e h
          refine lv_iinc (v := v3_76) (lv' := [(3, .int v3_76), (0, .ref (HB.size + 91)), (1, .int v1), (2, .int v2)]) hx hb dX12_lose_76 hl (k := 3) rfl (by rw [qq]; rfl) (by decide) rfl (fun ls hl => ?_)
          refine lv_goto (tgt := 34) hx hb dX12_lose_79 (by decide) ?_
          exact hk34 σ H locs ls G23 G32 G35 v1 v2 v3_76  hI e23 e32 e35 fr (lv_sub hl [1, 2, 3, 0] rfl) h
        · replace h := ite_t hc h
          refine lv_aload_n hx hb dX12_lose_52 rfl (lv_at hl 0 rfl) ?_
          refine gf_X12_148 hx hb hts hown hKK hI hN dX12_lose_53 ?_
          refine lv_iload_n hx hb dX12_lose_56 rfl (lv_at hl 3 rfl) ?_
          obtain ⟨hin_, h⟩ := ck_e h
          refine la_57 hx hb hKK hI e32 (lc137 hN) (kc137 hk0) hin_ dX12_lose_57 ?_
          refine lv_iload_n hx hb dX12_lose_58 rfl (lv_at hl 1 rfl) ?_
          refine lv_icmp_eq (tgt := 65) hx hb dX12_lose_59 (by decide) (fun hc => ?_) (fun hc => ?_)
          · replace h := ite_t hc h
            refine lv_aload_n hx hb dX12_lose_65 rfl (lv_at hl 0 rfl) ?_
            refine lv_iload_n hx hb dX12_lose_66 rfl (lv_at hl 3 rfl) ?_
            refine lv_bipush (v := 8) hx hb dX12_lose_67 (by decide) ?_
            obtain ⟨q_69, hq_69, h⟩ := ob_e h
            refine r_callV (As := [.int v3, .int 8]) (rest := []) hx hb hml hts hown (c_X12_moves l HB D y F n κ σ hN v3 8 G23 e23 G32 e32 q_69 hq_69) cal_X12_moves im_X12_moves se_X12_moves lm_X12_455 ⟨Nat.le_of_ble_eq_true rfl, Nat.le_of_ble_eq_true rfl⟩ hI.nil hKK (r_recv hKK hI (hE12 HB.size y) rfl (lc91 hN) (kc91 hk0)) rfl hl.1 hI.2.2 rfl (Nat.le_of_ble_eq_true rfl) dX12_lose_69 ⟨Nat.le_of_ble_eq_true rfl, Nat.le_of_ble_eq_true rfl⟩ rfl rfl rfl (fun H locs hB hlo => ?_)
            obtain ⟨σ, hB, en32, ho⟩ := hB
            have hI := hB.re hlo
            have e32 := en32
            have e23 := (ho 23 (ni rfl)).trans e23
            have e35 := (ho 35 (ni rfl)).trans e35
            have fr := frc fr ho (by decide)
            refine lv_iload_n hx hb dX12_lose_72 rfl (lv_at hl 2 rfl) ?_
            refine lv_iconst (v := 1) hx hb dX12_lose_73 (by decide) ?_
            refine lv_iadd hx hb dX12_lose_74 ?_
            obtain ⟨v2_75, qq, h⟩ := bn_e h
            refine topi qq ?_
            refine lv_istore_n (lv' := [(2, .int v2_75), (0, .ref (HB.size + 91)), (1, .int v1), (3, .int v3)]) hx hb dX12_lose_75 rfl hl (by decide) rfl (fun ls hl => ?_)
            obtain ⟨v3_76, qq, h⟩ := bn_e h
            refine lv_iinc (v := v3_76) (lv' := [(3, .int v3_76), (2, .int v2_75), (0, .ref (HB.size + 91)), (1, .int v1)]) hx hb dX12_lose_76 hl (k := 3) rfl (by rw [qq]; rfl) (by decide) rfl (fun ls hl => ?_)
            refine lv_goto (tgt := 34) hx hb dX12_lose_79 (by decide) ?_
            exact hk34 σ H locs ls G23 q_69 G35 v1 v2_75 v3_76  hI e23 e32 e35 fr (lv_sub hl [2, 3, 1, 0] rfl) h
          · replace h := ite_f hc h
            refine lv_goto (tgt := 76) hx hb dX12_lose_62 (by decide) ?_
            obtain ⟨v3_76, qq, h⟩ := bn_e h
            refine lv_iinc (v := v3_76) (lv' := [(3, .int v3_76), (0, .ref (HB.size + 91)), (1, .int v1), (2, .int v2)]) hx hb dX12_lose_76 hl (k := 3) rfl (by rw [qq]; rfl) (by decide) rfl (fun ls hl => ?_)
            refine lv_goto (tgt := 34) hx hb dX12_lose_79 (by decide) ?_
            exact hk34 σ H locs ls G23 G32 G35 v1 v2 v3_76  hI e23 e32 e35 fr (lv_sub hl [1, 2, 3, 0] rfl) h
  obtain ⟨σ, hI, e23, e32, e35, fr⟩ : ∃ σ : St, IV HB D y n n κ σ [] s.heap ∧ σ 23 = G23 ∧ σ 32 = G32 ∧ σ 35 = G35 ∧ ∀ j, j ∉ W_X12_lose → σ j = σ0 j := ⟨σ0, hI, e23, e32, e35, fun _ _ => rfl⟩
  show WX RM_X12_lose p l e s m args below meth c HB (some (.int q.1)) (B_X12_lose HB D y n κ σ0 q) s.heap [] (F0 m 0 ls [])
  generalize s.heap = H at hI ⊢
  unfold f_X12_lose at h
  obtain ⟨locs, hlocs⟩ : ∃ x : List Loc, x = [] := ⟨_, rfl⟩
  rw [← hlocs] at hI ⊢
  refine lv_iload_n hx hb dX12_lose_0 rfl (lv_at hl 1 rfl) ?_
  refine lv_if_lt (tgt := 21) hx hb dX12_lose_1 (by decide) (fun hc => ?_) (fun hc => ?_)
  · replace h := ite_t hc h
    refine lv_iconst (v := (-1)) hx hb dX12_lose_21 (by decide) ?_
    have hq := Option.some.inj h
    exact W.iret (v := (-1)) hx hb hr (fun t ht hW => qc_mk (congrArg (fun z => Outcome.returned (some (Value.int z.1))) hq) (by rw [ht]; exact ⟨σ, hI.nil, e32.trans (congrArg (fun z => z.2.1) hq), e35.trans (congrArg (fun z => z.2.2) hq), fr⟩)) hI.2.2 dX12_lose_22 hlocks
  · replace h := ite_f hc h
    refine lv_iload_n hx hb dX12_lose_4 rfl (lv_at hl 1 rfl) ?_
    refine lv_aload_n hx hb dX12_lose_5 rfl (lv_at hl 0 rfl) ?_
    refine gt_X12_470 hx hb hts hown hKK hI e35 (lc91 hN) (kc91 hk0) dX12_lose_6 ?_
    refine lv_icmp_ge (tgt := 21) hx hb dX12_lose_9 (by decide) (fun hc => ?_) (fun hc => ?_)
    · replace h := ite_t hc h
      refine lv_iconst (v := (-1)) hx hb dX12_lose_21 (by decide) ?_
      have hq := Option.some.inj h
      exact W.iret (v := (-1)) hx hb hr (fun t ht hW => qc_mk (congrArg (fun z => Outcome.returned (some (Value.int z.1))) hq) (by rw [ht]; exact ⟨σ, hI.nil, e32.trans (congrArg (fun z => z.2.1) hq), e35.trans (congrArg (fun z => z.2.2) hq), fr⟩)) hI.2.2 dX12_lose_22 hlocks
    · replace h := ite_f hc h
      refine lv_aload_n hx hb dX12_lose_12 rfl (lv_at hl 0 rfl) ?_
      refine gf_X12_175 hx hb hts hown hKK hI hN dX12_lose_13 ?_
      refine lv_iload_n hx hb dX12_lose_16 rfl (lv_at hl 1 rfl) ?_
      obtain ⟨hin_, h⟩ := ck_e h
      refine la_62 hx hb hKK hI e35 (lc146 hN) (kc146 hk0) hin_ dX12_lose_17 ?_
      refine lv_if_ne (tgt := 23) hx hb dX12_lose_18 (by decide) (fun hc => ?_) (fun hc => ?_)
      · replace h := ite_f hc h
        refine lv_aload_n hx hb dX12_lose_23 rfl (lv_at hl 0 rfl) ?_
        refine gf_X12_175 hx hb hts hown hKK hI hN dX12_lose_24 ?_
        refine lv_iload_n hx hb dX12_lose_27 rfl (lv_at hl 1 rfl) ?_
        refine lv_iconst (v := 0) hx hb dX12_lose_28 (by decide) ?_
        obtain ⟨hin_, h⟩ := ck_e h
        obtain ⟨G35_29, qq, h⟩ := bn_e h
        refine sa_62 hx hb hKK hI e35 (lc146 hN) (kc146 hk0) hin_ dX12_lose_29 (fun σ H locs hI ew ho => ?_)
        have e35 := ew.trans qq.symm
        have e23 := (ho 23 (nn rfl)).trans e23
        have e32 := (ho 32 (nn rfl)).trans e32
        have fr := frs fr ho (by decide)
        refine lv_iconst (v := 0) hx hb dX12_lose_30 (by decide) ?_
        refine lv_istore_n (lv' := [(2, .int 0), (0, .ref (HB.size + 91)), (1, .int v1)]) hx hb dX12_lose_31 rfl hl (by decide) rfl (fun ls hl => ?_)
        refine lv_iconst (v := 0) hx hb dX12_lose_32 (by decide) ?_
        refine lv_istore_n (lv' := [(3, .int 0), (2, .int 0), (0, .ref (HB.size + 91)), (1, .int v1)]) hx hb dX12_lose_33 rfl hl (by decide) rfl (fun ls hl => ?_)
        exact b34  F σ H locs ls G23 G32 G35_29 v1 0 0  hI e23 e32 e35 fr (lv_sub hl [2, 3, 1, 0] rfl) h
      · replace h := ite_t hc h
        refine lv_iconst (v := (-1)) hx hb dX12_lose_21 (by decide) ?_
        have hq := Option.some.inj h
        exact W.iret (v := (-1)) hx hb hr (fun t ht hW => qc_mk (congrArg (fun z => Outcome.returned (some (Value.int z.1))) hq) (by rw [ht]; exact ⟨σ, hI.nil, e32.trans (congrArg (fun z => z.2.1) hq), e35.trans (congrArg (fun z => z.2.2) hq), fr⟩)) hI.2.2 dX12_lose_22 hlocks
noncomputable def f_X12_isBehind (F : Nat) (G32 : Grp) (v1 : Int32) (v2 : Int32) : Option (Int32) :=
  ck v1 200 (ck v2 200 (if (G32.1 136 v2.toNatClampNeg) < (G32.1 136 v1.toNatClampNeg) then some 1 else ck v1 200 (ck v2 200 (if (G32.1 136 v1.toNatClampNeg) = (G32.1 136 v2.toNatClampNeg) then if v1 ≤ v2 then some 0 else some 1 else some 0))))
def RM_X12_isBehind : Room := { frames := 0, cells := 0, slots := 0, locals := 0 }
abbrev B_X12_isBehind (HB : Heap) (D : va_G) (y : Nat → ClassId) (n : Nat) (κ : Nat → Nat) (σ : St) (q : Int32) : Heap → Prop := fun H => IV HB D y n n κ σ [] H
set_option maxRecDepth 100000 in
set_option maxHeartbeats 4000000 in
theorem c_X12_isBehind (l : Launch) (HB : Heap) (D : va_G) (y : Nat → ClassId) (F n : Nat) (κ : Nat → Nat) (σ : St) (hN : N0 ≤ n) (v1 : Int32)  (v2 : Int32)  (G32 : Grp) (e32 : σ 32 = G32) (q : Int32) (h : f_X12_isBehind F G32 v1 v2 = some q) : MT l HB D y yX12_isBehind cX12_isBehind 3 (some .boolean) RM_X12_isBehind [.ref (HB.size + 91), .int v1, .int v2] (IV HB D y n n κ σ []) (some (.int q)) (B_X12_isBehind HB D y n κ σ q) := by
  refine Met.ofW (cc := cX12_isBehind) (maxL := 3) (ret := (some .boolean)) (by decide) rfl ?_
  intro p e s m args below meth c s₁ BL hml hv
  obtain ⟨rfl, hI, hKK⟩ := hv
  have hx := BL.exec
  have hb := BL.bytes
  have hr := BL.returns
  have hts : ∀ w ∈ gtb, w.before _ s = true := fun w hw => atoms_spec BL.pre w (List.mem_cons_of_mem _ hw)
  have hml : c.maxLocals = 3 := hml
  have hown : s.vm.findClass RX12 = some m.cls := findClass_of_methodNamed BL.named
  have hlocks := BL.notSynchronized
  have hk0 := hI.1.2.2.2.2
  have hl := lv_entry ([.ref (HB.size + 91), .int v1, .int v2]) (n := 3) (Nat.le_of_ble_eq_true rfl)
  rw [lg_entry_eq]
  generalize (lg_sl ([.ref (HB.size + 91), .int v1, .int v2]) ++ List.replicate (3 - (lg_sl ([.ref (HB.size + 91), .int v1, .int v2])).length) Slot.unset).toArray = ls at hl ⊢
  have hl : lv_has ls 3 [(0, .ref (HB.size + 91)), (1, .int v1), (2, .int v2)] := hl
  generalize hargs : ([.ref (HB.size + 91), .int v1, .int v2] : List Value).toArray = args at *
  show WX RM_X12_isBehind p l e s m args below meth c HB (some (.int q)) (B_X12_isBehind HB D y n κ σ q) s.heap [] (F0 m 0 ls [])
  generalize s.heap = H at hI ⊢
  unfold f_X12_isBehind at h
  obtain ⟨locs, hlocs⟩ : ∃ x : List Loc, x = [] := ⟨_, rfl⟩
  rw [← hlocs] at hI ⊢
  refine lv_aload_n hx hb dX12_isBehind_0 rfl (lv_at hl 0 rfl) ?_
  refine gf_X12_145 hx hb hts hown hKK hI hN dX12_isBehind_1 ?_
  refine lv_iload_n hx hb dX12_isBehind_4 rfl (lv_at hl 1 rfl) ?_
  obtain ⟨hin_, h⟩ := ck_e h
  refine la_57 hx hb hKK hI e32 (lc136 hN) (kc136 hk0) hin_ dX12_isBehind_5 ?_
  refine lv_aload_n hx hb dX12_isBehind_6 rfl (lv_at hl 0 rfl) ?_
  refine gf_X12_145 hx hb hts hown hKK hI hN dX12_isBehind_7 ?_
  refine lv_iload_n hx hb dX12_isBehind_10 rfl (lv_at hl 2 rfl) ?_
  obtain ⟨hin_, h⟩ := ck_e h
  refine la_57 hx hb hKK hI e32 (lc136 hN) (kc136 hk0) hin_ dX12_isBehind_11 ?_
  refine lv_icmp_gt (tgt := 35) hx hb dX12_isBehind_12 (by decide) (fun hc => ?_) (fun hc => ?_)
  · replace h := ite_t hc h
    refine lv_iconst (v := 1) hx hb dX12_isBehind_35 (by decide) ?_
    refine lv_goto (tgt := 40) hx hb dX12_isBehind_36 (by decide) ?_
    have hq := Option.some.inj h
    exact W.zret (v := 1) (ty := .boolean) hx hb hr rfl (fun t ht hW => qc_mk (congrArg (fun z => Outcome.returned (some (Value.int z))) hq) (by rw [ht]; exact hI.nil)) hI.2.2 dX12_isBehind_40 hlocks
  · replace h := ite_f hc h
    refine lv_aload_n hx hb dX12_isBehind_15 rfl (lv_at hl 0 rfl) ?_
    refine gf_X12_145 hx hb hts hown hKK hI hN dX12_isBehind_16 ?_
    refine lv_iload_n hx hb dX12_isBehind_19 rfl (lv_at hl 1 rfl) ?_
    obtain ⟨hin_, h⟩ := ck_e h
    refine la_57 hx hb hKK hI e32 (lc136 hN) (kc136 hk0) hin_ dX12_isBehind_20 ?_
    refine lv_aload_n hx hb dX12_isBehind_21 rfl (lv_at hl 0 rfl) ?_
    refine gf_X12_145 hx hb hts hown hKK hI hN dX12_isBehind_22 ?_
    refine lv_iload_n hx hb dX12_isBehind_25 rfl (lv_at hl 2 rfl) ?_
    obtain ⟨hin_, h⟩ := ck_e h
    refine la_57 hx hb hKK hI e32 (lc136 hN) (kc136 hk0) hin_ dX12_isBehind_26 ?_
    refine lv_icmp_ne (tgt := 39) hx hb dX12_isBehind_27 (by decide) (fun hc => ?_) (fun hc => ?_)
    · replace h := ite_f hc h
      refine lv_iconst (v := 0) hx hb dX12_isBehind_39 (by decide) ?_
      have hq := Option.some.inj h
      exact W.zret (v := 0) (ty := .boolean) hx hb hr rfl (fun t ht hW => qc_mk (congrArg (fun z => Outcome.returned (some (Value.int z))) hq) (by rw [ht]; exact hI.nil)) hI.2.2 dX12_isBehind_40 hlocks
    · replace h := ite_t hc h
      refine lv_iload_n hx hb dX12_isBehind_30 rfl (lv_at hl 1 rfl) ?_
      refine lv_iload_n hx hb dX12_isBehind_31 rfl (lv_at hl 2 rfl) ?_
      refine lv_icmp_le (tgt := 39) hx hb dX12_isBehind_32 (by decide) (fun hc => ?_) (fun hc => ?_)
      · replace h := ite_t hc h
        refine lv_iconst (v := 0) hx hb dX12_isBehind_39 (by decide) ?_
        have hq := Option.some.inj h
        exact W.zret (v := 0) (ty := .boolean) hx hb hr rfl (fun t ht hW => qc_mk (congrArg (fun z => Outcome.returned (some (Value.int z))) hq) (by rw [ht]; exact hI.nil)) hI.2.2 dX12_isBehind_40 hlocks
      · replace h := ite_f hc h
        refine lv_iconst (v := 1) hx hb dX12_isBehind_35 (by decide) ?_
        refine lv_goto (tgt := 40) hx hb dX12_isBehind_36 (by decide) ?_
        have hq := Option.some.inj h
        exact W.zret (v := 1) (ty := .boolean) hx hb hr rfl (fun t ht hW => qc_mk (congrArg (fun z => Outcome.returned (some (Value.int z))) hq) (by rw [ht]; exact hI.nil)) hI.2.2 dX12_isBehind_40 hlocks
noncomputable def f_X12_nextIn_b43 (F : Nat) (k5 : Grp → Int32 → Int32 → Int32 → Int32 → Option (Int32)) (G32 : Grp) (v1 : Int32) (v2 : Int32) (v3 : Int32) (v4 : Int32) : Option (Int32) :=
  if v3 = (-1) then bn (v4 + 1) (fun v4_61 => k5 G32 v1 v2 v4 v4_61) else ob (f_X12_isBehind F G32 v3 v4) (fun q_52 => if q_52 = 0 then bn (v4 + 1) (fun v4_61 => k5 G32 v1 v2 v3 v4_61) else bn (v4 + 1) (fun v4_61 => k5 G32 v1 v2 v4 v4_61))
noncomputable def f_X12_nextIn_l5b (F : Nat)  (k5 : Grp → Int32 → Int32 → Int32 → Int32 → Option (Int32)) (G32 : Grp) (v1 : Int32) (v2 : Int32) (v3 : Int32) (v4 : Int32) : Option (Int32) :=
  if (G32.1 91 57) ≤ v4 then some v3 else ck v4 200 (if (G32.1 135 v4.toNatClampNeg) = v1 then if v2 = (-1) then f_X12_nextIn_b43 F k5 G32 v1 v2 v3 v4 else ob (f_X12_isBehind F G32 v4 v2) (fun q_34 => if q_34 = 0 then bn (v4 + 1) (fun v4_61 => k5 G32 v1 v2 v3 v4_61) else f_X12_nextIn_b43 F k5 G32 v1 v2 v3 v4) else bn (v4 + 1) (fun v4_61 => k5 G32 v1 v2 v3 v4_61))
noncomputable def f_X12_nextIn_l5 (F : Nat)  (fu : Nat) : Grp → Int32 → Int32 → Int32 → Int32 → Option (Int32) := Nat.rec (motive := fun _ => Grp → Int32 → Int32 → Int32 → Int32 → Option (Int32)) (fun _ _ _ _ _ => none) (fun _ ih => f_X12_nextIn_l5b F  ih) fu
noncomputable def f_X12_nextIn (F : Nat) (G32 : Grp) (v1 : Int32) (v2 : Int32) : Option (Int32) :=
  f_X12_nextIn_l5 F  F G32 v1 v2 (-1) 0
def RM_X12_nextIn : Room := { frames := 1, cells := 0, slots := 0, locals := 22 }
abbrev B_X12_nextIn (HB : Heap) (D : va_G) (y : Nat → ClassId) (n : Nat) (κ : Nat → Nat) (σ : St) (q : Int32) : Heap → Prop := fun H => IV HB D y n n κ σ [] H
set_option maxRecDepth 100000 in
set_option maxHeartbeats 4000000 in
theorem c_X12_nextIn (l : Launch) (HB : Heap) (D : va_G) (y : Nat → ClassId) (F n : Nat) (κ : Nat → Nat) (σ : St) (hN : N0 ≤ n) (v1 : Int32)  (v2 : Int32)  (G32 : Grp) (e32 : σ 32 = G32) (q : Int32) (h : f_X12_nextIn F G32 v1 v2 = some q) : MT l HB D y yX12_nextIn cX12_nextIn 5 (some .int) RM_X12_nextIn [.ref (HB.size + 91), .int v1, .int v2] (IV HB D y n n κ σ []) (some (.int q)) (B_X12_nextIn HB D y n κ σ q) := by
  refine Met.ofW (cc := cX12_nextIn) (maxL := 5) (ret := (some .int)) (by decide) rfl ?_
  intro p e s m args below meth c s₁ BL hml hv
  obtain ⟨rfl, hI, hKK⟩ := hv
  have hx := BL.exec
  have hb := BL.bytes
  have hr := BL.returns
  have hts : ∀ w ∈ gtb, w.before _ s = true := fun w hw => atoms_spec BL.pre w (List.mem_cons_of_mem _ hw)
  have hml : c.maxLocals = 5 := hml
  have hown : s.vm.findClass RX12 = some m.cls := findClass_of_methodNamed BL.named
  have hlocks := BL.notSynchronized
  have hk0 := hI.1.2.2.2.2
  have hl := lv_entry ([.ref (HB.size + 91), .int v1, .int v2]) (n := 5) (Nat.le_of_ble_eq_true rfl)
  rw [lg_entry_eq]
  generalize (lg_sl ([.ref (HB.size + 91), .int v1, .int v2]) ++ List.replicate (5 - (lg_sl ([.ref (HB.size + 91), .int v1, .int v2])).length) Slot.unset).toArray = ls at hl ⊢
  have hl : lv_has ls 5 [(0, .ref (HB.size + 91)), (1, .int v1), (2, .int v2)] := hl
  generalize hargs : ([.ref (HB.size + 91), .int v1, .int v2] : List Value).toArray = args at *
  have b43 : ∀ (k5 : Grp → Int32 → Int32 → Int32 → Int32 → Option (Int32)) (hk5 : ∀ (H : Heap) (locs : List Loc) (ls : Array Slot) (G32 : Grp) (v1 : Int32) (v2 : Int32) (v3 : Int32) (v4 : Int32) , IV HB D y n n κ σ locs H → σ 32 = G32 → lv_has ls 5 [(0, .ref (HB.size + 91)), (1, .int v1), (2, .int v2), (3, .int v3), (4, .int v4)] → k5 G32 v1 v2 v3 v4 = some q → WX RM_X12_nextIn p l e s m args below meth c HB (some (.int q)) (B_X12_nextIn HB D y n κ σ q) H locs (F0 m 5 ls [])) (H : Heap) (locs : List Loc) (ls : Array Slot) (G32 : Grp) (v1 : Int32) (v2 : Int32) (v3 : Int32) (v4 : Int32) , IV HB D y n n κ σ locs H → σ 32 = G32 → lv_has ls 5 [(0, .ref (HB.size + 91)), (1, .int v1), (2, .int v2), (3, .int v3), (4, .int v4)] → f_X12_nextIn_b43 F k5 G32 v1 v2 v3 v4 = some q → WX RM_X12_nextIn p l e s m args below meth c HB (some (.int q)) (B_X12_nextIn HB D y n κ σ q) H locs (F0 m 43 ls []) := by
    intro k5 hk5 H locs ls G32 v1 v2 v3 v4 hI e32 hl h
    unfold f_X12_nextIn_b43 at h
    refine lv_iload_n hx hb dX12_nextIn_43 rfl (lv_at hl 3 rfl) ?_
    refine lv_iconst (v := (-1)) hx hb dX12_nextIn_44 (by decide) ?_
    refine lv_icmp_eq (tgt := 58) hx hb dX12_nextIn_45 (by decide) (fun hc => ?_) (fun hc => ?_)
    · replace h := ite_t hc h
      refine lv_iload hx hb dX12_nextIn_58 (lv_at hl 4 rfl) ?_
      refine lv_istore_n (lv' := [(3, .int v4), (0, .ref (HB.size + 91)), (1, .int v1), (2, .int v2), (4, .int v4)]) hx hb dX12_nextIn_60 rfl hl (by decide) rfl (fun ls hl => ?_)
      obtain ⟨v4_61, qq, h⟩ := bn_e h
      refine lv_iinc (v := v4_61) (lv' := [(4, .int v4_61), (3, .int v4), (0, .ref (HB.size + 91)), (1, .int v1), (2, .int v2)]) hx hb dX12_nextIn_61 hl (k := 4) rfl (by rw [qq]; rfl) (by decide) rfl (fun ls hl => ?_)
      refine lv_goto (tgt := 5) hx hb dX12_nextIn_64 (by decide) ?_
      exact hk5 H locs ls G32 v1 v2 v4 v4_61  hI e32 (lv_sub hl [2, 3, 4, 1, 0] rfl) h
    · replace h := ite_f hc h
      refine lv_aload_n hx hb dX12_nextIn_48 rfl (lv_at hl 0 rfl) ?_
      refine lv_iload_n hx hb dX12_nextIn_49 rfl (lv_at hl 3 rfl) ?_
      refine lv_iload hx hb dX12_nextIn_50 (lv_at hl 4 rfl) ?_
      obtain ⟨q_52, hq_52, h⟩ := ob_e h
      refine r_callV (As := [.int v3, .int v4]) (rest := []) hx hb hml hts hown (c_X12_isBehind l HB D y F n κ σ hN v3 v4 G32 e32 q_52 hq_52) cal_X12_isBehind im_X12_isBehind se_X12_isBehind lm_X12_473 ⟨Nat.le_of_ble_eq_true rfl, Nat.le_of_ble_eq_true rfl⟩ hI.nil hKK (r_recv hKK hI (hE12 HB.size y) rfl (lc91 hN) (kc91 hk0)) rfl hl.1 hI.2.2 rfl (Nat.le_of_ble_eq_true rfl) dX12_nextIn_52 ⟨Nat.le_of_ble_eq_true rfl, Nat.le_of_ble_eq_true rfl⟩ rfl rfl rfl (fun H locs hB hlo => ?_)
      have hI := hB.re hlo
      refine lv_if_eq (tgt := 61) hx hb dX12_nextIn_55 (by decide) (fun hc => ?_) (fun hc => ?_)
      · replace h := ite_t hc h
        obtain ⟨v4_61, qq, h⟩ := bn_e h
        refine lv_iinc (v := v4_61) (lv' := [(4, .int v4_61), (0, .ref (HB.size + 91)), (1, .int v1), (2, .int v2), (3, .int v3)]) hx hb dX12_nextIn_61 hl (k := 4) rfl (by rw [qq]; rfl) (by decide) rfl (fun ls hl => ?_)
        refine lv_goto (tgt := 5) hx hb dX12_nextIn_64 (by decide) ?_
        exact hk5 H locs ls G32 v1 v2 v3 v4_61  hI e32 (lv_sub hl [1, 2, 3, 4, 0] rfl) h
      · replace h := ite_f hc h
        refine lv_iload hx hb dX12_nextIn_58 (lv_at hl 4 rfl) ?_
        refine lv_istore_n (lv' := [(3, .int v4), (0, .ref (HB.size + 91)), (1, .int v1), (2, .int v2), (4, .int v4)]) hx hb dX12_nextIn_60 rfl hl (by decide) rfl (fun ls hl => ?_)
        obtain ⟨v4_61, qq, h⟩ := bn_e h
        refine lv_iinc (v := v4_61) (lv' := [(4, .int v4_61), (3, .int v4), (0, .ref (HB.size + 91)), (1, .int v1), (2, .int v2)]) hx hb dX12_nextIn_61 hl (k := 4) rfl (by rw [qq]; rfl) (by decide) rfl (fun ls hl => ?_)
        refine lv_goto (tgt := 5) hx hb dX12_nextIn_64 (by decide) ?_
        exact hk5 H locs ls G32 v1 v2 v4 v4_61  hI e32 (lv_sub hl [2, 3, 4, 1, 0] rfl) h
  have b5 : ∀ (fu : Nat) (H : Heap) (locs : List Loc) (ls : Array Slot) (G32 : Grp) (v1 : Int32) (v2 : Int32) (v3 : Int32) (v4 : Int32) , IV HB D y n n κ σ locs H → σ 32 = G32 → lv_has ls 5 [(0, .ref (HB.size + 91)), (1, .int v1), (2, .int v2), (3, .int v3), (4, .int v4)] → f_X12_nextIn_l5 F  fu G32 v1 v2 v3 v4 = some q → WX RM_X12_nextIn p l e s m args below meth c HB (some (.int q)) (B_X12_nextIn HB D y n κ σ q) H locs (F0 m 5 ls []) := by
    intro  fu
    induction fu with
    | zero =>
      intro H locs ls G32 v1 v2 v3 v4 hI e32 hl h
      exact absurd h (by intro h; cases h)
    | succ fu hk5 =>
      intro H locs ls G32 v1 v2 v3 v4 hI e32 hl h
      have h : f_X12_nextIn_l5b F  (f_X12_nextIn_l5 F  fu) G32 v1 v2 v3 v4 = some q := h
      generalize f_X12_nextIn_l5 F  fu = k5 at h hk5
      unfold f_X12_nextIn_l5b at h
      refine lv_iload hx hb dX12_nextIn_5 (lv_at hl 4 rfl) ?_
      refine lv_aload_n hx hb dX12_nextIn_7 rfl (lv_at hl 0 rfl) ?_
      refine gt_X12_431 hx hb hts hown hKK hI e32 (lc91 hN) (kc91 hk0) dX12_nextIn_8 ?_
      refine lv_icmp_ge (tgt := 67) hx hb dX12_nextIn_11 (by decide) (fun hc => ?_) (fun hc => ?_)
      · replace h := ite_t hc h
        refine lv_iload_n hx hb dX12_nextIn_67 rfl (lv_at hl 3 rfl) ?_
        have hq := Option.some.inj h
        exact W.iret (v := v3) hx hb hr (fun t ht hW => qc_mk (congrArg (fun z => Outcome.returned (some (Value.int z))) hq) (by rw [ht]; exact hI.nil)) hI.2.2 dX12_nextIn_68 hlocks
      · replace h := ite_f hc h
        refine lv_aload_n hx hb dX12_nextIn_14 rfl (lv_at hl 0 rfl) ?_
        refine gf_X12_142 hx hb hts hown hKK hI hN dX12_nextIn_15 ?_
        refine lv_iload hx hb dX12_nextIn_18 (lv_at hl 4 rfl) ?_
        obtain ⟨hin_, h⟩ := ck_e h
        refine la_57 hx hb hKK hI e32 (lc135 hN) (kc135 hk0) hin_ dX12_nextIn_20 ?_
        refine lv_iload_n hx hb dX12_nextIn_21 rfl (lv_at hl 1 rfl) ?_
        refine lv_icmp_ne (tgt := 61) hx hb dX12_nextIn_22 (by decide) (fun hc => ?_) (fun hc => ?_)
        · replace h := ite_f hc h
          obtain ⟨v4_61, qq, h⟩ := bn_e h
          refine lv_iinc (v := v4_61) (lv' := [(4, .int v4_61), (0, .ref (HB.size + 91)), (1, .int v1), (2, .int v2), (3, .int v3)]) hx hb dX12_nextIn_61 hl (k := 4) rfl (by rw [qq]; rfl) (by decide) rfl (fun ls hl => ?_)
          refine lv_goto (tgt := 5) hx hb dX12_nextIn_64 (by decide) ?_
          exact hk5 H locs ls G32 v1 v2 v3 v4_61  hI e32 (lv_sub hl [1, 2, 3, 4, 0] rfl) h
        · replace h := ite_t hc h
          refine lv_iload_n hx hb dX12_nextIn_25 rfl (lv_at hl 2 rfl) ?_
          refine lv_iconst (v := (-1)) hx hb dX12_nextIn_26 (by decide) ?_
          refine lv_icmp_eq (tgt := 43) hx hb dX12_nextIn_27 (by decide) (fun hc => ?_) (fun hc => ?_)
          · replace h := ite_t hc h
            exact b43 k5 hk5 H locs ls G32 v1 v2 v3 v4  hI e32 (lv_sub hl [0, 1, 2, 3, 4] rfl) h
          · replace h := ite_f hc h
            refine lv_aload_n hx hb dX12_nextIn_30 rfl (lv_at hl 0 rfl) ?_
            refine lv_iload hx hb dX12_nextIn_31 (lv_at hl 4 rfl) ?_
            refine lv_iload_n hx hb dX12_nextIn_33 rfl (lv_at hl 2 rfl) ?_
            obtain ⟨q_34, hq_34, h⟩ := ob_e h
            refine r_callV (As := [.int v4, .int v2]) (rest := []) hx hb hml hts hown (c_X12_isBehind l HB D y F n κ σ hN v4 v2 G32 e32 q_34 hq_34) cal_X12_isBehind im_X12_isBehind se_X12_isBehind lm_X12_473 ⟨Nat.le_of_ble_eq_true rfl, Nat.le_of_ble_eq_true rfl⟩ hI.nil hKK (r_recv hKK hI (hE12 HB.size y) rfl (lc91 hN) (kc91 hk0)) rfl hl.1 hI.2.2 rfl (Nat.le_of_ble_eq_true rfl) dX12_nextIn_34 ⟨Nat.le_of_ble_eq_true rfl, Nat.le_of_ble_eq_true rfl⟩ rfl rfl rfl (fun H locs hB hlo => ?_)
            have hI := hB.re hlo
            refine lv_if_ne (tgt := 43) hx hb dX12_nextIn_37 (by decide) (fun hc => ?_) (fun hc => ?_)
            · replace h := ite_f hc h
              exact b43 k5 hk5 H locs ls G32 v1 v2 v3 v4  hI e32 (lv_sub hl [0, 1, 2, 3, 4] rfl) h
            · replace h := ite_t hc h
              refine lv_goto (tgt := 61) hx hb dX12_nextIn_40 (by decide) ?_
              obtain ⟨v4_61, qq, h⟩ := bn_e h
              refine lv_iinc (v := v4_61) (lv' := [(4, .int v4_61), (0, .ref (HB.size + 91)), (1, .int v1), (2, .int v2), (3, .int v3)]) hx hb dX12_nextIn_61 hl (k := 4) rfl (by rw [qq]; rfl) (by decide) rfl (fun ls hl => ?_)
              refine lv_goto (tgt := 5) hx hb dX12_nextIn_64 (by decide) ?_
              exact hk5 H locs ls G32 v1 v2 v3 v4_61  hI e32 (lv_sub hl [1, 2, 3, 4, 0] rfl) h
  show WX RM_X12_nextIn p l e s m args below meth c HB (some (.int q)) (B_X12_nextIn HB D y n κ σ q) s.heap [] (F0 m 0 ls [])
  generalize s.heap = H at hI ⊢
  unfold f_X12_nextIn at h
  obtain ⟨locs, hlocs⟩ : ∃ x : List Loc, x = [] := ⟨_, rfl⟩
  rw [← hlocs] at hI ⊢
  refine lv_iconst (v := (-1)) hx hb dX12_nextIn_0 (by decide) ?_
  refine lv_istore_n (lv' := [(3, .int (-1)), (0, .ref (HB.size + 91)), (1, .int v1), (2, .int v2)]) hx hb dX12_nextIn_1 rfl hl (by decide) rfl (fun ls hl => ?_)
  refine lv_iconst (v := 0) hx hb dX12_nextIn_2 (by decide) ?_
  refine lv_istore (lv' := [(4, .int 0), (3, .int (-1)), (0, .ref (HB.size + 91)), (1, .int v1), (2, .int v2)]) hx hb dX12_nextIn_3 hl (by decide) rfl (fun ls hl => ?_)
  exact b5  F H locs ls G32 v1 v2 (-1) 0  hI e32 (lv_sub hl [2, 3, 4, 1, 0] rfl) h
noncomputable def f_X12_translator (F : Nat) (G37 : Grp) (v1 : Int32) (v2 : Int32) (v3 : Int32) (v4 : Int32) : Option (Int32 × Grp) :=
  ob (f_X12_in F v1 0 262143) (fun q_5 => if q_5 = 0 then some ((-1), G37) else ob (f_X12_in F v2 0 262143) (fun q_16 => if q_16 = 0 then some ((-1), G37) else ob (f_X12_in F v3 1 4) (fun q_25 => if q_25 = 0 then some ((-1), G37) else ob (f_X12_in F v4 0 127) (fun q_36 => if q_36 = 0 then some ((-1), G37) else if (G37.1 91 76) = 6 then some ((-1), G37) else ck (G37.1 91 76) 6 (bn (gI G37 149 (G37.1 91 76).toNatClampNeg v1) (fun G37_62 => ck (G37_62.1 91 76) 6 (bn (gI G37_62 150 (G37_62.1 91 76).toNatClampNeg v2) (fun G37_72 => ck (G37_72.1 91 76) 6 (bn (gI G37_72 151 (G37_72.1 91 76).toNatClampNeg v3) (fun G37_82 => ck (G37_82.1 91 76) 6 (bn (gI G37_82 152 (G37_82.1 91 76).toNatClampNeg v4) (fun G37_93 => bn (gI G37_93 91 76 ((G37_93.1 91 76) + 1)) (fun G37_101 => some (((G37_101.1 91 76) - 1), G37_101))))))))))))))
def RM_X12_translator : Room := { frames := 1, cells := 0, slots := 0, locals := 22 }
abbrev W_X12_translator : List Nat := [37]
abbrev B_X12_translator (HB : Heap) (D : va_G) (y : Nat → ClassId) (n : Nat) (κ : Nat → Nat) (σ0 : St) (q : Int32 × Grp) : Heap → Prop := fun H => ∃ σ : St, IV HB D y n n κ σ [] H ∧ σ 37 = q.2 ∧ ∀ j, j ∉ W_X12_translator → σ j = σ0 j
set_option maxRecDepth 100000 in
set_option maxHeartbeats 4000000 in
theorem c_X12_translator (l : Launch) (HB : Heap) (D : va_G) (y : Nat → ClassId) (F n : Nat) (κ : Nat → Nat) (σ0 : St) (hN : N0 ≤ n) (v1 : Int32)  (v2 : Int32)  (v3 : Int32)  (v4 : Int32)  (G37 : Grp) (e37 : σ0 37 = G37) (q : Int32 × Grp) (h : f_X12_translator F G37 v1 v2 v3 v4 = some q) : MT l HB D y yX12_translator cX12_translator 5 (some .int) RM_X12_translator [.ref (HB.size + 91), .int v1, .int v2, .int v3, .int v4] (IV HB D y n n κ σ0 []) (some (.int q.1)) (B_X12_translator HB D y n κ σ0 q) := by
  refine Met.ofW (cc := cX12_translator) (maxL := 5) (ret := (some .int)) (by decide) rfl ?_
  intro p e s m args below meth c s₁ BL hml hv
  obtain ⟨rfl, hI, hKK⟩ := hv
  have hx := BL.exec
  have hb := BL.bytes
  have hr := BL.returns
  have hts : ∀ w ∈ gtb, w.before _ s = true := fun w hw => atoms_spec BL.pre w (List.mem_cons_of_mem _ hw)
  have hml : c.maxLocals = 5 := hml
  have hown : s.vm.findClass RX12 = some m.cls := findClass_of_methodNamed BL.named
  have hlocks := BL.notSynchronized
  have hk0 := hI.1.2.2.2.2
  have hl := lv_entry ([.ref (HB.size + 91), .int v1, .int v2, .int v3, .int v4]) (n := 5) (Nat.le_of_ble_eq_true rfl)
  rw [lg_entry_eq]
  generalize (lg_sl ([.ref (HB.size + 91), .int v1, .int v2, .int v3, .int v4]) ++ List.replicate (5 - (lg_sl ([.ref (HB.size + 91), .int v1, .int v2, .int v3, .int v4])).length) Slot.unset).toArray = ls at hl ⊢
  have hl : lv_has ls 5 [(0, .ref (HB.size + 91)), (1, .int v1), (2, .int v2), (3, .int v3), (4, .int v4)] := hl
  generalize hargs : ([.ref (HB.size + 91), .int v1, .int v2, .int v3, .int v4] : List Value).toArray = args at *
  obtain ⟨σ, hI, e37, fr⟩ : ∃ σ : St, IV HB D y n n κ σ [] s.heap ∧ σ 37 = G37 ∧ ∀ j, j ∉ W_X12_translator → σ j = σ0 j := ⟨σ0, hI, e37, fun _ _ => rfl⟩
  show WX RM_X12_translator p l e s m args below meth c HB (some (.int q.1)) (B_X12_translator HB D y n κ σ0 q) s.heap [] (F0 m 0 ls [])
  generalize s.heap = H at hI ⊢
  unfold f_X12_translator at h
  obtain ⟨locs, hlocs⟩ : ∃ x : List Loc, x = [] := ⟨_, rfl⟩
  rw [← hlocs] at hI ⊢
  refine lv_iload_n hx hb dX12_translator_0 rfl (lv_at hl 1 rfl) ?_
  refine lv_iconst (v := 0) hx hb dX12_translator_1 (by decide) ?_
  refine lv_ldcw (v := 262143) hx hb hown (hts _ lk_X12_476) dX12_translator_2 ?_
  obtain ⟨q_5, hq_5, h⟩ := ob_e h
  refine r_callS (As := [.int v1, .int 0, .int 262143]) (rest := []) hx hb hml hts hown (c_X12_in l HB D y F n κ σ hN v1 0 262143  q_5 hq_5) cal_X12_in st_X12_in lm_X12_260 ⟨Nat.le_of_ble_eq_true rfl, Nat.le_of_ble_eq_true rfl⟩ hI.nil hKK rfl hl.1 hI.2.2 rfl (Nat.le_of_ble_eq_true rfl) dX12_translator_5 ⟨Nat.le_of_ble_eq_true rfl, Nat.le_of_ble_eq_true rfl⟩ rfl rfl rfl (fun H locs hB hlo => ?_)
  have hI := hB.re hlo
  refine lv_if_eq (tgt := 51) hx hb dX12_translator_8 (by decide) (fun hc => ?_) (fun hc => ?_)
  · replace h := ite_t hc h
    refine lv_iconst (v := (-1)) hx hb dX12_translator_51 (by decide) ?_
    have hq := Option.some.inj h
    exact W.iret (v := (-1)) hx hb hr (fun t ht hW => qc_mk (congrArg (fun z => Outcome.returned (some (Value.int z.1))) hq) (by rw [ht]; exact ⟨σ, hI.nil, e37.trans (congrArg (fun z => z.2) hq), fr⟩)) hI.2.2 dX12_translator_52 hlocks
  · replace h := ite_f hc h
    refine lv_iload_n hx hb dX12_translator_11 rfl (lv_at hl 2 rfl) ?_
    refine lv_iconst (v := 0) hx hb dX12_translator_12 (by decide) ?_
    refine lv_ldcw (v := 262143) hx hb hown (hts _ lk_X12_476) dX12_translator_13 ?_
    obtain ⟨q_16, hq_16, h⟩ := ob_e h
    refine r_callS (As := [.int v2, .int 0, .int 262143]) (rest := []) hx hb hml hts hown (c_X12_in l HB D y F n κ σ hN v2 0 262143  q_16 hq_16) cal_X12_in st_X12_in lm_X12_260 ⟨Nat.le_of_ble_eq_true rfl, Nat.le_of_ble_eq_true rfl⟩ hI.nil hKK rfl hl.1 hI.2.2 rfl (Nat.le_of_ble_eq_true rfl) dX12_translator_16 ⟨Nat.le_of_ble_eq_true rfl, Nat.le_of_ble_eq_true rfl⟩ rfl rfl rfl (fun H locs hB hlo => ?_)
    have hI := hB.re hlo
    refine lv_if_eq (tgt := 51) hx hb dX12_translator_19 (by decide) (fun hc => ?_) (fun hc => ?_)
    · replace h := ite_t hc h
      refine lv_iconst (v := (-1)) hx hb dX12_translator_51 (by decide) ?_
      have hq := Option.some.inj h
      exact W.iret (v := (-1)) hx hb hr (fun t ht hW => qc_mk (congrArg (fun z => Outcome.returned (some (Value.int z.1))) hq) (by rw [ht]; exact ⟨σ, hI.nil, e37.trans (congrArg (fun z => z.2) hq), fr⟩)) hI.2.2 dX12_translator_52 hlocks
    · replace h := ite_f hc h
      refine lv_iload_n hx hb dX12_translator_22 rfl (lv_at hl 3 rfl) ?_
      refine lv_iconst (v := 1) hx hb dX12_translator_23 (by decide) ?_
      refine lv_iconst (v := 4) hx hb dX12_translator_24 (by decide) ?_
      obtain ⟨q_25, hq_25, h⟩ := ob_e h
      refine r_callS (As := [.int v3, .int 1, .int 4]) (rest := []) hx hb hml hts hown (c_X12_in l HB D y F n κ σ hN v3 1 4  q_25 hq_25) cal_X12_in st_X12_in lm_X12_260 ⟨Nat.le_of_ble_eq_true rfl, Nat.le_of_ble_eq_true rfl⟩ hI.nil hKK rfl hl.1 hI.2.2 rfl (Nat.le_of_ble_eq_true rfl) dX12_translator_25 ⟨Nat.le_of_ble_eq_true rfl, Nat.le_of_ble_eq_true rfl⟩ rfl rfl rfl (fun H locs hB hlo => ?_)
      have hI := hB.re hlo
      refine lv_if_eq (tgt := 51) hx hb dX12_translator_28 (by decide) (fun hc => ?_) (fun hc => ?_)
      · replace h := ite_t hc h
        refine lv_iconst (v := (-1)) hx hb dX12_translator_51 (by decide) ?_
        have hq := Option.some.inj h
        exact W.iret (v := (-1)) hx hb hr (fun t ht hW => qc_mk (congrArg (fun z => Outcome.returned (some (Value.int z.1))) hq) (by rw [ht]; exact ⟨σ, hI.nil, e37.trans (congrArg (fun z => z.2) hq), fr⟩)) hI.2.2 dX12_translator_52 hlocks
      · replace h := ite_f hc h
        refine lv_iload hx hb dX12_translator_31 (lv_at hl 4 rfl) ?_
        refine lv_iconst (v := 0) hx hb dX12_translator_33 (by decide) ?_
        refine lv_bipush (v := 127) hx hb dX12_translator_34 (by decide) ?_
        obtain ⟨q_36, hq_36, h⟩ := ob_e h
        refine r_callS (As := [.int v4, .int 0, .int 127]) (rest := []) hx hb hml hts hown (c_X12_in l HB D y F n κ σ hN v4 0 127  q_36 hq_36) cal_X12_in st_X12_in lm_X12_260 ⟨Nat.le_of_ble_eq_true rfl, Nat.le_of_ble_eq_true rfl⟩ hI.nil hKK rfl hl.1 hI.2.2 rfl (Nat.le_of_ble_eq_true rfl) dX12_translator_36 ⟨Nat.le_of_ble_eq_true rfl, Nat.le_of_ble_eq_true rfl⟩ rfl rfl rfl (fun H locs hB hlo => ?_)
        have hI := hB.re hlo
        refine lv_if_eq (tgt := 51) hx hb dX12_translator_39 (by decide) (fun hc => ?_) (fun hc => ?_)
        · replace h := ite_t hc h
          refine lv_iconst (v := (-1)) hx hb dX12_translator_51 (by decide) ?_
          have hq := Option.some.inj h
          exact W.iret (v := (-1)) hx hb hr (fun t ht hW => qc_mk (congrArg (fun z => Outcome.returned (some (Value.int z.1))) hq) (by rw [ht]; exact ⟨σ, hI.nil, e37.trans (congrArg (fun z => z.2) hq), fr⟩)) hI.2.2 dX12_translator_52 hlocks
        · replace h := ite_f hc h
          refine lv_aload_n hx hb dX12_translator_42 rfl (lv_at hl 0 rfl) ?_
          refine gt_X12_477 hx hb hts hown hKK hI e37 (lc91 hN) (kc91 hk0) dX12_translator_43 ?_
          refine lv_bipush (v := 6) hx hb dX12_translator_46 (by decide) ?_
          refine lv_icmp_ne (tgt := 53) hx hb dX12_translator_48 (by decide) (fun hc => ?_) (fun hc => ?_)
          · replace h := ite_f hc h
            refine lv_aload_n hx hb dX12_translator_53 rfl (lv_at hl 0 rfl) ?_
            refine gf_X12_185 hx hb hts hown hKK hI hN dX12_translator_54 ?_
            refine lv_aload_n hx hb dX12_translator_57 rfl (lv_at hl 0 rfl) ?_
            refine gt_X12_477 hx hb hts hown hKK hI e37 (lc91 hN) (kc91 hk0) dX12_translator_58 ?_
            refine lv_iload_n hx hb dX12_translator_61 rfl (lv_at hl 1 rfl) ?_
            obtain ⟨hin_, h⟩ := ck_e h
            obtain ⟨G37_62, qq, h⟩ := bn_e h
            refine sa_65 hx hb hKK hI e37 (lc149 hN) (kc149 hk0) hin_ dX12_translator_62 (fun σ H locs hI ew ho => ?_)
            have e37 := ew.trans qq.symm
            have fr := frs fr ho (by decide)
            refine lv_aload_n hx hb dX12_translator_63 rfl (lv_at hl 0 rfl) ?_
            refine gf_X12_188 hx hb hts hown hKK hI hN dX12_translator_64 ?_
            refine lv_aload_n hx hb dX12_translator_67 rfl (lv_at hl 0 rfl) ?_
            refine gt_X12_477 hx hb hts hown hKK hI e37 (lc91 hN) (kc91 hk0) dX12_translator_68 ?_
            refine lv_iload_n hx hb dX12_translator_71 rfl (lv_at hl 2 rfl) ?_
            obtain ⟨hin_, h⟩ := ck_e h
            obtain ⟨G37_72, qq, h⟩ := bn_e h
            refine sa_65 hx hb hKK hI e37 (lc150 hN) (kc150 hk0) hin_ dX12_translator_72 (fun σ H locs hI ew ho => ?_)
            have e37 := ew.trans qq.symm
            have fr := frs fr ho (by decide)
            refine lv_aload_n hx hb dX12_translator_73 rfl (lv_at hl 0 rfl) ?_
            refine gf_X12_191 hx hb hts hown hKK hI hN dX12_translator_74 ?_
            refine lv_aload_n hx hb dX12_translator_77 rfl (lv_at hl 0 rfl) ?_
            refine gt_X12_477 hx hb hts hown hKK hI e37 (lc91 hN) (kc91 hk0) dX12_translator_78 ?_
            refine lv_iload_n hx hb dX12_translator_81 rfl (lv_at hl 3 rfl) ?_
            obtain ⟨hin_, h⟩ := ck_e h
            obtain ⟨G37_82, qq, h⟩ := bn_e h
            refine sa_65 hx hb hKK hI e37 (lc151 hN) (kc151 hk0) hin_ dX12_translator_82 (fun σ H locs hI ew ho => ?_)
            have e37 := ew.trans qq.symm
            have fr := frs fr ho (by decide)
            refine lv_aload_n hx hb dX12_translator_83 rfl (lv_at hl 0 rfl) ?_
            refine gf_X12_194 hx hb hts hown hKK hI hN dX12_translator_84 ?_
            refine lv_aload_n hx hb dX12_translator_87 rfl (lv_at hl 0 rfl) ?_
            refine gt_X12_477 hx hb hts hown hKK hI e37 (lc91 hN) (kc91 hk0) dX12_translator_88 ?_
            refine lv_iload hx hb dX12_translator_91 (lv_at hl 4 rfl) ?_
            obtain ⟨hin_, h⟩ := ck_e h
            obtain ⟨G37_93, qq, h⟩ := bn_e h
            refine sa_65 hx hb hKK hI e37 (lc152 hN) (kc152 hk0) hin_ dX12_translator_93 (fun σ H locs hI ew ho => ?_)
            have e37 := ew.trans qq.symm
            have fr := frs fr ho (by decide)
            refine lv_aload_n hx hb dX12_translator_94 rfl (lv_at hl 0 rfl) ?_
            refine lv_aload_n hx hb dX12_translator_95 rfl (lv_at hl 0 rfl) ?_
            refine gt_X12_477 hx hb hts hown hKK hI e37 (lc91 hN) (kc91 hk0) dX12_translator_96 ?_
            refine lv_iconst (v := 1) hx hb dX12_translator_99 (by decide) ?_
            refine lv_iadd hx hb dX12_translator_100 ?_
            obtain ⟨G37_101, qq, h⟩ := bn_e h
            refine pt_X12_477 hx hb hts hown hKK hI e37 (lc91 hN) (kc91 hk0) dX12_translator_101 (fun σ H locs hI ew ho => ?_)
            have e37 := ew.trans qq.symm
            have fr := frs fr ho (by decide)
            refine lv_aload_n hx hb dX12_translator_104 rfl (lv_at hl 0 rfl) ?_
            refine gt_X12_477 hx hb hts hown hKK hI e37 (lc91 hN) (kc91 hk0) dX12_translator_105 ?_
            refine lv_iconst (v := 1) hx hb dX12_translator_108 (by decide) ?_
            refine lv_isub hx hb dX12_translator_109 ?_
            have hq := Option.some.inj h
            exact W.iret (v := ((G37_101.1 91 76) - 1)) hx hb hr (fun t ht hW => qc_mk (congrArg (fun z => Outcome.returned (some (Value.int z.1))) hq) (by rw [ht]; exact ⟨σ, hI.nil, e37.trans (congrArg (fun z => z.2) hq), fr⟩)) hI.2.2 dX12_translator_110 hlocks
          · replace h := ite_t hc h
            refine lv_iconst (v := (-1)) hx hb dX12_translator_51 (by decide) ?_
            have hq := Option.some.inj h
            exact W.iret (v := (-1)) hx hb hr (fun t ht hW => qc_mk (congrArg (fun z => Outcome.returned (some (Value.int z.1))) hq) (by rw [ht]; exact ⟨σ, hI.nil, e37.trans (congrArg (fun z => z.2) hq), fr⟩)) hI.2.2 dX12_translator_52 hlocks
noncomputable def f_X12_knows_b72 (F : Nat)  (G24 : Grp) (G25 : Grp) (G32 : Grp) (G37 : Grp) (s0 : Int32) : Option (Int32) :=
  if s0 = 1 then some 1 else some 0
noncomputable def f_X12_knows (F : Nat) (G24 : Grp) (G25 : Grp) (G32 : Grp) (G37 : Grp) (v1 : Int32) (v2 : Int32) : Option (Int32) :=
  ck v2 200 (bn ((G32.1 132 v2.toNatClampNeg)) (fun v3_6 => ck v2 200 (bn ((G32.1 133 v2.toNatClampNeg)) (fun v4_13 => ob (f_X12_tongueOf F G24 G25 v3_6 v4_13) (fun q_21 => ob (f_X12_tongueOf F G24 G25 v3_6 (1 - v4_13)) (fun q_31 => bn (((6 * q_21) + q_31)) (fun v5_35 => if 18 ≤ v5_35 then ck v1 6 (f_X12_knows_b72 F  G24 G25 G32 G37 (((G37.1 150 v1.toNatClampNeg) >>> ((v5_35 - 18) &&& 31)) &&& 1)) else ck v1 6 (f_X12_knows_b72 F  G24 G25 G32 G37 (((G37.1 149 v1.toNatClampNeg) >>> (v5_35 &&& 31)) &&& 1)))))))))
def RM_X12_knows : Room := { frames := 1, cells := 0, slots := 0, locals := 22 }
abbrev B_X12_knows (HB : Heap) (D : va_G) (y : Nat → ClassId) (n : Nat) (κ : Nat → Nat) (σ : St) (q : Int32) : Heap → Prop := fun H => IV HB D y n n κ σ [] H
set_option maxRecDepth 100000 in
set_option maxHeartbeats 4000000 in
theorem c_X12_knows (l : Launch) (HB : Heap) (D : va_G) (y : Nat → ClassId) (F n : Nat) (κ : Nat → Nat) (σ : St) (hN : N0 ≤ n) (v1 : Int32)  (v2 : Int32)  (G24 : Grp) (e24 : σ 24 = G24) (G25 : Grp) (e25 : σ 25 = G25) (G32 : Grp) (e32 : σ 32 = G32) (G37 : Grp) (e37 : σ 37 = G37) (q : Int32) (h : f_X12_knows F G24 G25 G32 G37 v1 v2 = some q) : MT l HB D y yX12_knows cX12_knows 6 (some .boolean) RM_X12_knows [.ref (HB.size + 91), .int v1, .int v2] (IV HB D y n n κ σ []) (some (.int q)) (B_X12_knows HB D y n κ σ q) := by
  refine Met.ofW (cc := cX12_knows) (maxL := 6) (ret := (some .boolean)) (by decide) rfl ?_
  intro p e s m args below meth c s₁ BL hml hv
  obtain ⟨rfl, hI, hKK⟩ := hv
  have hx := BL.exec
  have hb := BL.bytes
  have hr := BL.returns
  have hts : ∀ w ∈ gtb, w.before _ s = true := fun w hw => atoms_spec BL.pre w (List.mem_cons_of_mem _ hw)
  have hml : c.maxLocals = 6 := hml
  have hown : s.vm.findClass RX12 = some m.cls := findClass_of_methodNamed BL.named
  have hlocks := BL.notSynchronized
  have hk0 := hI.1.2.2.2.2
  have hl := lv_entry ([.ref (HB.size + 91), .int v1, .int v2]) (n := 6) (Nat.le_of_ble_eq_true rfl)
  rw [lg_entry_eq]
  generalize (lg_sl ([.ref (HB.size + 91), .int v1, .int v2]) ++ List.replicate (6 - (lg_sl ([.ref (HB.size + 91), .int v1, .int v2])).length) Slot.unset).toArray = ls at hl ⊢
  have hl : lv_has ls 6 [(0, .ref (HB.size + 91)), (1, .int v1), (2, .int v2)] := hl
  generalize hargs : ([.ref (HB.size + 91), .int v1, .int v2] : List Value).toArray = args at *
  have b72 : ∀ (H : Heap) (locs : List Loc) (ls : Array Slot) (G24 : Grp) (G25 : Grp) (G32 : Grp) (G37 : Grp) (s0 : Int32) , IV HB D y n n κ σ locs H → σ 24 = G24 → σ 25 = G25 → σ 32 = G32 → σ 37 = G37 → lv_has ls 6 [] → f_X12_knows_b72 F  G24 G25 G32 G37 s0 = some q → WX RM_X12_knows p l e s m args below meth c HB (some (.int q)) (B_X12_knows HB D y n κ σ q) H locs (F0 m 72 ls [.int s0]) := by
    intro  H locs ls G24 G25 G32 G37 s0 hI e24 e25 e32 e37 hl h
    unfold f_X12_knows_b72 at h
    refine lv_iconst (v := 1) hx hb dX12_knows_72 (by decide) ?_
    refine lv_icmp_ne (tgt := 80) hx hb dX12_knows_73 (by decide) (fun hc => ?_) (fun hc => ?_)
    · replace h := ite_f hc h
      refine lv_iconst (v := 0) hx hb dX12_knows_80 (by decide) ?_
      have hq := Option.some.inj h
      exact W.zret (v := 0) (ty := .boolean) hx hb hr rfl (fun t ht hW => qc_mk (congrArg (fun z => Outcome.returned (some (Value.int z))) hq) (by rw [ht]; exact hI.nil)) hI.2.2 dX12_knows_81 hlocks
    · replace h := ite_t hc h
      refine lv_iconst (v := 1) hx hb dX12_knows_76 (by decide) ?_
      refine lv_goto (tgt := 81) hx hb dX12_knows_77 (by decide) ?_
      have hq := Option.some.inj h
      exact W.zret (v := 1) (ty := .boolean) hx hb hr rfl (fun t ht hW => qc_mk (congrArg (fun z => Outcome.returned (some (Value.int z))) hq) (by rw [ht]; exact hI.nil)) hI.2.2 dX12_knows_81 hlocks
  show WX RM_X12_knows p l e s m args below meth c HB (some (.int q)) (B_X12_knows HB D y n κ σ q) s.heap [] (F0 m 0 ls [])
  generalize s.heap = H at hI ⊢
  unfold f_X12_knows at h
  obtain ⟨locs, hlocs⟩ : ∃ x : List Loc, x = [] := ⟨_, rfl⟩
  rw [← hlocs] at hI ⊢
  refine lv_aload_n hx hb dX12_knows_0 rfl (lv_at hl 0 rfl) ?_
  refine gf_X12_133 hx hb hts hown hKK hI hN dX12_knows_1 ?_
  refine lv_iload_n hx hb dX12_knows_4 rfl (lv_at hl 2 rfl) ?_
  obtain ⟨hin_, h⟩ := ck_e h
  refine la_57 hx hb hKK hI e32 (lc132 hN) (kc132 hk0) hin_ dX12_knows_5 ?_
  obtain ⟨v3_6, qq, h⟩ := bn_e h
  refine topi qq ?_
  refine lv_istore_n (lv' := [(3, .int v3_6), (0, .ref (HB.size + 91)), (1, .int v1), (2, .int v2)]) hx hb dX12_knows_6 rfl hl (by decide) rfl (fun ls hl => ?_)
  refine lv_aload_n hx hb dX12_knows_7 rfl (lv_at hl 1 rfl) ?_
  refine gf_X12_136 hx hb hts hown hKK hI hN dX12_knows_8 ?_
  refine lv_iload_n hx hb dX12_knows_11 rfl (lv_at hl 3 rfl) ?_
  obtain ⟨hin_, h⟩ := ck_e h
  refine la_57 hx hb hKK hI e32 (lc133 hN) (kc133 hk0) hin_ dX12_knows_12 ?_
  obtain ⟨v4_13, qq, h⟩ := bn_e h
  refine topi qq ?_
  refine lv_istore (lv' := [(4, .int v4_13), (3, .int v3_6), (0, .ref (HB.size + 91)), (1, .int v1), (2, .int v2)]) hx hb dX12_knows_13 hl (by decide) rfl (fun ls hl => ?_)
  refine lv_bipush (v := 6) hx hb dX12_knows_15 (by decide) ?_
  refine lv_aload_n hx hb dX12_knows_17 rfl (lv_at hl 2 rfl) ?_
  refine lv_iload_n hx hb dX12_knows_18 rfl (lv_at hl 1 rfl) ?_
  refine lv_iload hx hb dX12_knows_19 (lv_at hl 0 rfl) ?_
  obtain ⟨q_21, hq_21, h⟩ := ob_e h
  refine r_callV (As := [.int v3_6, .int v4_13]) (rest := [.int 6]) hx hb hml hts hown (c_X12_tongueOf l HB D y F n κ σ hN v3_6 v4_13 G24 e24 G25 e25 q_21 hq_21) cal_X12_tongueOf im_X12_tongueOf se_X12_tongueOf lm_X12_452 ⟨Nat.le_of_ble_eq_true rfl, Nat.le_of_ble_eq_true rfl⟩ hI.nil hKK (r_recv hKK hI (hE12 HB.size y) rfl (lc91 hN) (kc91 hk0)) rfl hl.1 hI.2.2 rfl (Nat.le_of_ble_eq_true rfl) dX12_knows_21 ⟨Nat.le_of_ble_eq_true rfl, Nat.le_of_ble_eq_true rfl⟩ rfl rfl rfl (fun H locs hB hlo => ?_)
  have hI := hB.re hlo
  refine lv_imul hx hb dX12_knows_24 ?_
  refine lv_aload_n hx hb dX12_knows_25 rfl (lv_at hl 2 rfl) ?_
  refine lv_iload_n hx hb dX12_knows_26 rfl (lv_at hl 1 rfl) ?_
  refine lv_iconst (v := 1) hx hb dX12_knows_27 (by decide) ?_
  refine lv_iload hx hb dX12_knows_28 (lv_at hl 0 rfl) ?_
  refine lv_isub hx hb dX12_knows_30 ?_
  obtain ⟨q_31, hq_31, h⟩ := ob_e h
  refine r_callV (As := [.int v3_6, .int (1 - v4_13)]) (rest := [.int (6 * q_21)]) hx hb hml hts hown (c_X12_tongueOf l HB D y F n κ σ hN v3_6 (1 - v4_13) G24 e24 G25 e25 q_31 hq_31) cal_X12_tongueOf im_X12_tongueOf se_X12_tongueOf lm_X12_452 ⟨Nat.le_of_ble_eq_true rfl, Nat.le_of_ble_eq_true rfl⟩ hI.nil hKK (r_recv hKK hI (hE12 HB.size y) rfl (lc91 hN) (kc91 hk0)) rfl hl.1 hI.2.2 rfl (Nat.le_of_ble_eq_true rfl) dX12_knows_31 ⟨Nat.le_of_ble_eq_true rfl, Nat.le_of_ble_eq_true rfl⟩ rfl rfl rfl (fun H locs hB hlo => ?_)
  have hI := hB.re hlo
  refine lv_iadd hx hb dX12_knows_34 ?_
  obtain ⟨v5_35, qq, h⟩ := bn_e h
  refine topi qq ?_
  refine lv_istore (lv' := [(5, .int v5_35), (4, .int v4_13), (3, .int v3_6), (0, .ref (HB.size + 91)), (1, .int v1), (2, .int v2)]) hx hb dX12_knows_35 hl (by decide) rfl (fun ls hl => ?_)
  refine lv_iload hx hb dX12_knows_37 (lv_at hl 0 rfl) ?_
  refine lv_bipush (v := 18) hx hb dX12_knows_39 (by decide) ?_
  refine lv_icmp_ge (tgt := 58) hx hb dX12_knows_41 (by decide) (fun hc => ?_) (fun hc => ?_)
  · replace h := ite_t hc h
    refine lv_aload_n hx hb dX12_knows_58 rfl (lv_at hl 3 rfl) ?_
    refine gf_X12_188 hx hb hts hown hKK hI hN dX12_knows_59 ?_
    refine lv_iload_n hx hb dX12_knows_62 rfl (lv_at hl 4 rfl) ?_
    obtain ⟨hin_, h⟩ := ck_e h
    refine la_65 hx hb hKK hI e37 (lc150 hN) (kc150 hk0) hin_ dX12_knows_63 ?_
    refine lv_iload hx hb dX12_knows_64 (lv_at hl 0 rfl) ?_
    refine lv_bipush (v := 18) hx hb dX12_knows_66 (by decide) ?_
    refine lv_isub hx hb dX12_knows_68 ?_
    refine lv_ishr hx hb dX12_knows_69 ?_
    refine lv_iconst (v := 1) hx hb dX12_knows_70 (by decide) ?_
    refine lv_iand hx hb dX12_knows_71 ?_
    exact b72  H locs ls G24 G25 G32 G37 (((G37.1 150 v1.toNatClampNeg) >>> ((v5_35 - 18) &&& 31)) &&& 1)  hI e24 e25 e32 e37 (lv_sub hl [] rfl) h
  · replace h := ite_f hc h
    refine lv_aload_n hx hb dX12_knows_44 rfl (lv_at hl 3 rfl) ?_
    refine gf_X12_185 hx hb hts hown hKK hI hN dX12_knows_45 ?_
    refine lv_iload_n hx hb dX12_knows_48 rfl (lv_at hl 4 rfl) ?_
    obtain ⟨hin_, h⟩ := ck_e h
    refine la_65 hx hb hKK hI e37 (lc149 hN) (kc149 hk0) hin_ dX12_knows_49 ?_
    refine lv_iload hx hb dX12_knows_50 (lv_at hl 0 rfl) ?_
    refine lv_ishr hx hb dX12_knows_52 ?_
    refine lv_iconst (v := 1) hx hb dX12_knows_53 (by decide) ?_
    refine lv_iand hx hb dX12_knows_54 ?_
    refine lv_goto (tgt := 72) hx hb dX12_knows_55 (by decide) ?_
    exact b72  H locs ls G24 G25 G32 G37 (((G37.1 149 v1.toNatClampNeg) >>> (v5_35 &&& 31)) &&& 1)  hI e24 e25 e32 e37 (lv_sub hl [] rfl) h
noncomputable def f_X12_works (F : Nat) (G23 : Grp) (G37 : Grp) (v1 : Int32) : Option (Int32) :=
  ck v1 6 (if (((G37.1 152 v1.toNatClampNeg) >>> (((G23.1 91 0) - (G23.1 91 0) / 7 * 7) &&& 31)) &&& 1) = 0 then some 1 else some 0)
def RM_X12_works : Room := { frames := 0, cells := 0, slots := 0, locals := 0 }
abbrev B_X12_works (HB : Heap) (D : va_G) (y : Nat → ClassId) (n : Nat) (κ : Nat → Nat) (σ : St) (q : Int32) : Heap → Prop := fun H => IV HB D y n n κ σ [] H
set_option maxRecDepth 100000 in
set_option maxHeartbeats 4000000 in
theorem c_X12_works (l : Launch) (HB : Heap) (D : va_G) (y : Nat → ClassId) (F n : Nat) (κ : Nat → Nat) (σ : St) (hN : N0 ≤ n) (v1 : Int32)  (G23 : Grp) (e23 : σ 23 = G23) (G37 : Grp) (e37 : σ 37 = G37) (q : Int32) (h : f_X12_works F G23 G37 v1 = some q) : MT l HB D y yX12_works cX12_works 2 (some .boolean) RM_X12_works [.ref (HB.size + 91), .int v1] (IV HB D y n n κ σ []) (some (.int q)) (B_X12_works HB D y n κ σ q) := by
  refine Met.ofW (cc := cX12_works) (maxL := 2) (ret := (some .boolean)) (by decide) rfl ?_
  intro p e s m args below meth c s₁ BL hml hv
  obtain ⟨rfl, hI, hKK⟩ := hv
  have hx := BL.exec
  have hb := BL.bytes
  have hr := BL.returns
  have hts : ∀ w ∈ gtb, w.before _ s = true := fun w hw => atoms_spec BL.pre w (List.mem_cons_of_mem _ hw)
  have hml : c.maxLocals = 2 := hml
  have hown : s.vm.findClass RX12 = some m.cls := findClass_of_methodNamed BL.named
  have hlocks := BL.notSynchronized
  have hk0 := hI.1.2.2.2.2
  have hl := lv_entry ([.ref (HB.size + 91), .int v1]) (n := 2) (Nat.le_of_ble_eq_true rfl)
  rw [lg_entry_eq]
  generalize (lg_sl ([.ref (HB.size + 91), .int v1]) ++ List.replicate (2 - (lg_sl ([.ref (HB.size + 91), .int v1])).length) Slot.unset).toArray = ls at hl ⊢
  have hl : lv_has ls 2 [(0, .ref (HB.size + 91)), (1, .int v1)] := hl
  generalize hargs : ([.ref (HB.size + 91), .int v1] : List Value).toArray = args at *
  show WX RM_X12_works p l e s m args below meth c HB (some (.int q)) (B_X12_works HB D y n κ σ q) s.heap [] (F0 m 0 ls [])
  generalize s.heap = H at hI ⊢
  unfold f_X12_works at h
  obtain ⟨locs, hlocs⟩ : ∃ x : List Loc, x = [] := ⟨_, rfl⟩
  rw [← hlocs] at hI ⊢
  refine lv_aload_n hx hb dX12_works_0 rfl (lv_at hl 0 rfl) ?_
  refine gf_X12_194 hx hb hts hown hKK hI hN dX12_works_1 ?_
  refine lv_iload_n hx hb dX12_works_4 rfl (lv_at hl 1 rfl) ?_
  obtain ⟨hin_, h⟩ := ck_e h
  refine la_65 hx hb hKK hI e37 (lc152 hN) (kc152 hk0) hin_ dX12_works_5 ?_
  refine lv_aload_n hx hb dX12_works_6 rfl (lv_at hl 0 rfl) ?_
  refine gt_X12_281 hx hb hts hown hKK hI e23 (lc91 hN) (kc91 hk0) dX12_works_7 ?_
  refine lv_bipush (v := 7) hx hb dX12_works_10 (by decide) ?_
  refine lv_irem hx hb dX12_works_12 (by decide) ?_
  refine lv_ishr hx hb dX12_works_13 ?_
  refine lv_iconst (v := 1) hx hb dX12_works_14 (by decide) ?_
  refine lv_iand hx hb dX12_works_15 ?_
  refine lv_if_ne (tgt := 23) hx hb dX12_works_16 (by decide) (fun hc => ?_) (fun hc => ?_)
  · replace h := ite_f hc h
    refine lv_iconst (v := 0) hx hb dX12_works_23 (by decide) ?_
    have hq := Option.some.inj h
    exact W.zret (v := 0) (ty := .boolean) hx hb hr rfl (fun t ht hW => qc_mk (congrArg (fun z => Outcome.returned (some (Value.int z))) hq) (by rw [ht]; exact hI.nil)) hI.2.2 dX12_works_24 hlocks
  · replace h := ite_t hc h
    refine lv_iconst (v := 1) hx hb dX12_works_19 (by decide) ?_
    refine lv_goto (tgt := 24) hx hb dX12_works_20 (by decide) ?_
    have hq := Option.some.inj h
    exact W.zret (v := 1) (ty := .boolean) hx hb hr rfl (fun t ht hW => qc_mk (congrArg (fun z => Outcome.returned (some (Value.int z))) hq) (by rw [ht]; exact hI.nil)) hI.2.2 dX12_works_24 hlocks
noncomputable def f_X12_isTurn_l32b (F : Nat)  (k32 : Grp → Grp → Grp → Grp → Grp → Grp → Int32 → Int32 → Option (Int32 × Grp)) (G23 : Grp) (G24 : Grp) (G25 : Grp) (G32 : Grp) (G37 : Grp) (G38 : Grp) (v2 : Int32) (v3 : Int32) : Option (Int32 × Grp) :=
  if v3 < 0 then some (1, G38) else cz ((G37.1 91 76) + 1) (ck v3 6 (bn (gI G38 153 v3.toNatClampNeg (v2 - v2 / ((G37.1 91 76) + 1) * ((G37.1 91 76) + 1))) (fun G38_49 => cz ((G37.1 91 76) + 1) (bn ((v2 / ((G37.1 91 76) + 1))) (fun v2_58 => ck v3 6 (bn ((G38_49.1 153 v3.toNatClampNeg)) (fun v4_65 => if v4_65 = (G37.1 91 76) then bn (v3 + (-1)) (fun v3_138 => k32 G23 G24 G25 G32 G37 G38_49 v2_58 v3_138) else ck v4_65 6 (ck v4_65 6 (bn (gI G38_49 156 v4_65.toNatClampNeg ((G38_49.1 156 v4_65.toNatClampNeg) + 1)) (fun G38_94 => ck v4_65 6 (ck v4_65 6 (if (G37.1 151 v4_65.toNatClampNeg) < (G38_94.1 156 v4_65.toNatClampNeg) then some (0, G38_94) else ob (f_X12_works F G23 G37 v4_65) (fun q_115 => if q_115 = 0 then some (0, G38_94) else ck v3 6 (ob (f_X12_knows F G24 G25 G32 G37 v4_65 (G38_94.1 155 v3.toNatClampNeg)) (fun q_130 => if q_130 = 0 then some (0, G38_94) else bn (v3 + (-1)) (fun v3_138 => k32 G23 G24 G25 G32 G37 G38_94 v2_58 v3_138))))))))))))))))
noncomputable def f_X12_isTurn_l32 (F : Nat)  (fu : Nat) : Grp → Grp → Grp → Grp → Grp → Grp → Int32 → Int32 → Option (Int32 × Grp) := Nat.rec (motive := fun _ => Grp → Grp → Grp → Grp → Grp → Grp → Int32 → Int32 → Option (Int32 × Grp)) (fun _ _ _ _ _ _ _ _ => none) (fun _ ih => f_X12_isTurn_l32b F  ih) fu
noncomputable def f_X12_isTurn_l4b (F : Nat)  (k4 : Grp → Grp → Grp → Grp → Grp → Grp → Int32 → Int32 → Option (Int32 × Grp)) (G23 : Grp) (G24 : Grp) (G25 : Grp) (G32 : Grp) (G37 : Grp) (G38 : Grp) (v2 : Int32) (v3 : Int32) : Option (Int32 × Grp) :=
  if (G37.1 91 76) ≤ v3 then bn (((G38.1 91 85) - 1)) (fun v3_31 => f_X12_isTurn_l32 F  F G23 G24 G25 G32 G37 G38 v2 v3_31) else ck v3 6 (bn (gI G38 156 v3.toNatClampNeg 0) (fun G38_18 => bn (v3 + 1) (fun v3_19 => k4 G23 G24 G25 G32 G37 G38_18 v2 v3_19)))
noncomputable def f_X12_isTurn_l4 (F : Nat)  (fu : Nat) : Grp → Grp → Grp → Grp → Grp → Grp → Int32 → Int32 → Option (Int32 × Grp) := Nat.rec (motive := fun _ => Grp → Grp → Grp → Grp → Grp → Grp → Int32 → Int32 → Option (Int32 × Grp)) (fun _ _ _ _ _ _ _ _ => none) (fun _ ih => f_X12_isTurn_l4b F  ih) fu
noncomputable def f_X12_isTurn (F : Nat) (G23 : Grp) (G24 : Grp) (G25 : Grp) (G32 : Grp) (G37 : Grp) (G38 : Grp) (v1 : Int32) : Option (Int32 × Grp) :=
  f_X12_isTurn_l4 F  F G23 G24 G25 G32 G37 G38 v1 0
def RM_X12_isTurn : Room := { frames := 2, cells := 0, slots := 0, locals := 47 }
abbrev W_X12_isTurn : List Nat := [38]
abbrev B_X12_isTurn (HB : Heap) (D : va_G) (y : Nat → ClassId) (n : Nat) (κ : Nat → Nat) (σ0 : St) (q : Int32 × Grp) : Heap → Prop := fun H => ∃ σ : St, IV HB D y n n κ σ [] H ∧ σ 38 = q.2 ∧ ∀ j, j ∉ W_X12_isTurn → σ j = σ0 j
set_option maxRecDepth 100000 in
set_option maxHeartbeats 4000000 in
theorem c_X12_isTurn (l : Launch) (HB : Heap) (D : va_G) (y : Nat → ClassId) (F n : Nat) (κ : Nat → Nat) (σ0 : St) (hN : N0 ≤ n) (v1 : Int32)  (G23 : Grp) (e23 : σ0 23 = G23) (G24 : Grp) (e24 : σ0 24 = G24) (G25 : Grp) (e25 : σ0 25 = G25) (G32 : Grp) (e32 : σ0 32 = G32) (G37 : Grp) (e37 : σ0 37 = G37) (G38 : Grp) (e38 : σ0 38 = G38) (q : Int32 × Grp) (h : f_X12_isTurn F G23 G24 G25 G32 G37 G38 v1 = some q) : MT l HB D y yX12_isTurn cX12_isTurn 5 (some .boolean) RM_X12_isTurn [.ref (HB.size + 91), .int v1] (IV HB D y n n κ σ0 []) (some (.int q.1)) (B_X12_isTurn HB D y n κ σ0 q) := by
  refine Met.ofW (cc := cX12_isTurn) (maxL := 5) (ret := (some .boolean)) (by decide) rfl ?_
  intro p e s m args below meth c s₁ BL hml hv
  obtain ⟨rfl, hI, hKK⟩ := hv
  have hx := BL.exec
  have hb := BL.bytes
  have hr := BL.returns
  have hts : ∀ w ∈ gtb, w.before _ s = true := fun w hw => atoms_spec BL.pre w (List.mem_cons_of_mem _ hw)
  have hml : c.maxLocals = 5 := hml
  have hown : s.vm.findClass RX12 = some m.cls := findClass_of_methodNamed BL.named
  have hlocks := BL.notSynchronized
  have hk0 := hI.1.2.2.2.2
  have hl := lv_entry ([.ref (HB.size + 91), .int v1]) (n := 5) (Nat.le_of_ble_eq_true rfl)
  rw [lg_entry_eq]
  generalize (lg_sl ([.ref (HB.size + 91), .int v1]) ++ List.replicate (5 - (lg_sl ([.ref (HB.size + 91), .int v1])).length) Slot.unset).toArray = ls at hl ⊢
  have hl : lv_has ls 5 [(0, .ref (HB.size + 91)), (1, .int v1)] := hl
  generalize hargs : ([.ref (HB.size + 91), .int v1] : List Value).toArray = args at *
  have b32 : ∀ (fu : Nat) (σ : St) (H : Heap) (locs : List Loc) (ls : Array Slot) (G23 : Grp) (G24 : Grp) (G25 : Grp) (G32 : Grp) (G37 : Grp) (G38 : Grp) (v2 : Int32) (v3 : Int32) , IV HB D y n n κ σ locs H → σ 23 = G23 → σ 24 = G24 → σ 25 = G25 → σ 32 = G32 → σ 37 = G37 → σ 38 = G38 → (∀ j, j ∉ W_X12_isTurn → σ j = σ0 j) → lv_has ls 5 [(0, .ref (HB.size + 91)), (2, .int v2), (3, .int v3)] → f_X12_isTurn_l32 F  fu G23 G24 G25 G32 G37 G38 v2 v3 = some q → WX RM_X12_isTurn p l e s m args below meth c HB (some (.int q.1)) (B_X12_isTurn HB D y n κ σ0 q) H locs (F0 m 32 ls []) := by
    intro  fu
    induction fu with
    | zero =>
      intro σ H locs ls G23 G24 G25 G32 G37 G38 v2 v3 hI e23 e24 e25 e32 e37 e38 fr hl h
      exact absurd h (by intro h; cases h)
    | succ fu hk32 =>
      intro σ H locs ls G23 G24 G25 G32 G37 G38 v2 v3 hI e23 e24 e25 e32 e37 e38 fr hl h
      have h : f_X12_isTurn_l32b F  (f_X12_isTurn_l32 F  fu) G23 G24 G25 G32 G37 G38 v2 v3 = some q := h
      generalize f_X12_isTurn_l32 F  fu = k32 at h hk32
      unfold f_X12_isTurn_l32b at h
      refine lv_iload_n hx hb dX12_isTurn_32 rfl (lv_at hl 2 rfl) ?_
      refine lv_if_lt (tgt := 144) hx hb dX12_isTurn_33 (by decide) (fun hc => ?_) (fun hc => ?_)
      · replace h := ite_t hc h
        refine lv_iconst (v := 1) hx hb dX12_isTurn_144 (by decide) ?_
        have hq := Option.some.inj h
        exact W.zret (v := 1) (ty := .boolean) hx hb hr rfl (fun t ht hW => qc_mk (congrArg (fun z => Outcome.returned (some (Value.int z.1))) hq) (by rw [ht]; exact ⟨σ, hI.nil, e38.trans (congrArg (fun z => z.2) hq), fr⟩)) hI.2.2 dX12_isTurn_145 hlocks
      · replace h := ite_f hc h
        refine lv_aload_n hx hb dX12_isTurn_36 rfl (lv_at hl 0 rfl) ?_
        refine gf_X12_197 hx hb hts hown hKK hI hN dX12_isTurn_37 ?_
        refine lv_iload_n hx hb dX12_isTurn_40 rfl (lv_at hl 2 rfl) ?_
        refine lv_iload_n hx hb dX12_isTurn_41 rfl (lv_at hl 1 rfl) ?_
        refine lv_aload_n hx hb dX12_isTurn_42 rfl (lv_at hl 0 rfl) ?_
        refine gt_X12_477 hx hb hts hown hKK hI e37 (lc91 hN) (kc91 hk0) dX12_isTurn_43 ?_
        refine lv_iconst (v := 1) hx hb dX12_isTurn_46 (by decide) ?_
        refine lv_iadd hx hb dX12_isTurn_47 ?_
        obtain ⟨hz, h⟩ := cz_e h
        refine lv_irem hx hb dX12_isTurn_48 hz ?_
        obtain ⟨hin_, h⟩ := ck_e h
        obtain ⟨G38_49, qq, h⟩ := bn_e h
        refine sa_66 hx hb hKK hI e38 (lc153 hN) (kc153 hk0) hin_ dX12_isTurn_49 (fun σ H locs hI ew ho => ?_)
        have e38 := ew.trans qq.symm
        have e23 := (ho 23 (nn rfl)).trans e23
        have e24 := (ho 24 (nn rfl)).trans e24
        have e25 := (ho 25 (nn rfl)).trans e25
        have e32 := (ho 32 (nn rfl)).trans e32
        have e37 := (ho 37 (nn rfl)).trans e37
        have fr := frs fr ho (by decide)
        refine lv_iload_n hx hb dX12_isTurn_50 rfl (lv_at hl 1 rfl) ?_
        refine lv_aload_n hx hb dX12_isTurn_51 rfl (lv_at hl 0 rfl) ?_
        refine gt_X12_477 hx hb hts hown hKK hI e37 (lc91 hN) (kc91 hk0) dX12_isTurn_52 ?_
        refine lv_iconst (v := 1) hx hb dX12_isTurn_55 (by decide) ?_
        refine lv_iadd hx hb dX12_isTurn_56 ?_
        obtain ⟨hz, h⟩ := cz_e h
        refine lv_idiv hx hb dX12_isTurn_57 hz ?_
        obtain ⟨v2_58, qq, h⟩ := bn_e h
        refine topi qq ?_
        refine lv_istore_n (lv' := [(2, .int v2_58), (0, .ref (HB.size + 91)), (3, .int v3)]) hx hb dX12_isTurn_58 rfl hl (by decide) rfl (fun ls hl => ?_)
        refine lv_aload_n hx hb dX12_isTurn_59 rfl (lv_at hl 1 rfl) ?_
        refine gf_X12_197 hx hb hts hown hKK hI hN dX12_isTurn_60 ?_
        refine lv_iload_n hx hb dX12_isTurn_63 rfl (lv_at hl 2 rfl) ?_
        obtain ⟨hin_, h⟩ := ck_e h
        refine la_66 hx hb hKK hI e38 (lc153 hN) (kc153 hk0) hin_ dX12_isTurn_64 ?_
        obtain ⟨v4_65, qq, h⟩ := bn_e h
        refine topi qq ?_
        refine lv_istore (lv' := [(4, .int v4_65), (2, .int v2_58), (0, .ref (HB.size + 91)), (3, .int v3)]) hx hb dX12_isTurn_65 hl (by decide) rfl (fun ls hl => ?_)
        refine lv_iload hx hb dX12_isTurn_67 (lv_at hl 0 rfl) ?_
        refine lv_aload_n hx hb dX12_isTurn_69 rfl (lv_at hl 2 rfl) ?_
        refine gt_X12_477 hx hb hts hown hKK hI e37 (lc91 hN) (kc91 hk0) dX12_isTurn_70 ?_
        refine lv_icmp_ne (tgt := 79) hx hb dX12_isTurn_73 (by decide) (fun hc => ?_) (fun hc => ?_)
        · replace h := ite_f hc h
          refine lv_aload_n hx hb dX12_isTurn_79 rfl (lv_at hl 2 rfl) ?_
          refine gf_X12_206 hx hb hts hown hKK hI hN dX12_isTurn_80 ?_
          refine lv_iload hx hb dX12_isTurn_83 (lv_at hl 0 rfl) ?_
          refine lv_aload_n hx hb dX12_isTurn_85 rfl (lv_at hl 2 rfl) ?_
          refine gf_X12_206 hx hb hts hown hKK hI hN dX12_isTurn_86 ?_
          refine lv_iload hx hb dX12_isTurn_89 (lv_at hl 0 rfl) ?_
          obtain ⟨hin_, h⟩ := ck_e h
          refine la_66 hx hb hKK hI e38 (lc156 hN) (kc156 hk0) hin_ dX12_isTurn_91 ?_
          refine lv_iconst (v := 1) hx hb dX12_isTurn_92 (by decide) ?_
          refine lv_iadd hx hb dX12_isTurn_93 ?_
          obtain ⟨hin_, h⟩ := ck_e h
          obtain ⟨G38_94, qq, h⟩ := bn_e h
          refine sa_66 hx hb hKK hI e38 (lc156 hN) (kc156 hk0) hin_ dX12_isTurn_94 (fun σ H locs hI ew ho => ?_)
          have e38 := ew.trans qq.symm
          have e23 := (ho 23 (nn rfl)).trans e23
          have e24 := (ho 24 (nn rfl)).trans e24
          have e25 := (ho 25 (nn rfl)).trans e25
          have e32 := (ho 32 (nn rfl)).trans e32
          have e37 := (ho 37 (nn rfl)).trans e37
          have fr := frs fr ho (by decide)
          refine lv_aload_n hx hb dX12_isTurn_95 rfl (lv_at hl 2 rfl) ?_
          refine gf_X12_206 hx hb hts hown hKK hI hN dX12_isTurn_96 ?_
          refine lv_iload hx hb dX12_isTurn_99 (lv_at hl 0 rfl) ?_
          obtain ⟨hin_, h⟩ := ck_e h
          refine la_66 hx hb hKK hI e38 (lc156 hN) (kc156 hk0) hin_ dX12_isTurn_101 ?_
          refine lv_aload_n hx hb dX12_isTurn_102 rfl (lv_at hl 2 rfl) ?_
          refine gf_X12_191 hx hb hts hown hKK hI hN dX12_isTurn_103 ?_
          refine lv_iload hx hb dX12_isTurn_106 (lv_at hl 0 rfl) ?_
          obtain ⟨hin_, h⟩ := ck_e h
          refine la_65 hx hb hKK hI e37 (lc151 hN) (kc151 hk0) hin_ dX12_isTurn_108 ?_
          refine lv_icmp_gt (tgt := 136) hx hb dX12_isTurn_109 (by decide) (fun hc => ?_) (fun hc => ?_)
          · replace h := ite_t hc h
            refine lv_iconst (v := 0) hx hb dX12_isTurn_136 (by decide) ?_
            have hq := Option.some.inj h
            exact W.zret (v := 0) (ty := .boolean) hx hb hr rfl (fun t ht hW => qc_mk (congrArg (fun z => Outcome.returned (some (Value.int z.1))) hq) (by rw [ht]; exact ⟨σ, hI.nil, e38.trans (congrArg (fun z => z.2) hq), fr⟩)) hI.2.2 dX12_isTurn_137 hlocks
          · replace h := ite_f hc h
            refine lv_aload_n hx hb dX12_isTurn_112 rfl (lv_at hl 2 rfl) ?_
            refine lv_iload hx hb dX12_isTurn_113 (lv_at hl 0 rfl) ?_
            obtain ⟨q_115, hq_115, h⟩ := ob_e h
            refine r_callV (As := [.int v4_65]) (rest := []) hx hb hml hts hown (c_X12_works l HB D y F n κ σ hN v4_65 G23 e23 G37 e37 q_115 hq_115) cal_X12_works im_X12_works se_X12_works lm_X12_483 ⟨Nat.le_of_ble_eq_true rfl, Nat.le_of_ble_eq_true rfl⟩ hI.nil hKK (r_recv hKK hI (hE12 HB.size y) rfl (lc91 hN) (kc91 hk0)) rfl hl.1 hI.2.2 rfl (Nat.le_of_ble_eq_true rfl) dX12_isTurn_115 ⟨Nat.le_of_ble_eq_true rfl, Nat.le_of_ble_eq_true rfl⟩ rfl rfl rfl (fun H locs hB hlo => ?_)
            have hI := hB.re hlo
            refine lv_if_eq (tgt := 136) hx hb dX12_isTurn_118 (by decide) (fun hc => ?_) (fun hc => ?_)
            · replace h := ite_t hc h
              refine lv_iconst (v := 0) hx hb dX12_isTurn_136 (by decide) ?_
              have hq := Option.some.inj h
              exact W.zret (v := 0) (ty := .boolean) hx hb hr rfl (fun t ht hW => qc_mk (congrArg (fun z => Outcome.returned (some (Value.int z.1))) hq) (by rw [ht]; exact ⟨σ, hI.nil, e38.trans (congrArg (fun z => z.2) hq), fr⟩)) hI.2.2 dX12_isTurn_137 hlocks
            · replace h := ite_f hc h
              refine lv_aload_n hx hb dX12_isTurn_121 rfl (lv_at hl 2 rfl) ?_
              refine lv_iload hx hb dX12_isTurn_122 (lv_at hl 0 rfl) ?_
              refine lv_aload_n hx hb dX12_isTurn_124 rfl (lv_at hl 2 rfl) ?_
              refine gf_X12_203 hx hb hts hown hKK hI hN dX12_isTurn_125 ?_
              refine lv_iload_n hx hb dX12_isTurn_128 rfl (lv_at hl 3 rfl) ?_
              obtain ⟨hin_, h⟩ := ck_e h
              refine la_66 hx hb hKK hI e38 (lc155 hN) (kc155 hk0) hin_ dX12_isTurn_129 ?_
              obtain ⟨q_130, hq_130, h⟩ := ob_e h
              refine r_callV (As := [.int v4_65, .int (G38_94.1 155 v3.toNatClampNeg)]) (rest := []) hx hb hml hts hown (c_X12_knows l HB D y F n κ σ hN v4_65 (G38_94.1 155 v3.toNatClampNeg) G24 e24 G25 e25 G32 e32 G37 e37 q_130 hq_130) cal_X12_knows im_X12_knows se_X12_knows lm_X12_486 ⟨Nat.le_of_ble_eq_true rfl, Nat.le_of_ble_eq_true rfl⟩ hI.nil hKK (r_recv hKK hI (hE12 HB.size y) rfl (lc91 hN) (kc91 hk0)) rfl hl.1 hI.2.2 rfl (Nat.le_of_ble_eq_true rfl) dX12_isTurn_130 ⟨Nat.le_of_ble_eq_true rfl, Nat.le_of_ble_eq_true rfl⟩ rfl rfl rfl (fun H locs hB hlo => ?_)
              have hI := hB.re hlo
              refine lv_if_ne (tgt := 138) hx hb dX12_isTurn_133 (by decide) (fun hc => ?_) (fun hc => ?_)
              · replace h := ite_f hc h
                obtain ⟨v3_138, qq, h⟩ := bn_e h
                refine lv_iinc (v := v3_138) (lv' := [(3, .int v3_138), (4, .int v4_65), (2, .int v2_58), (0, .ref (HB.size + 91))]) hx hb dX12_isTurn_138 hl (k := 3) rfl (by rw [qq]; rfl) (by decide) rfl (fun ls hl => ?_)
                refine lv_goto (tgt := 32) hx hb dX12_isTurn_141 (by decide) ?_
                exact hk32 σ H locs ls G23 G24 G25 G32 G37 G38_94 v2_58 v3_138  hI e23 e24 e25 e32 e37 e38 fr (lv_sub hl [3, 2, 0] rfl) h
              · replace h := ite_t hc h
                refine lv_iconst (v := 0) hx hb dX12_isTurn_136 (by decide) ?_
                have hq := Option.some.inj h
                exact W.zret (v := 0) (ty := .boolean) hx hb hr rfl (fun t ht hW => qc_mk (congrArg (fun z => Outcome.returned (some (Value.int z.1))) hq) (by rw [ht]; exact ⟨σ, hI.nil, e38.trans (congrArg (fun z => z.2) hq), fr⟩)) hI.2.2 dX12_isTurn_137 hlocks
        · replace h := ite_t hc h
          refine lv_goto (tgt := 138) hx hb dX12_isTurn_76 (by decide) ?_
          obtain ⟨v3_138, qq, h⟩ := bn_e h
          refine lv_iinc (v := v3_138) (lv' := [(3, .int v3_138), (4, .int v4_65), (2, .int v2_58), (0, .ref (HB.size + 91))]) hx hb dX12_isTurn_138 hl (k := 3) rfl (by rw [qq]; rfl) (by decide) rfl (fun ls hl => ?_)
          refine lv_goto (tgt := 32) hx hb dX12_isTurn_141 (by decide) ?_
          exact hk32 σ H locs ls G23 G24 G25 G32 G37 G38_49 v2_58 v3_138  hI e23 e24 e25 e32 e37 e38 fr (lv_sub hl [3, 2, 0] rfl) h
  have b4 : ∀ (fu : Nat) (σ : St) (H : Heap) (locs : List Loc) (ls : Array Slot) (G23 : Grp) (G24 : Grp) (G25 : Grp) (G32 : Grp) (G37 : Grp) (G38 : Grp) (v2 : Int32) (v3 : Int32) , IV HB D y n n κ σ locs H → σ 23 = G23 → σ 24 = G24 → σ 25 = G25 → σ 32 = G32 → σ 37 = G37 → σ 38 = G38 → (∀ j, j ∉ W_X12_isTurn → σ j = σ0 j) → lv_has ls 5 [(0, .ref (HB.size + 91)), (2, .int v2), (3, .int v3)] → f_X12_isTurn_l4 F  fu G23 G24 G25 G32 G37 G38 v2 v3 = some q → WX RM_X12_isTurn p l e s m args below meth c HB (some (.int q.1)) (B_X12_isTurn HB D y n κ σ0 q) H locs (F0 m 4 ls []) := by
    intro  fu
    induction fu with
    | zero =>
      intro σ H locs ls G23 G24 G25 G32 G37 G38 v2 v3 hI e23 e24 e25 e32 e37 e38 fr hl h
      exact absurd h (by intro h; cases h)
    | succ fu hk4 =>
      intro σ H locs ls G23 G24 G25 G32 G37 G38 v2 v3 hI e23 e24 e25 e32 e37 e38 fr hl h
      have h : f_X12_isTurn_l4b F  (f_X12_isTurn_l4 F  fu) G23 G24 G25 G32 G37 G38 v2 v3 = some q := h
      generalize f_X12_isTurn_l4 F  fu = k4 at h hk4
      unfold f_X12_isTurn_l4b at h
      refine lv_iload_n hx hb dX12_isTurn_4 rfl (lv_at hl 2 rfl) ?_
      refine lv_aload_n hx hb dX12_isTurn_5 rfl (lv_at hl 0 rfl) ?_
      refine gt_X12_477 hx hb hts hown hKK hI e37 (lc91 hN) (kc91 hk0) dX12_isTurn_6 ?_
      refine lv_icmp_ge (tgt := 25) hx hb dX12_isTurn_9 (by decide) (fun hc => ?_) (fun hc => ?_)
      · replace h := ite_t hc h
        refine lv_aload_n hx hb dX12_isTurn_25 rfl (lv_at hl 0 rfl) ?_
        refine gt_X12_480 hx hb hts hown hKK hI e38 (lc91 hN) (kc91 hk0) dX12_isTurn_26 ?_
        refine lv_iconst (v := 1) hx hb dX12_isTurn_29 (by decide) ?_
        refine lv_isub hx hb dX12_isTurn_30 ?_
        obtain ⟨v3_31, qq, h⟩ := bn_e h
        refine topi qq ?_
        refine lv_istore_n (lv' := [(3, .int v3_31), (0, .ref (HB.size + 91)), (2, .int v2)]) hx hb dX12_isTurn_31 rfl hl (by decide) rfl (fun ls hl => ?_)
        exact b32  F σ H locs ls G23 G24 G25 G32 G37 G38 v2 v3_31  hI e23 e24 e25 e32 e37 e38 fr (lv_sub hl [1, 2, 0] rfl) h
      · replace h := ite_f hc h
        refine lv_aload_n hx hb dX12_isTurn_12 rfl (lv_at hl 0 rfl) ?_
        refine gf_X12_206 hx hb hts hown hKK hI hN dX12_isTurn_13 ?_
        refine lv_iload_n hx hb dX12_isTurn_16 rfl (lv_at hl 2 rfl) ?_
        refine lv_iconst (v := 0) hx hb dX12_isTurn_17 (by decide) ?_
        obtain ⟨hin_, h⟩ := ck_e h
        obtain ⟨G38_18, qq, h⟩ := bn_e h
        refine sa_66 hx hb hKK hI e38 (lc156 hN) (kc156 hk0) hin_ dX12_isTurn_18 (fun σ H locs hI ew ho => ?_)
        have e38 := ew.trans qq.symm
        have e23 := (ho 23 (nn rfl)).trans e23
        have e24 := (ho 24 (nn rfl)).trans e24
        have e25 := (ho 25 (nn rfl)).trans e25
        have e32 := (ho 32 (nn rfl)).trans e32
        have e37 := (ho 37 (nn rfl)).trans e37
        have fr := frs fr ho (by decide)
        obtain ⟨v3_19, qq, h⟩ := bn_e h
        refine lv_iinc (v := v3_19) (lv' := [(3, .int v3_19), (0, .ref (HB.size + 91)), (2, .int v2)]) hx hb dX12_isTurn_19 hl (k := 2) rfl (by rw [qq]; rfl) (by decide) rfl (fun ls hl => ?_)
        refine lv_goto (tgt := 4) hx hb dX12_isTurn_22 (by decide) ?_
        exact hk4 σ H locs ls G23 G24 G25 G32 G37 G38_18 v2 v3_19  hI e23 e24 e25 e32 e37 e38 fr (lv_sub hl [1, 2, 0] rfl) h
  obtain ⟨σ, hI, e23, e24, e25, e32, e37, e38, fr⟩ : ∃ σ : St, IV HB D y n n κ σ [] s.heap ∧ σ 23 = G23 ∧ σ 24 = G24 ∧ σ 25 = G25 ∧ σ 32 = G32 ∧ σ 37 = G37 ∧ σ 38 = G38 ∧ ∀ j, j ∉ W_X12_isTurn → σ j = σ0 j := ⟨σ0, hI, e23, e24, e25, e32, e37, e38, fun _ _ => rfl⟩
  show WX RM_X12_isTurn p l e s m args below meth c HB (some (.int q.1)) (B_X12_isTurn HB D y n κ σ0 q) s.heap [] (F0 m 0 ls [])
  generalize s.heap = H at hI ⊢
  unfold f_X12_isTurn at h
  obtain ⟨locs, hlocs⟩ : ∃ x : List Loc, x = [] := ⟨_, rfl⟩
  rw [← hlocs] at hI ⊢
  refine lv_iload_n hx hb dX12_isTurn_0 rfl (lv_at hl 1 rfl) ?_
  refine lv_istore_n (lv' := [(2, .int v1), (0, .ref (HB.size + 91)), (1, .int v1)]) hx hb dX12_isTurn_1 rfl hl (by decide) rfl (fun ls hl => ?_)
  refine lv_iconst (v := 0) hx hb dX12_isTurn_2 (by decide) ?_
  refine lv_istore_n (lv' := [(3, .int 0), (2, .int v1), (0, .ref (HB.size + 91)), (1, .int v1)]) hx hb dX12_isTurn_3 rfl hl (by decide) rfl (fun ls hl => ?_)
  exact b4  F σ H locs ls G23 G24 G25 G32 G37 G38 v1 0  hI e23 e24 e25 e32 e37 e38 fr (lv_sub hl [2, 1, 0] rfl) h
noncomputable def f_X12_turnedIn_l4b (F : Nat)  (k4 : Grp → Grp → Int32 → Int32 → Option (Int32)) (G37 : Grp) (G38 : Grp) (v1 : Int32) (v2 : Int32) : Option (Int32) :=
  if (G38.1 91 85) ≤ v2 then some v1 else ck v2 6 (if (G37.1 91 76) ≤ (G38.1 153 v2.toNatClampNeg) then bn ((v1 + 0)) (fun v1_32 => bn (v2 + 1) (fun v2_33 => k4 G37 G38 v1_32 v2_33)) else bn ((v1 + 1)) (fun v1_32 => bn (v2 + 1) (fun v2_33 => k4 G37 G38 v1_32 v2_33)))
noncomputable def f_X12_turnedIn_l4 (F : Nat)  (fu : Nat) : Grp → Grp → Int32 → Int32 → Option (Int32) := Nat.rec (motive := fun _ => Grp → Grp → Int32 → Int32 → Option (Int32)) (fun _ _ _ _ => none) (fun _ ih => f_X12_turnedIn_l4b F  ih) fu
noncomputable def f_X12_turnedIn (F : Nat) (G37 : Grp) (G38 : Grp)  : Option (Int32) :=
  f_X12_turnedIn_l4 F  F G37 G38 0 0
def RM_X12_turnedIn : Room := { frames := 0, cells := 0, slots := 0, locals := 0 }
abbrev B_X12_turnedIn (HB : Heap) (D : va_G) (y : Nat → ClassId) (n : Nat) (κ : Nat → Nat) (σ : St) (q : Int32) : Heap → Prop := fun H => IV HB D y n n κ σ [] H
set_option maxRecDepth 100000 in
set_option maxHeartbeats 4000000 in
theorem c_X12_turnedIn (l : Launch) (HB : Heap) (D : va_G) (y : Nat → ClassId) (F n : Nat) (κ : Nat → Nat) (σ : St) (hN : N0 ≤ n)  (G37 : Grp) (e37 : σ 37 = G37) (G38 : Grp) (e38 : σ 38 = G38) (q : Int32) (h : f_X12_turnedIn F G37 G38 = some q) : MT l HB D y yX12_turnedIn cX12_turnedIn 3 (some .int) RM_X12_turnedIn [.ref (HB.size + 91)] (IV HB D y n n κ σ []) (some (.int q)) (B_X12_turnedIn HB D y n κ σ q) := by
  refine Met.ofW (cc := cX12_turnedIn) (maxL := 3) (ret := (some .int)) (by decide) rfl ?_
  intro p e s m args below meth c s₁ BL hml hv
  obtain ⟨rfl, hI, hKK⟩ := hv
  have hx := BL.exec
  have hb := BL.bytes
  have hr := BL.returns
  have hts : ∀ w ∈ gtb, w.before _ s = true := fun w hw => atoms_spec BL.pre w (List.mem_cons_of_mem _ hw)
  have hml : c.maxLocals = 3 := hml
  have hown : s.vm.findClass RX12 = some m.cls := findClass_of_methodNamed BL.named
  have hlocks := BL.notSynchronized
  have hk0 := hI.1.2.2.2.2
  have hl := lv_entry ([.ref (HB.size + 91)]) (n := 3) (Nat.le_of_ble_eq_true rfl)
  rw [lg_entry_eq]
  generalize (lg_sl ([.ref (HB.size + 91)]) ++ List.replicate (3 - (lg_sl ([.ref (HB.size + 91)])).length) Slot.unset).toArray = ls at hl ⊢
  have hl : lv_has ls 3 [(0, .ref (HB.size + 91))] := hl
  generalize hargs : ([.ref (HB.size + 91)] : List Value).toArray = args at *
  have b4 : ∀ (fu : Nat) (H : Heap) (locs : List Loc) (ls : Array Slot) (G37 : Grp) (G38 : Grp) (v1 : Int32) (v2 : Int32) , IV HB D y n n κ σ locs H → σ 37 = G37 → σ 38 = G38 → lv_has ls 3 [(0, .ref (HB.size + 91)), (1, .int v1), (2, .int v2)] → f_X12_turnedIn_l4 F  fu G37 G38 v1 v2 = some q → WX RM_X12_turnedIn p l e s m args below meth c HB (some (.int q)) (B_X12_turnedIn HB D y n κ σ q) H locs (F0 m 4 ls []) := by
    intro  fu
    induction fu with
    | zero =>
      intro H locs ls G37 G38 v1 v2 hI e37 e38 hl h
      exact absurd h (by intro h; cases h)
    | succ fu hk4 =>
      intro H locs ls G37 G38 v1 v2 hI e37 e38 hl h
      have h : f_X12_turnedIn_l4b F  (f_X12_turnedIn_l4 F  fu) G37 G38 v1 v2 = some q := h
      generalize f_X12_turnedIn_l4 F  fu = k4 at h hk4
      unfold f_X12_turnedIn_l4b at h
      refine lv_iload_n hx hb dX12_turnedIn_4 rfl (lv_at hl 2 rfl) ?_
      refine lv_aload_n hx hb dX12_turnedIn_5 rfl (lv_at hl 0 rfl) ?_
      refine gt_X12_480 hx hb hts hown hKK hI e38 (lc91 hN) (kc91 hk0) dX12_turnedIn_6 ?_
      refine lv_icmp_ge (tgt := 39) hx hb dX12_turnedIn_9 (by decide) (fun hc => ?_) (fun hc => ?_)
      · replace h := ite_t hc h
        refine lv_iload_n hx hb dX12_turnedIn_39 rfl (lv_at hl 1 rfl) ?_
        have hq := Option.some.inj h
        exact W.iret (v := v1) hx hb hr (fun t ht hW => qc_mk (congrArg (fun z => Outcome.returned (some (Value.int z))) hq) (by rw [ht]; exact hI.nil)) hI.2.2 dX12_turnedIn_40 hlocks
      · replace h := ite_f hc h
        refine lv_iload_n hx hb dX12_turnedIn_12 rfl (lv_at hl 1 rfl) ?_
        refine lv_aload_n hx hb dX12_turnedIn_13 rfl (lv_at hl 0 rfl) ?_
        refine gf_X12_197 hx hb hts hown hKK hI hN dX12_turnedIn_14 ?_
        refine lv_iload_n hx hb dX12_turnedIn_17 rfl (lv_at hl 2 rfl) ?_
        obtain ⟨hin_, h⟩ := ck_e h
        refine la_66 hx hb hKK hI e38 (lc153 hN) (kc153 hk0) hin_ dX12_turnedIn_18 ?_
        refine lv_aload_n hx hb dX12_turnedIn_19 rfl (lv_at hl 0 rfl) ?_
        refine gt_X12_477 hx hb hts hown hKK hI e37 (lc91 hN) (kc91 hk0) dX12_turnedIn_20 ?_
        refine lv_icmp_ge (tgt := 30) hx hb dX12_turnedIn_23 (by decide) (fun hc => ?_) (fun hc => ?_)
        · replace h := ite_t hc h
          refine lv_iconst (v := 0) hx hb dX12_turnedIn_30 (by decide) ?_
          refine lv_iadd hx hb dX12_turnedIn_31 ?_
          obtain ⟨v1_32, qq, h⟩ := bn_e h
          refine topi qq ?_
          refine lv_istore_n (lv' := [(1, .int v1_32), (0, .ref (HB.size + 91)), (2, .int v2)]) hx hb dX12_turnedIn_32 rfl hl (by decide) rfl (fun ls hl => ?_)
          obtain ⟨v2_33, qq, h⟩ := bn_e h
          refine lv_iinc (v := v2_33) (lv' := [(2, .int v2_33), (1, .int v1_32), (0, .ref (HB.size + 91))]) hx hb dX12_turnedIn_33 hl (k := 2) rfl (by rw [qq]; rfl) (by decide) rfl (fun ls hl => ?_)
          refine lv_goto (tgt := 4) hx hb dX12_turnedIn_36 (by decide) ?_
          exact hk4 H locs ls G37 G38 v1_32 v2_33  hI e37 e38 (lv_sub hl [2, 1, 0] rfl) h
        · replace h := ite_f hc h
          refine lv_iconst (v := 1) hx hb dX12_turnedIn_26 (by decide) ?_
          refine lv_goto (tgt := 31) hx hb dX12_turnedIn_27 (by decide) ?_
          refine lv_iadd hx hb dX12_turnedIn_31 ?_
          obtain ⟨v1_32, qq, h⟩ := bn_e h
          refine topi qq ?_
          refine lv_istore_n (lv' := [(1, .int v1_32), (0, .ref (HB.size + 91)), (2, .int v2)]) hx hb dX12_turnedIn_32 rfl hl (by decide) rfl (fun ls hl => ?_)
          obtain ⟨v2_33, qq, h⟩ := bn_e h
          refine lv_iinc (v := v2_33) (lv' := [(2, .int v2_33), (1, .int v1_32), (0, .ref (HB.size + 91))]) hx hb dX12_turnedIn_33 hl (k := 2) rfl (by rw [qq]; rfl) (by decide) rfl (fun ls hl => ?_)
          refine lv_goto (tgt := 4) hx hb dX12_turnedIn_36 (by decide) ?_
          exact hk4 H locs ls G37 G38 v1_32 v2_33  hI e37 e38 (lv_sub hl [2, 1, 0] rfl) h
  show WX RM_X12_turnedIn p l e s m args below meth c HB (some (.int q)) (B_X12_turnedIn HB D y n κ σ q) s.heap [] (F0 m 0 ls [])
  generalize s.heap = H at hI ⊢
  unfold f_X12_turnedIn at h
  obtain ⟨locs, hlocs⟩ : ∃ x : List Loc, x = [] := ⟨_, rfl⟩
  rw [← hlocs] at hI ⊢
  refine lv_iconst (v := 0) hx hb dX12_turnedIn_0 (by decide) ?_
  refine lv_istore_n (lv' := [(1, .int 0), (0, .ref (HB.size + 91))]) hx hb dX12_turnedIn_1 rfl hl (by decide) rfl (fun ls hl => ?_)
  refine lv_iconst (v := 0) hx hb dX12_turnedIn_2 (by decide) ?_
  refine lv_istore_n (lv' := [(2, .int 0), (1, .int 0), (0, .ref (HB.size + 91))]) hx hb dX12_turnedIn_3 rfl hl (by decide) rfl (fun ls hl => ?_)
  exact b4  F H locs ls G37 G38 0 0  hI e37 e38 (lv_sub hl [2, 1, 0] rfl) h
noncomputable def f_X12_keptIn_l4b (F : Nat)  (k4 : Grp → Grp → Grp → Grp → Int32 → Int32 → Option (Int32)) (G25 : Grp) (G32 : Grp) (G37 : Grp) (G38 : Grp) (v1 : Int32) (v2 : Int32) : Option (Int32) :=
  if (G38.1 91 85) ≤ v2 then some v1 else ck v2 6 (if (G37.1 91 76) ≤ (G38.1 153 v2.toNatClampNeg) then bn ((v1 + 0)) (fun v1_57 => bn (v2 + 1) (fun v2_58 => k4 G25 G32 G37 G38 v1_57 v2_58)) else ck v2 6 (ck v2 6 (ck (G38.1 155 v2.toNatClampNeg) 200 (ck (G32.1 132 (G38.1 155 v2.toNatClampNeg).toNatClampNeg) 40 (if (G38.1 153 v2.toNatClampNeg) = (G25.1 104 (G32.1 132 (G38.1 155 v2.toNatClampNeg).toNatClampNeg).toNatClampNeg) then bn ((v1 + 1)) (fun v1_57 => bn (v2 + 1) (fun v2_58 => k4 G25 G32 G37 G38 v1_57 v2_58)) else bn ((v1 + 0)) (fun v1_57 => bn (v2 + 1) (fun v2_58 => k4 G25 G32 G37 G38 v1_57 v2_58)))))))
noncomputable def f_X12_keptIn_l4 (F : Nat)  (fu : Nat) : Grp → Grp → Grp → Grp → Int32 → Int32 → Option (Int32) := Nat.rec (motive := fun _ => Grp → Grp → Grp → Grp → Int32 → Int32 → Option (Int32)) (fun _ _ _ _ _ _ => none) (fun _ ih => f_X12_keptIn_l4b F  ih) fu
noncomputable def f_X12_keptIn (F : Nat) (G25 : Grp) (G32 : Grp) (G37 : Grp) (G38 : Grp)  : Option (Int32) :=
  f_X12_keptIn_l4 F  F G25 G32 G37 G38 0 0
def RM_X12_keptIn : Room := { frames := 0, cells := 0, slots := 0, locals := 0 }
abbrev B_X12_keptIn (HB : Heap) (D : va_G) (y : Nat → ClassId) (n : Nat) (κ : Nat → Nat) (σ : St) (q : Int32) : Heap → Prop := fun H => IV HB D y n n κ σ [] H
set_option maxRecDepth 100000 in
set_option maxHeartbeats 4000000 in
theorem c_X12_keptIn (l : Launch) (HB : Heap) (D : va_G) (y : Nat → ClassId) (F n : Nat) (κ : Nat → Nat) (σ : St) (hN : N0 ≤ n)  (G25 : Grp) (e25 : σ 25 = G25) (G32 : Grp) (e32 : σ 32 = G32) (G37 : Grp) (e37 : σ 37 = G37) (G38 : Grp) (e38 : σ 38 = G38) (q : Int32) (h : f_X12_keptIn F G25 G32 G37 G38 = some q) : MT l HB D y yX12_keptIn cX12_keptIn 3 (some .int) RM_X12_keptIn [.ref (HB.size + 91)] (IV HB D y n n κ σ []) (some (.int q)) (B_X12_keptIn HB D y n κ σ q) := by
  refine Met.ofW (cc := cX12_keptIn) (maxL := 3) (ret := (some .int)) (by decide) rfl ?_
  intro p e s m args below meth c s₁ BL hml hv
  obtain ⟨rfl, hI, hKK⟩ := hv
  have hx := BL.exec
  have hb := BL.bytes
  have hr := BL.returns
  have hts : ∀ w ∈ gtb, w.before _ s = true := fun w hw => atoms_spec BL.pre w (List.mem_cons_of_mem _ hw)
  have hml : c.maxLocals = 3 := hml
  have hown : s.vm.findClass RX12 = some m.cls := findClass_of_methodNamed BL.named
  have hlocks := BL.notSynchronized
  have hk0 := hI.1.2.2.2.2
  have hl := lv_entry ([.ref (HB.size + 91)]) (n := 3) (Nat.le_of_ble_eq_true rfl)
  rw [lg_entry_eq]
  generalize (lg_sl ([.ref (HB.size + 91)]) ++ List.replicate (3 - (lg_sl ([.ref (HB.size + 91)])).length) Slot.unset).toArray = ls at hl ⊢
  have hl : lv_has ls 3 [(0, .ref (HB.size + 91))] := hl
  generalize hargs : ([.ref (HB.size + 91)] : List Value).toArray = args at *
  have b4 : ∀ (fu : Nat) (H : Heap) (locs : List Loc) (ls : Array Slot) (G25 : Grp) (G32 : Grp) (G37 : Grp) (G38 : Grp) (v1 : Int32) (v2 : Int32) , IV HB D y n n κ σ locs H → σ 25 = G25 → σ 32 = G32 → σ 37 = G37 → σ 38 = G38 → lv_has ls 3 [(0, .ref (HB.size + 91)), (1, .int v1), (2, .int v2)] → f_X12_keptIn_l4 F  fu G25 G32 G37 G38 v1 v2 = some q → WX RM_X12_keptIn p l e s m args below meth c HB (some (.int q)) (B_X12_keptIn HB D y n κ σ q) H locs (F0 m 4 ls []) := by
    intro  fu
    induction fu with
    | zero =>
      intro H locs ls G25 G32 G37 G38 v1 v2 hI e25 e32 e37 e38 hl h
      exact absurd h (by intro h; cases h)
    | succ fu hk4 =>
      intro H locs ls G25 G32 G37 G38 v1 v2 hI e25 e32 e37 e38 hl h
      have h : f_X12_keptIn_l4b F  (f_X12_keptIn_l4 F  fu) G25 G32 G37 G38 v1 v2 = some q := h
      generalize f_X12_keptIn_l4 F  fu = k4 at h hk4
      unfold f_X12_keptIn_l4b at h
      refine lv_iload_n hx hb dX12_keptIn_4 rfl (lv_at hl 2 rfl) ?_
      refine lv_aload_n hx hb dX12_keptIn_5 rfl (lv_at hl 0 rfl) ?_
      refine gt_X12_480 hx hb hts hown hKK hI e38 (lc91 hN) (kc91 hk0) dX12_keptIn_6 ?_
      refine lv_icmp_ge (tgt := 64) hx hb dX12_keptIn_9 (by decide) (fun hc => ?_) (fun hc => ?_)
      · replace h := ite_t hc h
        refine lv_iload_n hx hb dX12_keptIn_64 rfl (lv_at hl 1 rfl) ?_
        have hq := Option.some.inj h
        exact W.iret (v := v1) hx hb hr (fun t ht hW => qc_mk (congrArg (fun z => Outcome.returned (some (Value.int z))) hq) (by rw [ht]; exact hI.nil)) hI.2.2 dX12_keptIn_65 hlocks
      · replace h := ite_f hc h
        refine lv_iload_n hx hb dX12_keptIn_12 rfl (lv_at hl 1 rfl) ?_
        refine lv_aload_n hx hb dX12_keptIn_13 rfl (lv_at hl 0 rfl) ?_
        refine gf_X12_197 hx hb hts hown hKK hI hN dX12_keptIn_14 ?_
        refine lv_iload_n hx hb dX12_keptIn_17 rfl (lv_at hl 2 rfl) ?_
        obtain ⟨hin_, h⟩ := ck_e h
        refine la_66 hx hb hKK hI e38 (lc153 hN) (kc153 hk0) hin_ dX12_keptIn_18 ?_
        refine lv_aload_n hx hb dX12_keptIn_19 rfl (lv_at hl 0 rfl) ?_
        refine gt_X12_477 hx hb hts hown hKK hI e37 (lc91 hN) (kc91 hk0) dX12_keptIn_20 ?_
        refine lv_icmp_ge (tgt := 55) hx hb dX12_keptIn_23 (by decide) (fun hc => ?_) (fun hc => ?_)
        · replace h := ite_t hc h
          refine lv_iconst (v := 0) hx hb dX12_keptIn_55 (by decide) ?_
          refine lv_iadd hx hb dX12_keptIn_56 ?_
          obtain ⟨v1_57, qq, h⟩ := bn_e h
          refine topi qq ?_
          refine lv_istore_n (lv' := [(1, .int v1_57), (0, .ref (HB.size + 91)), (2, .int v2)]) hx hb dX12_keptIn_57 rfl hl (by decide) rfl (fun ls hl => ?_)
          obtain ⟨v2_58, qq, h⟩ := bn_e h
          refine lv_iinc (v := v2_58) (lv' := [(2, .int v2_58), (1, .int v1_57), (0, .ref (HB.size + 91))]) hx hb dX12_keptIn_58 hl (k := 2) rfl (by rw [qq]; rfl) (by decide) rfl (fun ls hl => ?_)
          refine lv_goto (tgt := 4) hx hb dX12_keptIn_61 (by decide) ?_
          exact hk4 H locs ls G25 G32 G37 G38 v1_57 v2_58  hI e25 e32 e37 e38 (lv_sub hl [2, 1, 0] rfl) h
        · replace h := ite_f hc h
          refine lv_aload_n hx hb dX12_keptIn_26 rfl (lv_at hl 0 rfl) ?_
          refine gf_X12_197 hx hb hts hown hKK hI hN dX12_keptIn_27 ?_
          refine lv_iload_n hx hb dX12_keptIn_30 rfl (lv_at hl 2 rfl) ?_
          obtain ⟨hin_, h⟩ := ck_e h
          refine la_66 hx hb hKK hI e38 (lc153 hN) (kc153 hk0) hin_ dX12_keptIn_31 ?_
          refine lv_aload_n hx hb dX12_keptIn_32 rfl (lv_at hl 0 rfl) ?_
          refine gf_X12_46 hx hb hts hown hKK hI hN dX12_keptIn_33 ?_
          refine lv_aload_n hx hb dX12_keptIn_36 rfl (lv_at hl 0 rfl) ?_
          refine gf_X12_133 hx hb hts hown hKK hI hN dX12_keptIn_37 ?_
          refine lv_aload_n hx hb dX12_keptIn_40 rfl (lv_at hl 0 rfl) ?_
          refine gf_X12_203 hx hb hts hown hKK hI hN dX12_keptIn_41 ?_
          refine lv_iload_n hx hb dX12_keptIn_44 rfl (lv_at hl 2 rfl) ?_
          obtain ⟨hin_, h⟩ := ck_e h
          refine la_66 hx hb hKK hI e38 (lc155 hN) (kc155 hk0) hin_ dX12_keptIn_45 ?_
          obtain ⟨hin_, h⟩ := ck_e h
          refine la_57 hx hb hKK hI e32 (lc132 hN) (kc132 hk0) hin_ dX12_keptIn_46 ?_
          obtain ⟨hin_, h⟩ := ck_e h
          refine la_44 hx hb hKK hI e25 (lc104 hN) (kc104 hk0) hin_ dX12_keptIn_47 ?_
          refine lv_icmp_ne (tgt := 55) hx hb dX12_keptIn_48 (by decide) (fun hc => ?_) (fun hc => ?_)
          · replace h := ite_f hc h
            refine lv_iconst (v := 0) hx hb dX12_keptIn_55 (by decide) ?_
            refine lv_iadd hx hb dX12_keptIn_56 ?_
            obtain ⟨v1_57, qq, h⟩ := bn_e h
            refine topi qq ?_
            refine lv_istore_n (lv' := [(1, .int v1_57), (0, .ref (HB.size + 91)), (2, .int v2)]) hx hb dX12_keptIn_57 rfl hl (by decide) rfl (fun ls hl => ?_)
            obtain ⟨v2_58, qq, h⟩ := bn_e h
            refine lv_iinc (v := v2_58) (lv' := [(2, .int v2_58), (1, .int v1_57), (0, .ref (HB.size + 91))]) hx hb dX12_keptIn_58 hl (k := 2) rfl (by rw [qq]; rfl) (by decide) rfl (fun ls hl => ?_)
            refine lv_goto (tgt := 4) hx hb dX12_keptIn_61 (by decide) ?_
            exact hk4 H locs ls G25 G32 G37 G38 v1_57 v2_58  hI e25 e32 e37 e38 (lv_sub hl [2, 1, 0] rfl) h
          · replace h := ite_t hc h
            refine lv_iconst (v := 1) hx hb dX12_keptIn_51 (by decide) ?_
            refine lv_goto (tgt := 56) hx hb dX12_keptIn_52 (by decide) ?_
            refine lv_iadd hx hb dX12_keptIn_56 ?_
            obtain ⟨v1_57, qq, h⟩ := bn_e h
            refine topi qq ?_
            refine lv_istore_n (lv' := [(1, .int v1_57), (0, .ref (HB.size + 91)), (2, .int v2)]) hx hb dX12_keptIn_57 rfl hl (by decide) rfl (fun ls hl => ?_)
            obtain ⟨v2_58, qq, h⟩ := bn_e h
            refine lv_iinc (v := v2_58) (lv' := [(2, .int v2_58), (1, .int v1_57), (0, .ref (HB.size + 91))]) hx hb dX12_keptIn_58 hl (k := 2) rfl (by rw [qq]; rfl) (by decide) rfl (fun ls hl => ?_)
            refine lv_goto (tgt := 4) hx hb dX12_keptIn_61 (by decide) ?_
            exact hk4 H locs ls G25 G32 G37 G38 v1_57 v2_58  hI e25 e32 e37 e38 (lv_sub hl [2, 1, 0] rfl) h
  show WX RM_X12_keptIn p l e s m args below meth c HB (some (.int q)) (B_X12_keptIn HB D y n κ σ q) s.heap [] (F0 m 0 ls [])
  generalize s.heap = H at hI ⊢
  unfold f_X12_keptIn at h
  obtain ⟨locs, hlocs⟩ : ∃ x : List Loc, x = [] := ⟨_, rfl⟩
  rw [← hlocs] at hI ⊢
  refine lv_iconst (v := 0) hx hb dX12_keptIn_0 (by decide) ?_
  refine lv_istore_n (lv' := [(1, .int 0), (0, .ref (HB.size + 91))]) hx hb dX12_keptIn_1 rfl hl (by decide) rfl (fun ls hl => ?_)
  refine lv_iconst (v := 0) hx hb dX12_keptIn_2 (by decide) ?_
  refine lv_istore_n (lv' := [(2, .int 0), (1, .int 0), (0, .ref (HB.size + 91))]) hx hb dX12_keptIn_3 rfl hl (by decide) rfl (fun ls hl => ?_)
  exact b4  F H locs ls G25 G32 G37 G38 0 0  hI e25 e32 e37 e38 (lv_sub hl [2, 1, 0] rfl) h
