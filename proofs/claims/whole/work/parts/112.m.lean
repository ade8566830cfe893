noncomputable def f_X12_letter_l206b (F : Nat)  (k206 : Grp → Grp → Grp → Grp → Grp → Int32 → Int32 → Int32 → Option (Int32 × Grp × Grp × Grp)) (G23 : Grp) (G25 : Grp) (G27 : Grp) (G32 : Grp) (G33 : Grp) (v7 : Int32) (v8 : Int32) (v9 : Int32) : Option (Int32 × Grp × Grp × Grp) :=
  if v7 ≤ v9 then bn (gI G27 91 20 0) (fun G27_242 => bn (gI G32 91 57 ((G32.1 91 57) + 1)) (fun G32_252 => some (v8, G27_242, G32_252, G33))) else ck v9 240 (ck ((160 * v8) + v9) 32000 (bn (gI G32 143 ((160 * v8) + v9).toNatClampNeg (vp_nar .byte (G27.1 106 v9.toNatClampNeg))) (fun G32_233 => bn (v9 + 1) (fun v9_234 => k206 G23 G25 G27 G32_233 G33 v7 v8 v9_234))))
noncomputable def f_X12_letter_l206 (F : Nat)  (fu : Nat) : Grp → Grp → Grp → Grp → Grp → Int32 → Int32 → Int32 → Option (Int32 × Grp × Grp × Grp) := Nat.rec (motive := fun _ => Grp → Grp → Grp → Grp → Grp → Int32 → Int32 → Int32 → Option (Int32 × Grp × Grp × Grp)) (fun _ _ _ _ _ _ _ _ => none) (fun _ ih => f_X12_letter_l206b F  ih) fu
noncomputable def f_X12_letter (F : Nat) (G23 : Grp) (G25 : Grp) (G27 : Grp) (G32 : Grp) (G33 : Grp) (v1 : Int32) (v2 : Int32) (v3 : Int32) (v4 : Int32) (v5 : Int32) (v6 : Int32) (v7 : Int32) : Option (Int32 × Grp × Grp × Grp) :=
  ob (f_X12_isPair F G25 v1) (fun q_2 => if q_2 = 0 then some ((-1), G27, G32, G33) else ob (f_X12_isOpen F G25 v1) (fun q_10 => if q_10 = 0 then some ((-1), G27, G32, G33) else ob (f_X12_in F v2 0 1) (fun q_19 => if q_19 = 0 then some ((-1), G27, G32, G33) else ob (f_X12_isMark F v3) (fun q_26 => if q_26 = 0 then some ((-1), G27, G32, G33) else ob (f_X12_isMark F v4) (fun q_34 => if q_34 = 0 then some ((-1), G27, G32, G33) else ob (f_X12_isMark F v5) (fun q_42 => if q_42 = 0 then some ((-1), G27, G32, G33) else ob (f_X12_isMark F v6) (fun q_50 => if q_50 = 0 then some ((-1), G27, G32, G33) else ob (f_X12_isText F G27 v7) (fun q_59 => if q_59 = 0 then some ((-1), G27, G32, G33) else if (G32.1 91 57) = 200 then some ((-1), G27, G32, G33) else bn ((G32.1 91 57)) (fun v8_81 => ck v8_81 200 (bn (gI G32 132 v8_81.toNatClampNeg v1) (fun G32_90 => ck v8_81 200 (bn (gI G32_90 133 v8_81.toNatClampNeg v2) (fun G32_98 => ck v8_81 200 (bn (gI G32_98 134 v8_81.toNatClampNeg (G23.1 91 0)) (fun G32_109 => ck v8_81 200 (bn (gI G32_109 135 v8_81.toNatClampNeg 0) (fun G32_117 => ck v8_81 200 (bn (gI G32_117 136 v8_81.toNatClampNeg (G23.1 91 0)) (fun G32_128 => ck v8_81 200 (bn (gI G32_128 137 v8_81.toNatClampNeg (-1)) (fun G32_136 => ck v8_81 200 (bn (gI G32_136 138 v8_81.toNatClampNeg (-1)) (fun G32_144 => ck v8_81 200 (bn (gI G32_144 139 v8_81.toNatClampNeg v7) (fun G32_153 => ck (4 * v8_81) 800 (bn (gI G33 141 (4 * v8_81).toNatClampNeg v3) (fun G33_163 => ck ((4 * v8_81) + 1) 800 (bn (gI G33_163 141 ((4 * v8_81) + 1).toNatClampNeg v4) (fun G33_176 => ck ((4 * v8_81) + 2) 800 (bn (gI G33_176 141 ((4 * v8_81) + 2).toNatClampNeg v5) (fun G33_189 => ck ((4 * v8_81) + 3) 800 (bn (gI G33_189 141 ((4 * v8_81) + 3).toNatClampNeg v6) (fun G33_202 => f_X12_letter_l206 F  F G23 G25 G27 G32_153 G33_202 v7 v8_81 0)))))))))))))))))))))))))))))))))
def RM_X12_letter : Room := { frames := 3, cells := 0, slots := 0, locals := 62 }
abbrev W_X12_letter : List Nat := [27, 32, 33]
abbrev B_X12_letter (HB : Heap) (D : va_G) (y : Nat → ClassId) (n : Nat) (κ : Nat → Nat) (σ0 : St) (q : Int32 × Grp × Grp × Grp) : Heap → Prop := fun H => ∃ σ : St, IV HB D y n n κ σ [] H ∧ σ 27 = q.2.1 ∧ σ 32 = q.2.2.1 ∧ σ 33 = q.2.2.2 ∧ ∀ j, j ∉ W_X12_letter → σ j = σ0 j
set_option maxRecDepth 100000 in
set_option maxHeartbeats 4000000 in
theorem c_X12_letter (l : Launch) (HB : Heap) (D : va_G) (y : Nat → ClassId) (F n : Nat) (κ : Nat → Nat) (σ0 : St) (hN : N0 ≤ n) (v1 : Int32)  (v2 : Int32)  (v3 : Int32)  (v4 : Int32)  (v5 : Int32)  (v6 : Int32)  (v7 : Int32)  (G23 : Grp) (e23 : σ0 23 = G23) (G25 : Grp) (e25 : σ0 25 = G25) (G27 : Grp) (e27 : σ0 27 = G27) (G32 : Grp) (e32 : σ0 32 = G32) (G33 : Grp) (e33 : σ0 33 = G33) (q : Int32 × Grp × Grp × Grp) (h : f_X12_letter F G23 G25 G27 G32 G33 v1 v2 v3 v4 v5 v6 v7 = some q) : MT l HB D y yX12_letter cX12_letter 10 (some .int) RM_X12_letter [.ref (HB.size + 91), .int v1, .int v2, .int v3, .int v4, .int v5, .int v6, .int v7] (IV HB D y n n κ σ0 []) (some (.int q.1)) (B_X12_letter HB D y n κ σ0 q) := by
  refine Met.ofW (cc := cX12_letter) (maxL := 10) (ret := (some .int)) (by decide) rfl ?_
  intro p e s m args below meth c s₁ BL hml hv
  obtain ⟨rfl, hI, hKK⟩ := hv
  have hx := BL.exec
  have hb := BL.bytes
  have hr := BL.returns
  have hts : ∀ w ∈ gtb, w.before _ s = true := fun w hw => atoms_spec BL.pre w (List.mem_cons_of_mem _ hw)
  have hml : c.maxLocals = 10 := hml
  have hown : s.vm.findClass RX12 = some m.cls := findClass_of_methodNamed BL.named
  have hlocks := BL.notSynchronized
  have hk0 := hI.1.2.2.2.2
  have hl := lv_entry ([.ref (HB.size + 91), .int v1, .int v2, .int v3, .int v4, .int v5, .int v6, .int v7]) (n := 10) (Nat.le_of_ble_eq_true rfl)
  rw [lg_entry_eq]
  generalize (lg_sl ([.ref (HB.size + 91), .int v1, .int v2, .int v3, .int v4, .int v5, .int v6, .int v7]) ++ List.replicate (10 - (lg_sl ([.ref (HB.size + 91), .int v1, .int v2, .int v3, .int v4, .int v5, .int v6, .int v7])).length) Slot.unset).toArray = ls at hl ⊢
  have hl : lv_has ls 10 [(0, .ref (HB.size + 91)), (1, .int v1), (2, .int v2), (3, .int v3), (4, .int v4), (5, .int v5), (6, .int v6), (7, .int v7)] := hl
  generalize hargs : ([.ref (HB.size + 91), .int v1, .int v2, .int v3, .int v4, .int v5, .int v6, .int v7] : List Value).toArray = args at *
  have b206 : ∀ (fu : Nat) (σ : St) (H : Heap) (locs : List Loc) (ls : Array Slot) (G23 : Grp) (G25 : Grp) (G27 : Grp) (G32 : Grp) (G33 : Grp) (v7 : Int32) (v8 : Int32) (v9 : Int32) , IV HB D y n n κ σ locs H → σ 23 = G23 → σ 25 = G25 → σ 27 = G27 → σ 32 = G32 → σ 33 = G33 → (∀ j, j ∉ W_X12_letter → σ j = σ0 j) → lv_has ls 10 [(0, .ref (HB.size + 91)), (7, .int v7), (8, .int v8), (9, .int v9)] → f_X12_letter_l206 F  fu G23 G25 G27 G32 G33 v7 v8 v9 = some q → WX RM_X12_letter p l e s m args below meth c HB (some (.int q.1)) (B_X12_letter HB D y n κ σ0 q) H locs (F0 m 206 ls []) := by
    intro  fu
    induction fu with
    | zero =>
      intro σ H locs ls G23 G25 G27 G32 G33 v7 v8 v9 hI e23 e25 e27 e32 e33 fr hl h
      exact absurd h (by intro h; cases h)
    | succ fu hk206 =>
      intro σ H locs ls G23 G25 G27 G32 G33 v7 v8 v9 hI e23 e25 e27 e32 e33 fr hl h
      have h : f_X12_letter_l206b F  (f_X12_letter_l206 F  fu) G23 G25 G27 G32 G33 v7 v8 v9 = some q := h
      generalize f_X12_letter_l206 F  fu = k206 at h hk206
      unfold f_X12_letter_l206b at h
      refine lv_iload hx hb dX12_letter_206 (lv_at hl 3 rfl) ?_
      refine lv_iload hx hb dX12_letter_208 (lv_at hl 1 rfl) ?_
      refine lv_icmp_ge (tgt := 240) hx hb dX12_letter_210 (by decide) (fun hc => ?_) (fun hc => ?_)
      · replace h := ite_t hc h
        refine lv_aload_n hx hb dX12_letter_240 rfl (lv_at hl 0 rfl) ?_
        refine lv_iconst (v := 0) hx hb dX12_letter_241 (by decide) ?_
        obtain ⟨G27_242, qq, h⟩ := bn_e h
        refine pt_X12_311 hx hb hts hown hKK hI e27 (lc91 hN) (kc91 hk0) dX12_letter_242 (fun σ H locs hI ew ho => ?_)
        have e27 := ew.trans qq.symm
        have e23 := (ho 23 (nn rfl)).trans e23
        have e25 := (ho 25 (nn rfl)).trans e25
        have e32 := (ho 32 (nn rfl)).trans e32
        have e33 := (ho 33 (nn rfl)).trans e33
        have fr := frs fr ho (by decide)
        refine lv_aload_n hx hb dX12_letter_245 rfl (lv_at hl 0 rfl) ?_
        refine lv_aload_n hx hb dX12_letter_246 rfl (lv_at hl 0 rfl) ?_
        refine gt_X12_431 hx hb hts hown hKK hI e32 (lc91 hN) (kc91 hk0) dX12_letter_247 ?_
        refine lv_iconst (v := 1) hx hb dX12_letter_250 (by decide) ?_
        refine lv_iadd hx hb dX12_letter_251 ?_
        obtain ⟨G32_252, qq, h⟩ := bn_e h
        refine pt_X12_431 hx hb hts hown hKK hI e32 (lc91 hN) (kc91 hk0) dX12_letter_252 (fun σ H locs hI ew ho => ?_)
        have e32 := ew.trans qq.symm
        have e23 := (ho 23 (nn rfl)).trans e23
        have e25 := (ho 25 (nn rfl)).trans e25
        have e27 := (ho 27 (nn rfl)).trans e27
        have e33 := (ho 33 (nn rfl)).trans e33
        have fr := frs fr ho (by decide)
        refine lv_iload hx hb dX12_letter_255 (lv_at hl 2 rfl) ?_
        have hq := Option.some.inj h
        exact W.iret (v := v8) hx hb hr (fun t ht hW => qc_mk (congrArg (fun z => Outcome.returned (some (Value.int z.1))) hq) (by rw [ht]; exact ⟨σ, hI.nil, e27.trans (congrArg (fun z => z.2.1) hq), e32.trans (congrArg (fun z => z.2.2.1) hq), e33.trans (congrArg (fun z => z.2.2.2) hq), fr⟩)) hI.2.2 dX12_letter_257 hlocks
      · replace h := ite_f hc h
        refine lv_aload_n hx hb dX12_letter_213 rfl (lv_at hl 0 rfl) ?_
        refine gf_X12_166 hx hb hts hown hKK hI hN dX12_letter_214 ?_
        refine lv_sipush (v := 160) hx hb dX12_letter_217 (by decide) ?_
        refine lv_iload hx hb dX12_letter_220 (lv_at hl 2 rfl) ?_
        refine lv_imul hx hb dX12_letter_222 ?_
        refine lv_iload hx hb dX12_letter_223 (lv_at hl 3 rfl) ?_
        refine lv_iadd hx hb dX12_letter_225 ?_
        refine lv_aload_n hx hb dX12_letter_226 rfl (lv_at hl 0 rfl) ?_
        refine gf_X12_52 hx hb hts hown hKK hI hN dX12_letter_227 ?_
        refine lv_iload hx hb dX12_letter_230 (lv_at hl 3 rfl) ?_
        obtain ⟨hin_, h⟩ := ck_e h
        refine la_46 hx hb hKK hI e27 (lc106 hN) (kc106 hk0) hin_ dX12_letter_232 ?_
        obtain ⟨hin_, h⟩ := ck_e h
        obtain ⟨G32_233, qq, h⟩ := bn_e h
        refine sa_60 hx hb hKK hI e32 (lc143 hN) (kc143 hk0) hin_ dX12_letter_233 (fun σ H locs hI ew ho => ?_)
        have e32 := ew.trans qq.symm
        have e23 := (ho 23 (nn rfl)).trans e23
        have e25 := (ho 25 (nn rfl)).trans e25
        have e27 := (ho 27 (nn rfl)).trans e27
        have e33 := (ho 33 (nn rfl)).trans e33
        have fr := frs fr ho (by decide)
        obtain ⟨v9_234, qq, h⟩ := bn_e h
        refine lv_iinc (v := v9_234) (lv' := [(9, .int v9_234), (0, .ref (HB.size + 91)), (7, .int v7), (8, .int v8)]) hx hb dX12_letter_234 hl (k := 3) rfl (by rw [qq]; rfl) (by decide) rfl (fun ls hl => ?_)
        refine lv_goto (tgt := 206) hx hb dX12_letter_237 (by decide) ?_
        exact hk206 σ H locs ls G23 G25 G27 G32_233 G33 v7 v8 v9_234  hI e23 e25 e27 e32 e33 fr (lv_sub hl [1, 2, 3, 0] rfl) h
  obtain ⟨σ, hI, e23, e25, e27, e32, e33, fr⟩ : ∃ σ : St, IV HB D y n n κ σ [] s.heap ∧ σ 23 = G23 ∧ σ 25 = G25 ∧ σ 27 = G27 ∧ σ 32 = G32 ∧ σ 33 = G33 ∧ ∀ j, j ∉ W_X12_letter → σ j = σ0 j := ⟨σ0, hI, e23, e25, e27, e32, e33, fun _ _ => rfl⟩
  show WX RM_X12_letter p l e s m args below meth c HB (some (.int q.1)) (B_X12_letter HB D y n κ σ0 q) s.heap [] (F0 m 0 ls [])
  generalize s.heap = H at hI ⊢
  unfold f_X12_letter at h
  obtain ⟨locs, hlocs⟩ : ∃ x : List Loc, x = [] := ⟨_, rfl⟩
  rw [← hlocs] at hI ⊢
  refine lv_aload_n hx hb dX12_letter_0 rfl (lv_at hl 0 rfl) ?_
  refine lv_iload_n hx hb dX12_letter_1 rfl (lv_at hl 1 rfl) ?_
  obtain ⟨q_2, hq_2, h⟩ := ob_e h
  refine r_callV (As := [.int v1]) (rest := []) hx hb hml hts hown (c_X12_isPair l HB D y F n κ σ hN v1 G25 e25 q_2 hq_2) cal_X12_isPair im_X12_isPair se_X12_isPair lm_X12_304 ⟨Nat.le_of_ble_eq_true rfl, Nat.le_of_ble_eq_true rfl⟩ hI.nil hKK (r_recv hKK hI (hE12 HB.size y) rfl (lc91 hN) (kc91 hk0)) rfl hl.1 hI.2.2 rfl (Nat.le_of_ble_eq_true rfl) dX12_letter_2 ⟨Nat.le_of_ble_eq_true rfl, Nat.le_of_ble_eq_true rfl⟩ rfl rfl rfl (fun H locs hB hlo => ?_)
  have hI := hB.re hlo
  refine lv_if_eq (tgt := 75) hx hb dX12_letter_5 (by decide) (fun hc => ?_) (fun hc => ?_)
  · replace h := ite_t hc h
    refine lv_iconst (v := (-1)) hx hb dX12_letter_75 (by decide) ?_
    have hq := Option.some.inj h
    exact W.iret (v := (-1)) hx hb hr (fun t ht hW => qc_mk (congrArg (fun z => Outcome.returned (some (Value.int z.1))) hq) (by rw [ht]; exact ⟨σ, hI.nil, e27.trans (congrArg (fun z => z.2.1) hq), e32.trans (congrArg (fun z => z.2.2.1) hq), e33.trans (congrArg (fun z => z.2.2.2) hq), fr⟩)) hI.2.2 dX12_letter_76 hlocks
  · replace h := ite_f hc h
    refine lv_aload_n hx hb dX12_letter_8 rfl (lv_at hl 0 rfl) ?_
    refine lv_iload_n hx hb dX12_letter_9 rfl (lv_at hl 1 rfl) ?_
    obtain ⟨q_10, hq_10, h⟩ := ob_e h
    refine r_callV (As := [.int v1]) (rest := []) hx hb hml hts hown (c_X12_isOpen l HB D y F n κ σ hN v1 G25 e25 q_10 hq_10) cal_X12_isOpen im_X12_isOpen se_X12_isOpen lm_X12_277 ⟨Nat.le_of_ble_eq_true rfl, Nat.le_of_ble_eq_true rfl⟩ hI.nil hKK (r_recv hKK hI (hE12 HB.size y) rfl (lc91 hN) (kc91 hk0)) rfl hl.1 hI.2.2 rfl (Nat.le_of_ble_eq_true rfl) dX12_letter_10 ⟨Nat.le_of_ble_eq_true rfl, Nat.le_of_ble_eq_true rfl⟩ rfl rfl rfl (fun H locs hB hlo => ?_)
    have hI := hB.re hlo
    refine lv_if_eq (tgt := 75) hx hb dX12_letter_13 (by decide) (fun hc => ?_) (fun hc => ?_)
    · replace h := ite_t hc h
      refine lv_iconst (v := (-1)) hx hb dX12_letter_75 (by decide) ?_
      have hq := Option.some.inj h
      exact W.iret (v := (-1)) hx hb hr (fun t ht hW => qc_mk (congrArg (fun z => Outcome.returned (some (Value.int z.1))) hq) (by rw [ht]; exact ⟨σ, hI.nil, e27.trans (congrArg (fun z => z.2.1) hq), e32.trans (congrArg (fun z => z.2.2.1) hq), e33.trans (congrArg (fun z => z.2.2.2) hq), fr⟩)) hI.2.2 dX12_letter_76 hlocks
    · replace h := ite_f hc h
      refine lv_iload_n hx hb dX12_letter_16 rfl (lv_at hl 2 rfl) ?_
      refine lv_iconst (v := 0) hx hb dX12_letter_17 (by decide) ?_
      refine lv_iconst (v := 1) hx hb dX12_letter_18 (by decide) ?_
      obtain ⟨q_19, hq_19, h⟩ := ob_e h
      refine r_callS (As := [.int v2, .int 0, .int 1]) (rest := []) hx hb hml hts hown (c_X12_in l HB D y F n κ σ hN v2 0 1  q_19 hq_19) cal_X12_in st_X12_in lm_X12_260 ⟨Nat.le_of_ble_eq_true rfl, Nat.le_of_ble_eq_true rfl⟩ hI.nil hKK rfl hl.1 hI.2.2 rfl (Nat.le_of_ble_eq_true rfl) dX12_letter_19 ⟨Nat.le_of_ble_eq_true rfl, Nat.le_of_ble_eq_true rfl⟩ rfl rfl rfl (fun H locs hB hlo => ?_)
      have hI := hB.re hlo
      refine lv_if_eq (tgt := 75) hx hb dX12_letter_22 (by decide) (fun hc => ?_) (fun hc => ?_)
      · replace h := ite_t hc h
        refine lv_iconst (v := (-1)) hx hb dX12_letter_75 (by decide) ?_
        have hq := Option.some.inj h
        exact W.iret (v := (-1)) hx hb hr (fun t ht hW => qc_mk (congrArg (fun z => Outcome.returned (some (Value.int z.1))) hq) (by rw [ht]; exact ⟨σ, hI.nil, e27.trans (congrArg (fun z => z.2.1) hq), e32.trans (congrArg (fun z => z.2.2.1) hq), e33.trans (congrArg (fun z => z.2.2.2) hq), fr⟩)) hI.2.2 dX12_letter_76 hlocks
      · replace h := ite_f hc h
        refine lv_iload_n hx hb dX12_letter_25 rfl (lv_at hl 3 rfl) ?_
        obtain ⟨q_26, hq_26, h⟩ := ob_e h
        refine r_callS (As := [.int v3]) (rest := []) hx hb hml hts hown (c_X12_isMark l HB D y F n κ σ hN v3  q_26 hq_26) cal_X12_isMark st_X12_isMark lm_X12_434 ⟨Nat.le_of_ble_eq_true rfl, Nat.le_of_ble_eq_true rfl⟩ hI.nil hKK rfl hl.1 hI.2.2 rfl (Nat.le_of_ble_eq_true rfl) dX12_letter_26 ⟨Nat.le_of_ble_eq_true rfl, Nat.le_of_ble_eq_true rfl⟩ rfl rfl rfl (fun H locs hB hlo => ?_)
        have hI := hB.re hlo
        refine lv_if_eq (tgt := 75) hx hb dX12_letter_29 (by decide) (fun hc => ?_) (fun hc => ?_)
        · replace h := ite_t hc h
          refine lv_iconst (v := (-1)) hx hb dX12_letter_75 (by decide) ?_
          have hq := Option.some.inj h
          exact W.iret (v := (-1)) hx hb hr (fun t ht hW => qc_mk (congrArg (fun z => Outcome.returned (some (Value.int z.1))) hq) (by rw [ht]; exact ⟨σ, hI.nil, e27.trans (congrArg (fun z => z.2.1) hq), e32.trans (congrArg (fun z => z.2.2.1) hq), e33.trans (congrArg (fun z => z.2.2.2) hq), fr⟩)) hI.2.2 dX12_letter_76 hlocks
        · replace h := ite_f hc h
          refine lv_iload hx hb dX12_letter_32 (lv_at hl 4 rfl) ?_
          obtain ⟨q_34, hq_34, h⟩ := ob_e h
          refine r_callS (As := [.int v4]) (rest := []) hx hb hml hts hown (c_X12_isMark l HB D y F n κ σ hN v4  q_34 hq_34) cal_X12_isMark st_X12_isMark lm_X12_434 ⟨Nat.le_of_ble_eq_true rfl, Nat.le_of_ble_eq_true rfl⟩ hI.nil hKK rfl hl.1 hI.2.2 rfl (Nat.le_of_ble_eq_true rfl) dX12_letter_34 ⟨Nat.le_of_ble_eq_true rfl, Nat.le_of_ble_eq_true rfl⟩ rfl rfl rfl (fun H locs hB hlo => ?_)
          have hI := hB.re hlo
          refine lv_if_eq (tgt := 75) hx hb dX12_letter_37 (by decide) (fun hc => ?_) (fun hc => ?_)
          · replace h := ite_t hc h
            refine lv_iconst (v := (-1)) hx hb dX12_letter_75 (by decide) ?_
            have hq := Option.some.inj h
            exact W.iret (v := (-1)) hx hb hr (fun t ht hW => qc_mk (congrArg (fun z => Outcome.returned (some (Value.int z.1))) hq) (by rw [ht]; exact ⟨σ, hI.nil, e27.trans (congrArg (fun z => z.2.1) hq), e32.trans (congrArg (fun z => z.2.2.1) hq), e33.trans (congrArg (fun z => z.2.2.2) hq), fr⟩)) hI.2.2 dX12_letter_76 hlocks
          · replace h := ite_f hc h
            refine lv_iload hx hb dX12_letter_40 (lv_at hl 5 rfl) ?_
            obtain ⟨q_42, hq_42, h⟩ := ob_e h
            refine r_callS (As := [.int v5]) (rest := []) hx hb hml hts hown (c_X12_isMark l HB D y F n κ σ hN v5  q_42 hq_42) cal_X12_isMark st_X12_isMark lm_X12_434 ⟨Nat.le_of_ble_eq_true rfl, Nat.le_of_ble_eq_true rfl⟩ hI.nil hKK rfl hl.1 hI.2.2 rfl (Nat.le_of_ble_eq_true rfl) dX12_letter_42 ⟨Nat.le_of_ble_eq_true rfl, Nat.le_of_ble_eq_true rfl⟩ rfl rfl rfl (fun H locs hB hlo => ?_)
            have hI := hB.re hlo
            refine lv_if_eq (tgt := 75) hx hb dX12_letter_45 (by decide) (fun hc => ?_) (fun hc => ?_)
            · replace h := ite_t hc h
              refine lv_iconst (v := (-1)) hx hb dX12_letter_75 (by decide) ?_
              have hq := Option.some.inj h
              exact W.iret (v := (-1)) hx hb hr (fun t ht hW => qc_mk (congrArg (fun z => Outcome.returned (some (Value.int z.1))) hq) (by rw [ht]; exact ⟨σ, hI.nil, e27.trans (congrArg (fun z => z.2.1) hq), e32.trans (congrArg (fun z => z.2.2.1) hq), e33.trans (congrArg (fun z => z.2.2.2) hq), fr⟩)) hI.2.2 dX12_letter_76 hlocks
            · replace h := ite_f hc h
              refine lv_iload hx hb dX12_letter_48 (lv_at hl 6 rfl) ?_
              obtain ⟨q_50, hq_50, h⟩ := ob_e h
              refine r_callS (As := [.int v6]) (rest := []) hx hb hml hts hown (c_X12_isMark l HB D y F n κ σ hN v6  q_50 hq_50) cal_X12_isMark st_X12_isMark lm_X12_434 ⟨Nat.le_of_ble_eq_true rfl, Nat.le_of_ble_eq_true rfl⟩ hI.nil hKK rfl hl.1 hI.2.2 rfl (Nat.le_of_ble_eq_true rfl) dX12_letter_50 ⟨Nat.le_of_ble_eq_true rfl, Nat.le_of_ble_eq_true rfl⟩ rfl rfl rfl (fun H locs hB hlo => ?_)
              have hI := hB.re hlo
              refine lv_if_eq (tgt := 75) hx hb dX12_letter_53 (by decide) (fun hc => ?_) (fun hc => ?_)
              · replace h := ite_t hc h
                refine lv_iconst (v := (-1)) hx hb dX12_letter_75 (by decide) ?_
                have hq := Option.some.inj h
                exact W.iret (v := (-1)) hx hb hr (fun t ht hW => qc_mk (congrArg (fun z => Outcome.returned (some (Value.int z.1))) hq) (by rw [ht]; exact ⟨σ, hI.nil, e27.trans (congrArg (fun z => z.2.1) hq), e32.trans (congrArg (fun z => z.2.2.1) hq), e33.trans (congrArg (fun z => z.2.2.2) hq), fr⟩)) hI.2.2 dX12_letter_76 hlocks
              · replace h := ite_f hc h
                refine lv_aload_n hx hb dX12_letter_56 rfl (lv_at hl 0 rfl) ?_
                refine lv_iload hx hb dX12_letter_57 (lv_at hl 7 rfl) ?_
                obtain ⟨q_59, hq_59, h⟩ := ob_e h
                refine r_callV (As := [.int v7]) (rest := []) hx hb hml hts hown (c_X12_isText l HB D y F n κ σ hN v7 G27 e27 q_59 hq_59) cal_X12_isText im_X12_isText se_X12_isText lm_X12_422 ⟨Nat.le_of_ble_eq_true rfl, Nat.le_of_ble_eq_true rfl⟩ hI.nil hKK (r_recv hKK hI (hE12 HB.size y) rfl (lc91 hN) (kc91 hk0)) rfl hl.1 hI.2.2 rfl (Nat.le_of_ble_eq_true rfl) dX12_letter_59 ⟨Nat.le_of_ble_eq_true rfl, Nat.le_of_ble_eq_true rfl⟩ rfl rfl rfl (fun H locs hB hlo => ?_)
                have hI := hB.re hlo
                refine lv_if_eq (tgt := 75) hx hb dX12_letter_62 (by decide) (fun hc => ?_) (fun hc => ?_)
                · replace h := ite_t hc h
                  refine lv_iconst (v := (-1)) hx hb dX12_letter_75 (by decide) ?_
                  have hq := Option.some.inj h
                  exact W.iret (v := (-1)) hx hb hr (fun t ht hW => qc_mk (congrArg (fun z => Outcome.returned (some (Value.int z.1))) hq) (by rw [ht]; exact ⟨σ, hI.nil, e27.trans (congrArg (fun z => z.2.1) hq), e32.trans (congrArg (fun z => z.2.2.1) hq), e33.trans (congrArg (fun z => z.2.2.2) hq), fr⟩)) hI.2.2 dX12_letter_76 hlocks
                · replace h := ite_f hc h
                  refine lv_aload_n hx hb dX12_letter_65 rfl (lv_at hl 0 rfl) ?_
                  refine gt_X12_431 hx hb hts hown hKK hI e32 (lc91 hN) (kc91 hk0) dX12_letter_66 ?_
                  refine lv_sipush (v := 200) hx hb dX12_letter_69 (by decide) ?_
                  refine lv_icmp_ne (tgt := 77) hx hb dX12_letter_72 (by decide) (fun hc => ?_) (fun hc => ?_)
                  · replace h := ite_f hc h
                    refine lv_aload_n hx hb dX12_letter_77 rfl (lv_at hl 0 rfl) ?_
                    refine gt_X12_431 hx hb hts hown hKK hI e32 (lc91 hN) (kc91 hk0) dX12_letter_78 ?_
                    obtain ⟨v8_81, qq, h⟩ := bn_e h
                    refine topi qq ?_
                    refine lv_istore (lv' := [(8, .int v8_81), (0, .ref (HB.size + 91)), (1, .int v1), (2, .int v2), (3, .int v3), (4, .int v4), (5, .int v5), (6, .int v6), (7, .int v7)]) hx hb dX12_letter_81 hl (by decide) rfl (fun ls hl => ?_)
                    refine lv_aload_n hx hb dX12_letter_83 rfl (lv_at hl 1 rfl) ?_
                    refine gf_X12_133 hx hb hts hown hKK hI hN dX12_letter_84 ?_
                    refine lv_iload hx hb dX12_letter_87 (lv_at hl 0 rfl) ?_
                    refine lv_iload_n hx hb dX12_letter_89 rfl (lv_at hl 2 rfl) ?_
                    obtain ⟨hin_, h⟩ := ck_e h
                    obtain ⟨G32_90, qq, h⟩ := bn_e h
                    refine sa_57 hx hb hKK hI e32 (lc132 hN) (kc132 hk0) hin_ dX12_letter_90 (fun σ H locs hI ew ho => ?_)
                    have e32 := ew.trans qq.symm
                    have e23 := (ho 23 (nn rfl)).trans e23
                    have e25 := (ho 25 (nn rfl)).trans e25
                    have e27 := (ho 27 (nn rfl)).trans e27
                    have e33 := (ho 33 (nn rfl)).trans e33
                    have fr := frs fr ho (by decide)
                    refine lv_aload_n hx hb dX12_letter_91 rfl (lv_at hl 1 rfl) ?_
                    refine gf_X12_136 hx hb hts hown hKK hI hN dX12_letter_92 ?_
                    refine lv_iload hx hb dX12_letter_95 (lv_at hl 0 rfl) ?_
                    refine lv_iload_n hx hb dX12_letter_97 rfl (lv_at hl 3 rfl) ?_
                    obtain ⟨hin_, h⟩ := ck_e h
                    obtain ⟨G32_98, qq, h⟩ := bn_e h
                    refine sa_57 hx hb hKK hI e32 (lc133 hN) (kc133 hk0) hin_ dX12_letter_98 (fun σ H locs hI ew ho => ?_)
                    have e32 := ew.trans qq.symm
                    have e23 := (ho 23 (nn rfl)).trans e23
                    have e25 := (ho 25 (nn rfl)).trans e25
                    have e27 := (ho 27 (nn rfl)).trans e27
                    have e33 := (ho 33 (nn rfl)).trans e33
                    have fr := frs fr ho (by decide)
                    refine lv_aload_n hx hb dX12_letter_99 rfl (lv_at hl 1 rfl) ?_
                    refine gf_X12_139 hx hb hts hown hKK hI hN dX12_letter_100 ?_
                    refine lv_iload hx hb dX12_letter_103 (lv_at hl 0 rfl) ?_
                    refine lv_aload_n hx hb dX12_letter_105 rfl (lv_at hl 1 rfl) ?_
                    refine gt_X12_281 hx hb hts hown hKK hI e23 (lc91 hN) (kc91 hk0) dX12_letter_106 ?_
                    obtain ⟨hin_, h⟩ := ck_e h
                    obtain ⟨G32_109, qq, h⟩ := bn_e h
                    refine sa_57 hx hb hKK hI e32 (lc134 hN) (kc134 hk0) hin_ dX12_letter_109 (fun σ H locs hI ew ho => ?_)
                    have e32 := ew.trans qq.symm
                    have e23 := (ho 23 (nn rfl)).trans e23
                    have e25 := (ho 25 (nn rfl)).trans e25
                    have e27 := (ho 27 (nn rfl)).trans e27
                    have e33 := (ho 33 (nn rfl)).trans e33
                    have fr := frs fr ho (by decide)
                    refine lv_aload_n hx hb dX12_letter_110 rfl (lv_at hl 1 rfl) ?_
                    refine gf_X12_142 hx hb hts hown hKK hI hN dX12_letter_111 ?_
                    refine lv_iload hx hb dX12_letter_114 (lv_at hl 0 rfl) ?_
                    refine lv_iconst (v := 0) hx hb dX12_letter_116 (by decide) ?_
                    obtain ⟨hin_, h⟩ := ck_e h
                    obtain ⟨G32_117, qq, h⟩ := bn_e h
                    refine sa_57 hx hb hKK hI e32 (lc135 hN) (kc135 hk0) hin_ dX12_letter_117 (fun σ H locs hI ew ho => ?_)
                    have e32 := ew.trans qq.symm
                    have e23 := (ho 23 (nn rfl)).trans e23
                    have e25 := (ho 25 (nn rfl)).trans e25
                    have e27 := (ho 27 (nn rfl)).trans e27
                    have e33 := (ho 33 (nn rfl)).trans e33
                    have fr := frs fr ho (by decide)
                    refine lv_aload_n hx hb dX12_letter_118 rfl (lv_at hl 1 rfl) ?_
                    refine gf_X12_145 hx hb hts hown hKK hI hN dX12_letter_119 ?_
                    refine lv_iload hx hb dX12_letter_122 (lv_at hl 0 rfl) ?_
                    refine lv_aload_n hx hb dX12_letter_124 rfl (lv_at hl 1 rfl) ?_
                    refine gt_X12_281 hx hb hts hown hKK hI e23 (lc91 hN) (kc91 hk0) dX12_letter_125 ?_
                    obtain ⟨hin_, h⟩ := ck_e h
                    obtain ⟨G32_128, qq, h⟩ := bn_e h
                    refine sa_57 hx hb hKK hI e32 (lc136 hN) (kc136 hk0) hin_ dX12_letter_128 (fun σ H locs hI ew ho => ?_)
                    have e32 := ew.trans qq.symm
                    have e23 := (ho 23 (nn rfl)).trans e23
                    have e25 := (ho 25 (nn rfl)).trans e25
                    have e27 := (ho 27 (nn rfl)).trans e27
                    have e33 := (ho 33 (nn rfl)).trans e33
                    have fr := frs fr ho (by decide)
                    refine lv_aload_n hx hb dX12_letter_129 rfl (lv_at hl 1 rfl) ?_
                    refine gf_X12_148 hx hb hts hown hKK hI hN dX12_letter_130 ?_
                    refine lv_iload hx hb dX12_letter_133 (lv_at hl 0 rfl) ?_
                    refine lv_iconst (v := (-1)) hx hb dX12_letter_135 (by decide) ?_
                    obtain ⟨hin_, h⟩ := ck_e h
                    obtain ⟨G32_136, qq, h⟩ := bn_e h
                    refine sa_57 hx hb hKK hI e32 (lc137 hN) (kc137 hk0) hin_ dX12_letter_136 (fun σ H locs hI ew ho => ?_)
                    have e32 := ew.trans qq.symm
                    have e23 := (ho 23 (nn rfl)).trans e23
                    have e25 := (ho 25 (nn rfl)).trans e25
                    have e27 := (ho 27 (nn rfl)).trans e27
                    have e33 := (ho 33 (nn rfl)).trans e33
                    have fr := frs fr ho (by decide)
                    refine lv_aload_n hx hb dX12_letter_137 rfl (lv_at hl 1 rfl) ?_
                    refine gf_X12_151 hx hb hts hown hKK hI hN dX12_letter_138 ?_
                    refine lv_iload hx hb dX12_letter_141 (lv_at hl 0 rfl) ?_
                    refine lv_iconst (v := (-1)) hx hb dX12_letter_143 (by decide) ?_
                    obtain ⟨hin_, h⟩ := ck_e h
                    obtain ⟨G32_144, qq, h⟩ := bn_e h
                    refine sa_57 hx hb hKK hI e32 (lc138 hN) (kc138 hk0) hin_ dX12_letter_144 (fun σ H locs hI ew ho => ?_)
                    have e32 := ew.trans qq.symm
                    have e23 := (ho 23 (nn rfl)).trans e23
                    have e25 := (ho 25 (nn rfl)).trans e25
                    have e27 := (ho 27 (nn rfl)).trans e27
                    have e33 := (ho 33 (nn rfl)).trans e33
                    have fr := frs fr ho (by decide)
                    refine lv_aload_n hx hb dX12_letter_145 rfl (lv_at hl 1 rfl) ?_
                    refine gf_X12_154 hx hb hts hown hKK hI hN dX12_letter_146 ?_
                    refine lv_iload hx hb dX12_letter_149 (lv_at hl 0 rfl) ?_
                    refine lv_iload hx hb dX12_letter_151 (lv_at hl 8 rfl) ?_
                    obtain ⟨hin_, h⟩ := ck_e h
                    obtain ⟨G32_153, qq, h⟩ := bn_e h
                    refine sa_57 hx hb hKK hI e32 (lc139 hN) (kc139 hk0) hin_ dX12_letter_153 (fun σ H locs hI ew ho => ?_)
                    have e32 := ew.trans qq.symm
                    have e23 := (ho 23 (nn rfl)).trans e23
                    have e25 := (ho 25 (nn rfl)).trans e25
                    have e27 := (ho 27 (nn rfl)).trans e27
                    have e33 := (ho 33 (nn rfl)).trans e33
                    have fr := frs fr ho (by decide)
                    refine lv_aload_n hx hb dX12_letter_154 rfl (lv_at hl 1 rfl) ?_
                    refine gf_X12_160 hx hb hts hown hKK hI hN dX12_letter_155 ?_
                    refine lv_iconst (v := 4) hx hb dX12_letter_158 (by decide) ?_
                    refine lv_iload hx hb dX12_letter_159 (lv_at hl 0 rfl) ?_
                    refine lv_imul hx hb dX12_letter_161 ?_
                    refine lv_iload_n hx hb dX12_letter_162 rfl (lv_at hl 4 rfl) ?_
                    obtain ⟨hin_, h⟩ := ck_e h
                    obtain ⟨G33_163, qq, h⟩ := bn_e h
                    refine sa_58 hx hb hKK hI e33 (lc141 hN) (kc141 hk0) hin_ dX12_letter_163 (fun σ H locs hI ew ho => ?_)
                    have e33 := ew.trans qq.symm
                    have e23 := (ho 23 (nn rfl)).trans e23
                    have e25 := (ho 25 (nn rfl)).trans e25
                    have e27 := (ho 27 (nn rfl)).trans e27
                    have e32 := (ho 32 (nn rfl)).trans e32
                    have fr := frs fr ho (by decide)
                    refine lv_aload_n hx hb dX12_letter_164 rfl (lv_at hl 1 rfl) ?_
                    refine gf_X12_160 hx hb hts hown hKK hI hN dX12_letter_165 ?_
                    refine lv_iconst (v := 4) hx hb dX12_letter_168 (by decide) ?_
                    refine lv_iload hx hb dX12_letter_169 (lv_at hl 0 rfl) ?_
                    refine lv_imul hx hb dX12_letter_171 ?_
                    refine lv_iconst (v := 1) hx hb dX12_letter_172 (by decide) ?_
                    refine lv_iadd hx hb dX12_letter_173 ?_
                    refine lv_iload hx hb dX12_letter_174 (lv_at hl 5 rfl) ?_
                    obtain ⟨hin_, h⟩ := ck_e h
                    obtain ⟨G33_176, qq, h⟩ := bn_e h
                    refine sa_58 hx hb hKK hI e33 (lc141 hN) (kc141 hk0) hin_ dX12_letter_176 (fun σ H locs hI ew ho => ?_)
                    have e33 := ew.trans qq.symm
                    have e23 := (ho 23 (nn rfl)).trans e23
                    have e25 := (ho 25 (nn rfl)).trans e25
                    have e27 := (ho 27 (nn rfl)).trans e27
                    have e32 := (ho 32 (nn rfl)).trans e32
                    have fr := frs fr ho (by decide)
                    refine lv_aload_n hx hb dX12_letter_177 rfl (lv_at hl 1 rfl) ?_
                    refine gf_X12_160 hx hb hts hown hKK hI hN dX12_letter_178 ?_
                    refine lv_iconst (v := 4) hx hb dX12_letter_181 (by decide) ?_
                    refine lv_iload hx hb dX12_letter_182 (lv_at hl 0 rfl) ?_
                    refine lv_imul hx hb dX12_letter_184 ?_
                    refine lv_iconst (v := 2) hx hb dX12_letter_185 (by decide) ?_
                    refine lv_iadd hx hb dX12_letter_186 ?_
                    refine lv_iload hx hb dX12_letter_187 (lv_at hl 6 rfl) ?_
                    obtain ⟨hin_, h⟩ := ck_e h
                    obtain ⟨G33_189, qq, h⟩ := bn_e h
                    refine sa_58 hx hb hKK hI e33 (lc141 hN) (kc141 hk0) hin_ dX12_letter_189 (fun σ H locs hI ew ho => ?_)
                    have e33 := ew.trans qq.symm
                    have e23 := (ho 23 (nn rfl)).trans e23
                    have e25 := (ho 25 (nn rfl)).trans e25
                    have e27 := (ho 27 (nn rfl)).trans e27
                    have e32 := (ho 32 (nn rfl)).trans e32
                    have fr := frs fr ho (by decide)
                    refine lv_aload_n hx hb dX12_letter_190 rfl (lv_at hl 1 rfl) ?_
                    refine gf_X12_160 hx hb hts hown hKK hI hN dX12_letter_191 ?_
                    refine lv_iconst (v := 4) hx hb dX12_letter_194 (by decide) ?_
                    refine lv_iload hx hb dX12_letter_195 (lv_at hl 0 rfl) ?_
                    refine lv_imul hx hb dX12_letter_197 ?_
                    refine lv_iconst (v := 3) hx hb dX12_letter_198 (by decide) ?_
                    refine lv_iadd hx hb dX12_letter_199 ?_
                    refine lv_iload hx hb dX12_letter_200 (lv_at hl 7 rfl) ?_
                    obtain ⟨hin_, h⟩ := ck_e h
                    obtain ⟨G33_202, qq, h⟩ := bn_e h
                    refine sa_58 hx hb hKK hI e33 (lc141 hN) (kc141 hk0) hin_ dX12_letter_202 (fun σ H locs hI ew ho => ?_)
                    have e33 := ew.trans qq.symm
                    have e23 := (ho 23 (nn rfl)).trans e23
                    have e25 := (ho 25 (nn rfl)).trans e25
                    have e27 := (ho 27 (nn rfl)).trans e27
                    have e32 := (ho 32 (nn rfl)).trans e32
                    have fr := frs fr ho (by decide)
                    refine lv_iconst (v := 0) hx hb dX12_letter_203 (by decide) ?_
                    refine lv_istore (lv' := [(9, .int 0), (8, .int v8_81), (0, .ref (HB.size + 91)), (1, .int v1), (2, .int v2), (3, .int v3), (4, .int v4), (5, .int v5), (6, .int v6), (7, .int v7)]) hx hb dX12_letter_204 hl (by decide) rfl (fun ls hl => ?_)
                    exact b206  F σ H locs ls G23 G25 G27 G32_153 G33_202 v7 v8_81 0  hI e23 e25 e27 e32 e33 fr (lv_sub hl [2, 9, 1, 0] rfl) h
                  · replace h := ite_t hc h
                    refine lv_iconst (v := (-1)) hx hb dX12_letter_75 (by decide) ?_
                    have hq := Option.some.inj h
                    exact W.iret (v := (-1)) hx hb hr (fun t ht hW => qc_mk (congrArg (fun z => Outcome.returned (some (Value.int z.1))) hq) (by rw [ht]; exact ⟨σ, hI.nil, e27.trans (congrArg (fun z => z.2.1) hq), e32.trans (congrArg (fun z => z.2.2.1) hq), e33.trans (congrArg (fun z => z.2.2.2) hq), fr⟩)) hI.2.2 dX12_letter_76 hlocks
noncomputable def f_X12_moves (F : Nat) (G23 : Grp) (G32 : Grp) (v1 : Int32) (v2 : Int32) : Option (Grp) :=
  ck v1 200 (bn (gI G32 135 v1.toNatClampNeg v2) (fun G32_6 => ck v1 200 (bn (gI G32_6 136 v1.toNatClampNeg (G23.1 91 0)) (fun G32_16 => some G32_16))))
def RM_X12_moves : Room := { frames := 0, cells := 0, slots := 0, locals := 0 }
abbrev W_X12_moves : List Nat := [32]
abbrev B_X12_moves (HB : Heap) (D : va_G) (y : Nat → ClassId) (n : Nat) (κ : Nat → Nat) (σ0 : St) (q : Grp) : Heap → Prop := fun H => ∃ σ : St, IV HB D y n n κ σ [] H ∧ σ 32 = q ∧ ∀ j, j ∉ W_X12_moves → σ j = σ0 j
set_option maxRecDepth 100000 in
set_option maxHeartbeats 4000000 in
theorem c_X12_moves (l : Launch) (HB : Heap) (D : va_G) (y : Nat → ClassId) (F n : Nat) (κ : Nat → Nat) (σ0 : St) (hN : N0 ≤ n) (v1 : Int32)  (v2 : Int32)  (G23 : Grp) (e23 : σ0 23 = G23) (G32 : Grp) (e32 : σ0 32 = G32) (q : Grp) (h : f_X12_moves F G23 G32 v1 v2 = some q) : MT l HB D y yX12_moves cX12_moves 3 none RM_X12_moves [.ref (HB.size + 91), .int v1, .int v2] (IV HB D y n n κ σ0 []) none (B_X12_moves HB D y n κ σ0 q) := by
  refine Met.ofW (cc := cX12_moves) (maxL := 3) (ret := none) (by decide) rfl ?_
  intro p e s m args below meth c s₁ BL hml hv
  obtain ⟨rfl, hI, hKK⟩ := hv
  have hx := BL.exec
  have hb := BL.bytes
  have hr := BL.returns
  have hts : ∀ w ∈ gtb, w.before _ s = true := fun w hw => atoms_spec BL.pre w (List.mem_cons_of_mem _ hw)
  have hml : c.maxLocals = 3 := hml
  have hown : s.vm.findClass RX12 = some m.cls := findClass_of_methodNamed BL.named
  have hlocks := BL.notSynchronized
  have hk0 := hI.1.2.2.2.2
  have hl := lv_entry ([.ref (HB.size + 91), .int v1, .int v2]) (n := 3) (Nat.le_of_ble_eq_true rfl)
  rw [lg_entry_eq]
  generalize (lg_sl ([.ref (HB.size + 91), .int v1, .int v2]) ++ List.replicate (3 - (lg_sl ([.ref (HB.size + 91), .int v1, .int v2])).length) Slot.unset).toArray = ls at hl ⊢
  have hl : lv_has ls 3 [(0, .ref (HB.size + 91)), (1, .int v1), (2, .int v2)] := hl
  generalize hargs : ([.ref (HB.size + 91), .int v1, .int v2] : List Value).toArray = args at *
  obtain ⟨σ, hI, e23, e32, fr⟩ : ∃ σ : St, IV HB D y n n κ σ [] s.heap ∧ σ 23 = G23 ∧ σ 32 = G32 ∧ ∀ j, j ∉ W_X12_moves → σ j = σ0 j := ⟨σ0, hI, e23, e32, fun _ _ => rfl⟩
  show WX RM_X12_moves p l e s m args below meth c HB none (B_X12_moves HB D y n κ σ0 q) s.heap [] (F0 m 0 ls [])
  generalize s.heap = H at hI ⊢
  unfold f_X12_moves at h
  obtain ⟨locs, hlocs⟩ : ∃ x : List Loc, x = [] := ⟨_, rfl⟩
  rw [← hlocs] at hI ⊢
  refine lv_aload_n hx hb dX12_moves_0 rfl (lv_at hl 0 rfl) ?_
  refine gf_X12_142 hx hb hts hown hKK hI hN dX12_moves_1 ?_
  refine lv_iload_n hx hb dX12_moves_4 rfl (lv_at hl 1 rfl) ?_
  refine lv_iload_n hx hb dX12_moves_5 rfl (lv_at hl 2 rfl) ?_
  obtain ⟨hin_, h⟩ := ck_e h
  obtain ⟨G32_6, qq, h⟩ := bn_e h
  refine sa_57 hx hb hKK hI e32 (lc135 hN) (kc135 hk0) hin_ dX12_moves_6 (fun σ H locs hI ew ho => ?_)
  have e32 := ew.trans qq.symm
  have e23 := (ho 23 (nn rfl)).trans e23
  have fr := frs fr ho (by decide)
  refine lv_aload_n hx hb dX12_moves_7 rfl (lv_at hl 0 rfl) ?_
  refine gf_X12_145 hx hb hts hown hKK hI hN dX12_moves_8 ?_
  refine lv_iload_n hx hb dX12_moves_11 rfl (lv_at hl 1 rfl) ?_
  refine lv_aload_n hx hb dX12_moves_12 rfl (lv_at hl 0 rfl) ?_
  refine gt_X12_281 hx hb hts hown hKK hI e23 (lc91 hN) (kc91 hk0) dX12_moves_13 ?_
  obtain ⟨hin_, h⟩ := ck_e h
  obtain ⟨G32_16, qq, h⟩ := bn_e h
  refine sa_57 hx hb hKK hI e32 (lc136 hN) (kc136 hk0) hin_ dX12_moves_16 (fun σ H locs hI ew ho => ?_)
  have e32 := ew.trans qq.symm
  have e23 := (ho 23 (nn rfl)).trans e23
  have fr := frs fr ho (by decide)
  have hq := Option.some.inj h
  exact W.vret hx hb hr (fun t ht hW => qc_mk (rfl) (by rw [ht]; exact ⟨σ, hI.nil, e32.trans (congrArg (fun z => z) hq), fr⟩)) hI.2.2 dX12_moves_17 hlocks
noncomputable def f_X12_writerOf (F : Nat) (G25 : Grp) (G32 : Grp) (v1 : Int32) : Option (Int32) :=
  ck v1 200 (if (G32.1 133 v1.toNatClampNeg) = 0 then ck v1 200 (ck (G32.1 132 v1.toNatClampNeg) 40 (some (G25.1 99 (G32.1 132 v1.toNatClampNeg).toNatClampNeg))) else ck v1 200 (ck (G32.1 132 v1.toNatClampNeg) 40 (some (16 + (G25.1 100 (G32.1 132 v1.toNatClampNeg).toNatClampNeg)))))
def RM_X12_writerOf : Room := { frames := 0, cells := 0, slots := 0, locals := 0 }
abbrev B_X12_writerOf (HB : Heap) (D : va_G) (y : Nat → ClassId) (n : Nat) (κ : Nat → Nat) (σ : St) (q : Int32) : Heap → Prop := fun H => IV HB D y n n κ σ [] H
set_option maxRecDepth 100000 in
set_option maxHeartbeats 4000000 in
theorem c_X12_writerOf (l : Launch) (HB : Heap) (D : va_G) (y : Nat → ClassId) (F n : Nat) (κ : Nat → Nat) (σ : St) (hN : N0 ≤ n) (v1 : Int32)  (G25 : Grp) (e25 : σ 25 = G25) (G32 : Grp) (e32 : σ 32 = G32) (q : Int32) (h : f_X12_writerOf F G25 G32 v1 = some q) : MT l HB D y yX12_writerOf cX12_writerOf 2 (some .int) RM_X12_writerOf [.ref (HB.size + 91), .int v1] (IV HB D y n n κ σ []) (some (.int q)) (B_X12_writerOf HB D y n κ σ q) := by
  refine Met.ofW (cc := cX12_writerOf) (maxL := 2) (ret := (some .int)) (by decide) rfl ?_
  intro p e s m args below meth c s₁ BL hml hv
  obtain ⟨rfl, hI, hKK⟩ := hv
  have hx := BL.exec
  have hb := BL.bytes
  have hr := BL.returns
  have hts : ∀ w ∈ gtb, w.before _ s = true := fun w hw => atoms_spec BL.pre w (List.mem_cons_of_mem _ hw)
  have hml : c.maxLocals = 2 := hml
  have hown : s.vm.findClass RX12 = some m.cls := findClass_of_methodNamed BL.named
  have hlocks := BL.notSynchronized
  have hk0 := hI.1.2.2.2.2
  have hl := lv_entry ([.ref (HB.size + 91), .int v1]) (n := 2) (Nat.le_of_ble_eq_true rfl)
  rw [lg_entry_eq]
  generalize (lg_sl ([.ref (HB.size + 91), .int v1]) ++ List.replicate (2 - (lg_sl ([.ref (HB.size + 91), .int v1])).length) Slot.unset).toArray = ls at hl ⊢
  have hl : lv_has ls 2 [(0, .ref (HB.size + 91)), (1, .int v1)] := hl
  generalize hargs : ([.ref (HB.size + 91), .int v1] : List Value).toArray = args at *
  show WX RM_X12_writerOf p l e s m args below meth c HB (some (.int q)) (B_X12_writerOf HB D y n κ σ q) s.heap [] (F0 m 0 ls [])
  generalize s.heap = H at hI ⊢
  unfold f_X12_writerOf at h
  obtain ⟨locs, hlocs⟩ : ∃ x : List Loc, x = [] := ⟨_, rfl⟩
  rw [← hlocs] at hI ⊢
  refine lv_aload_n hx hb dX12_writerOf_0 rfl (lv_at hl 0 rfl) ?_
  refine gf_X12_136 hx hb hts hown hKK hI hN dX12_writerOf_1 ?_
  refine lv_iload_n hx hb dX12_writerOf_4 rfl (lv_at hl 1 rfl) ?_
  obtain ⟨hin_, h⟩ := ck_e h
  refine la_57 hx hb hKK hI e32 (lc133 hN) (kc133 hk0) hin_ dX12_writerOf_5 ?_
  refine lv_if_ne (tgt := 23) hx hb dX12_writerOf_6 (by decide) (fun hc => ?_) (fun hc => ?_)
  · replace h := ite_f hc h
    refine lv_bipush (v := 16) hx hb dX12_writerOf_23 (by decide) ?_
    refine lv_aload_n hx hb dX12_writerOf_25 rfl (lv_at hl 0 rfl) ?_
    refine gf_X12_34 hx hb hts hown hKK hI hN dX12_writerOf_26 ?_
    refine lv_aload_n hx hb dX12_writerOf_29 rfl (lv_at hl 0 rfl) ?_
    refine gf_X12_133 hx hb hts hown hKK hI hN dX12_writerOf_30 ?_
    refine lv_iload_n hx hb dX12_writerOf_33 rfl (lv_at hl 1 rfl) ?_
    obtain ⟨hin_, h⟩ := ck_e h
    refine la_57 hx hb hKK hI e32 (lc132 hN) (kc132 hk0) hin_ dX12_writerOf_34 ?_
    obtain ⟨hin_, h⟩ := ck_e h
    refine la_44 hx hb hKK hI e25 (lc100 hN) (kc100 hk0) hin_ dX12_writerOf_35 ?_
    refine lv_iadd hx hb dX12_writerOf_36 ?_
    have hq := Option.some.inj h
    exact W.iret (v := (16 + (G25.1 100 (G32.1 132 v1.toNatClampNeg).toNatClampNeg))) hx hb hr (fun t ht hW => qc_mk (congrArg (fun z => Outcome.returned (some (Value.int z))) hq) (by rw [ht]; exact hI.nil)) hI.2.2 dX12_writerOf_37 hlocks
  · replace h := ite_t hc h
    refine lv_aload_n hx hb dX12_writerOf_9 rfl (lv_at hl 0 rfl) ?_
    refine gf_X12_31 hx hb hts hown hKK hI hN dX12_writerOf_10 ?_
    refine lv_aload_n hx hb dX12_writerOf_13 rfl (lv_at hl 0 rfl) ?_
    refine gf_X12_133 hx hb hts hown hKK hI hN dX12_writerOf_14 ?_
    refine lv_iload_n hx hb dX12_writerOf_17 rfl (lv_at hl 1 rfl) ?_
    obtain ⟨hin_, h⟩ := ck_e h
    refine la_57 hx hb hKK hI e32 (lc132 hN) (kc132 hk0) hin_ dX12_writerOf_18 ?_
    obtain ⟨hin_, h⟩ := ck_e h
    refine la_44 hx hb hKK hI e25 (lc99 hN) (kc99 hk0) hin_ dX12_writerOf_19 ?_
    refine lv_goto (tgt := 37) hx hb dX12_writerOf_20 (by decide) ?_
    have hq := Option.some.inj h
    exact W.iret (v := (G25.1 99 (G32.1 132 v1.toNatClampNeg).toNatClampNeg)) hx hb hr (fun t ht hW => qc_mk (congrArg (fun z => Outcome.returned (some (Value.int z))) hq) (by rw [ht]; exact hI.nil)) hI.2.2 dX12_writerOf_37 hlocks
noncomputable def f_X12_isUnlike_l26b (F : Nat)  (k26 : Grp → Grp → Grp → Grp → Grp → Int32 → Int32 → Int32 → Int32 → Int32 → Option (Int32)) (G25 : Grp) (G26 : Grp) (G32 : Grp) (G33 : Grp) (G36 : Grp) (v1 : Int32) (v2 : Int32) (v3 : Int32) (v4 : Int32) (v5 : Int32) : Option (Int32) :=
  if 4 ≤ v5 then ck 4 8 (if v4 ≤ (v3 * (G26.1 105 (4 : Int32).toNatClampNeg)) then some 0 else some 1) else ck ((4 * v1) + v5) 800 (ck ((4 * v2) + v5) 128 (bn (((v3 * (G33.1 141 ((4 * v1) + v5).toNatClampNeg)) - (G36.1 148 ((4 * v2) + v5).toNatClampNeg))) (fun v6_57 => if 0 ≤ v6_57 then bn ((v4 + v6_57)) (fun v4_75 => bn (v5 + 1) (fun v5_77 => k26 G25 G26 G32 G33 G36 v1 v2 v3 v4_75 v5_77)) else bn ((v4 + (-v6_57))) (fun v4_75 => bn (v5 + 1) (fun v5_77 => k26 G25 G26 G32 G33 G36 v1 v2 v3 v4_75 v5_77)))))
noncomputable def f_X12_isUnlike_l26 (F : Nat)  (fu : Nat) : Grp → Grp → Grp → Grp → Grp → Int32 → Int32 → Int32 → Int32 → Int32 → Option (Int32) := Nat.rec (motive := fun _ => Grp → Grp → Grp → Grp → Grp → Int32 → Int32 → Int32 → Int32 → Int32 → Option (Int32)) (fun _ _ _ _ _ _ _ _ _ _ => none) (fun _ ih => f_X12_isUnlike_l26b F  ih) fu
noncomputable def f_X12_isUnlike (F : Nat) (G25 : Grp) (G26 : Grp) (G32 : Grp) (G33 : Grp) (G36 : Grp) (v1 : Int32) : Option (Int32) :=
  ob (f_X12_writerOf F G25 G32 v1) (fun q_2 => ck q_2 32 (bn ((G36.1 147 q_2.toNatClampNeg)) (fun v3_12 => if 3 ≤ v3_12 then f_X12_isUnlike_l26 F  F G25 G26 G32 G33 G36 v1 q_2 v3_12 0 0 else some 0)))
def RM_X12_isUnlike : Room := { frames := 1, cells := 0, slots := 0, locals := 21 }
abbrev B_X12_isUnlike (HB : Heap) (D : va_G) (y : Nat → ClassId) (n : Nat) (κ : Nat → Nat) (σ : St) (q : Int32) : Heap → Prop := fun H => IV HB D y n n κ σ [] H
set_option maxRecDepth 100000 in
set_option maxHeartbeats 4000000 in
theorem c_X12_isUnlike (l : Launch) (HB : Heap) (D : va_G) (y : Nat → ClassId) (F n : Nat) (κ : Nat → Nat) (σ : St) (hN : N0 ≤ n) (v1 : Int32)  (G25 : Grp) (e25 : σ 25 = G25) (G26 : Grp) (e26 : σ 26 = G26) (G32 : Grp) (e32 : σ 32 = G32) (G33 : Grp) (e33 : σ 33 = G33) (G36 : Grp) (e36 : σ 36 = G36) (q : Int32) (h : f_X12_isUnlike F G25 G26 G32 G33 G36 v1 = some q) : MT l HB D y yX12_isUnlike cX12_isUnlike 7 (some .boolean) RM_X12_isUnlike [.ref (HB.size + 91), .int v1] (IV HB D y n n κ σ []) (some (.int q)) (B_X12_isUnlike HB D y n κ σ q) := by
  refine Met.ofW (cc := cX12_isUnlike) (maxL := 7) (ret := (some .boolean)) (by decide) rfl ?_
  intro p e s m args below meth c s₁ BL hml hv
  obtain ⟨rfl, hI, hKK⟩ := hv
  have hx := BL.exec
  have hb := BL.bytes
  have hr := BL.returns
  have hts : ∀ w ∈ gtb, w.before _ s = true := fun w hw => atoms_spec BL.pre w (List.mem_cons_of_mem _ hw)
  have hml : c.maxLocals = 7 := hml
  have hown : s.vm.findClass RX12 = some m.cls := findClass_of_methodNamed BL.named
  have hlocks := BL.notSynchronized
  have hk0 := hI.1.2.2.2.2
  have hl := lv_entry ([.ref (HB.size + 91), .int v1]) (n := 7) (Nat.le_of_ble_eq_true rfl)
  rw [lg_entry_eq]
  generalize (lg_sl ([.ref (HB.size + 91), .int v1]) ++ List.replicate (7 - (lg_sl ([.ref (HB.size + 91), .int v1])).length) Slot.unset).toArray = ls at hl ⊢
  have hl : lv_has ls 7 [(0, .ref (HB.size + 91)), (1, .int v1)] := hl
  generalize hargs : ([.ref (HB.size + 91), .int v1] : List Value).toArray = args at *
  have b26 : ∀ (fu : Nat) (H : Heap) (locs : List Loc) (ls : Array Slot) (G25 : Grp) (G26 : Grp) (G32 : Grp) (G33 : Grp) (G36 : Grp) (v1 : Int32) (v2 : Int32) (v3 : Int32) (v4 : Int32) (v5 : Int32) , IV HB D y n n κ σ locs H → σ 25 = G25 → σ 26 = G26 → σ 32 = G32 → σ 33 = G33 → σ 36 = G36 → lv_has ls 7 [(0, .ref (HB.size + 91)), (1, .int v1), (2, .int v2), (3, .int v3), (4, .int v4), (5, .int v5)] → f_X12_isUnlike_l26 F  fu G25 G26 G32 G33 G36 v1 v2 v3 v4 v5 = some q → WX RM_X12_isUnlike p l e s m args below meth c HB (some (.int q)) (B_X12_isUnlike HB D y n κ σ q) H locs (F0 m 26 ls []) := by
    intro  fu
    induction fu with
    | zero =>
      intro H locs ls G25 G26 G32 G33 G36 v1 v2 v3 v4 v5 hI e25 e26 e32 e33 e36 hl h
      exact absurd h (by intro h; cases h)
    | succ fu hk26 =>
      intro H locs ls G25 G26 G32 G33 G36 v1 v2 v3 v4 v5 hI e25 e26 e32 e33 e36 hl h
      have h : f_X12_isUnlike_l26b F  (f_X12_isUnlike_l26 F  fu) G25 G26 G32 G33 G36 v1 v2 v3 v4 v5 = some q := h
      generalize f_X12_isUnlike_l26 F  fu = k26 at h hk26
      unfold f_X12_isUnlike_l26b at h
      refine lv_iload hx hb dX12_isUnlike_26 (lv_at hl 5 rfl) ?_
      refine lv_iconst (v := 4) hx hb dX12_isUnlike_28 (by decide) ?_
      refine lv_icmp_ge (tgt := 83) hx hb dX12_isUnlike_29 (by decide) (fun hc => ?_) (fun hc => ?_)
      · replace h := ite_t hc h
        refine lv_iload hx hb dX12_isUnlike_83 (lv_at hl 4 rfl) ?_
        refine lv_iload_n hx hb dX12_isUnlike_85 rfl (lv_at hl 3 rfl) ?_
        refine lv_aload_n hx hb dX12_isUnlike_86 rfl (lv_at hl 0 rfl) ?_
        refine gf_X12_49 hx hb hts hown hKK hI hN dX12_isUnlike_87 ?_
        refine lv_iconst (v := 4) hx hb dX12_isUnlike_90 (by decide) ?_
        obtain ⟨hin_, h⟩ := ck_e h
        refine la_45 hx hb hKK hI e26 (lc105 hN) (kc105 hk0) hin_ dX12_isUnlike_91 ?_
        refine lv_imul hx hb dX12_isUnlike_92 ?_
        refine lv_icmp_le (tgt := 100) hx hb dX12_isUnlike_93 (by decide) (fun hc => ?_) (fun hc => ?_)
        · replace h := ite_t hc h
          refine lv_iconst (v := 0) hx hb dX12_isUnlike_100 (by decide) ?_
          have hq := Option.some.inj h
          exact W.zret (v := 0) (ty := .boolean) hx hb hr rfl (fun t ht hW => qc_mk (congrArg (fun z => Outcome.returned (some (Value.int z))) hq) (by rw [ht]; exact hI.nil)) hI.2.2 dX12_isUnlike_101 hlocks
        · replace h := ite_f hc h
          refine lv_iconst (v := 1) hx hb dX12_isUnlike_96 (by decide) ?_
          refine lv_goto (tgt := 101) hx hb dX12_isUnlike_97 (by decide) ?_
          have hq := Option.some.inj h
          exact W.zret (v := 1) (ty := .boolean) hx hb hr rfl (fun t ht hW => qc_mk (congrArg (fun z => Outcome.returned (some (Value.int z))) hq) (by rw [ht]; exact hI.nil)) hI.2.2 dX12_isUnlike_101 hlocks
      · replace h := ite_f hc h
        refine lv_iload_n hx hb dX12_isUnlike_32 rfl (lv_at hl 3 rfl) ?_
        refine lv_aload_n hx hb dX12_isUnlike_33 rfl (lv_at hl 0 rfl) ?_
        refine gf_X12_160 hx hb hts hown hKK hI hN dX12_isUnlike_34 ?_
        refine lv_iconst (v := 4) hx hb dX12_isUnlike_37 (by decide) ?_
        refine lv_iload_n hx hb dX12_isUnlike_38 rfl (lv_at hl 1 rfl) ?_
        refine lv_imul hx hb dX12_isUnlike_39 ?_
        refine lv_iload hx hb dX12_isUnlike_40 (lv_at hl 5 rfl) ?_
        refine lv_iadd hx hb dX12_isUnlike_42 ?_
        obtain ⟨hin_, h⟩ := ck_e h
        refine la_58 hx hb hKK hI e33 (lc141 hN) (kc141 hk0) hin_ dX12_isUnlike_43 ?_
        refine lv_imul hx hb dX12_isUnlike_44 ?_
        refine lv_aload_n hx hb dX12_isUnlike_45 rfl (lv_at hl 0 rfl) ?_
        refine gf_X12_182 hx hb hts hown hKK hI hN dX12_isUnlike_46 ?_
        refine lv_iconst (v := 4) hx hb dX12_isUnlike_49 (by decide) ?_
        refine lv_iload_n hx hb dX12_isUnlike_50 rfl (lv_at hl 2 rfl) ?_
        refine lv_imul hx hb dX12_isUnlike_51 ?_
        refine lv_iload hx hb dX12_isUnlike_52 (lv_at hl 5 rfl) ?_
        refine lv_iadd hx hb dX12_isUnlike_54 ?_
        obtain ⟨hin_, h⟩ := ck_e h
        refine la_64 hx hb hKK hI e36 (lc148 hN) (kc148 hk0) hin_ dX12_isUnlike_55 ?_
        refine lv_isub hx hb dX12_isUnlike_56 ?_
        obtain ⟨v6_57, qq, h⟩ := bn_e h
        refine topi qq ?_
        refine lv_istore (lv' := [(6, .int v6_57), (0, .ref (HB.size + 91)), (1, .int v1), (2, .int v2), (3, .int v3), (4, .int v4), (5, .int v5)]) hx hb dX12_isUnlike_57 hl (by decide) rfl (fun ls hl => ?_)
        refine lv_iload hx hb dX12_isUnlike_59 (lv_at hl 5 rfl) ?_
        refine lv_iload hx hb dX12_isUnlike_61 (lv_at hl 0 rfl) ?_
        refine lv_if_ge (tgt := 72) hx hb dX12_isUnlike_63 (by decide) (fun hc => ?_) (fun hc => ?_)
        · replace h := ite_t hc h
          refine lv_iload hx hb dX12_isUnlike_72 (lv_at hl 0 rfl) ?_
          refine lv_iadd hx hb dX12_isUnlike_74 ?_
          obtain ⟨v4_75, qq, h⟩ := bn_e h
          refine topi qq ?_
          refine lv_istore (lv' := [(4, .int v4_75), (6, .int v6_57), (0, .ref (HB.size + 91)), (1, .int v1), (2, .int v2), (3, .int v3), (5, .int v5)]) hx hb dX12_isUnlike_75 hl (by decide) rfl (fun ls hl => ?_)
          obtain ⟨v5_77, qq, h⟩ := bn_e h
          refine lv_iinc (v := v5_77) (lv' := [(5, .int v5_77), (4, .int v4_75), (6, .int v6_57), (0, .ref (HB.size + 91)), (1, .int v1), (2, .int v2), (3, .int v3)]) hx hb dX12_isUnlike_77 hl (k := 6) rfl (by rw [qq]; rfl) (by decide) rfl (fun ls hl => ?_)
          refine lv_goto (tgt := 26) hx hb dX12_isUnlike_80 (by decide) ?_
          exact hk26 H locs ls G25 G26 G32 G33 G36 v1 v2 v3 v4_75 v5_77  hI e25 e26 e32 e33 e36 (lv_sub hl [3, 4, 5, 6, 1, 0] rfl) h
        · replace h := ite_f hc h
          refine lv_iload hx hb dX12_isUnlike_66 (lv_at hl 0 rfl) ?_
          refine lv_ineg hx hb dX12_isUnlike_68 ?_
          refine lv_goto (tgt := 74) hx hb dX12_isUnlike_69 (by decide) ?_
          refine lv_iadd hx hb dX12_isUnlike_74 ?_
          obtain ⟨v4_75, qq, h⟩ := bn_e h
          refine topi qq ?_
          refine lv_istore (lv' := [(4, .int v4_75), (6, .int v6_57), (0, .ref (HB.size + 91)), (1, .int v1), (2, .int v2), (3, .int v3), (5, .int v5)]) hx hb dX12_isUnlike_75 hl (by decide) rfl (fun ls hl => ?_)
          obtain ⟨v5_77, qq, h⟩ := bn_e h
          refine lv_iinc (v := v5_77) (lv' := [(5, .int v5_77), (4, .int v4_75), (6, .int v6_57), (0, .ref (HB.size + 91)), (1, .int v1), (2, .int v2), (3, .int v3)]) hx hb dX12_isUnlike_77 hl (k := 6) rfl (by rw [qq]; rfl) (by decide) rfl (fun ls hl => ?_)
          refine lv_goto (tgt := 26) hx hb dX12_isUnlike_80 (by decide) ?_
          exact hk26 H locs ls G25 G26 G32 G33 G36 v1 v2 v3 v4_75 v5_77  hI e25 e26 e32 e33 e36 (lv_sub hl [3, 4, 5, 6, 1, 0] rfl) h
  show WX RM_X12_isUnlike p l e s m args below meth c HB (some (.int q)) (B_X12_isUnlike HB D y n κ σ q) s.heap [] (F0 m 0 ls [])
  generalize s.heap = H at hI ⊢
  unfold f_X12_isUnlike at h
  obtain ⟨locs, hlocs⟩ : ∃ x : List Loc, x = [] := ⟨_, rfl⟩
  rw [← hlocs] at hI ⊢
  refine lv_aload_n hx hb dX12_isUnlike_0 rfl (lv_at hl 0 rfl) ?_
  refine lv_iload_n hx hb dX12_isUnlike_1 rfl (lv_at hl 1 rfl) ?_
  obtain ⟨q_2, hq_2, h⟩ := ob_e h
  refine r_callV (As := [.int v1]) (rest := []) hx hb hml hts hown (c_X12_writerOf l HB D y F n κ σ hN v1 G25 e25 G32 e32 q_2 hq_2) cal_X12_writerOf im_X12_writerOf se_X12_writerOf lm_X12_437 ⟨Nat.le_of_ble_eq_true rfl, Nat.le_of_ble_eq_true rfl⟩ hI.nil hKK (r_recv hKK hI (hE12 HB.size y) rfl (lc91 hN) (kc91 hk0)) rfl hl.1 hI.2.2 rfl (Nat.le_of_ble_eq_true rfl) dX12_isUnlike_2 ⟨Nat.le_of_ble_eq_true rfl, Nat.le_of_ble_eq_true rfl⟩ rfl rfl rfl (fun H locs hB hlo => ?_)
  have hI := hB.re hlo
  refine lv_istore_n (lv' := [(2, .int q_2), (0, .ref (HB.size + 91)), (1, .int v1)]) hx hb dX12_isUnlike_5 rfl hl (by decide) rfl (fun ls hl => ?_)
  refine lv_aload_n hx hb dX12_isUnlike_6 rfl (lv_at hl 1 rfl) ?_
  refine gf_X12_179 hx hb hts hown hKK hI hN dX12_isUnlike_7 ?_
  refine lv_iload_n hx hb dX12_isUnlike_10 rfl (lv_at hl 0 rfl) ?_
  obtain ⟨hin_, h⟩ := ck_e h
  refine la_63 hx hb hKK hI e36 (lc147 hN) (kc147 hk0) hin_ dX12_isUnlike_11 ?_
  obtain ⟨v3_12, qq, h⟩ := bn_e h
  refine topi qq ?_
  refine lv_istore_n (lv' := [(3, .int v3_12), (2, .int q_2), (0, .ref (HB.size + 91)), (1, .int v1)]) hx hb dX12_isUnlike_12 rfl hl (by decide) rfl (fun ls hl => ?_)
  refine lv_iload_n hx hb dX12_isUnlike_13 rfl (lv_at hl 0 rfl) ?_
  refine lv_iconst (v := 3) hx hb dX12_isUnlike_14 (by decide) ?_
  refine lv_icmp_ge (tgt := 20) hx hb dX12_isUnlike_15 (by decide) (fun hc => ?_) (fun hc => ?_)
  · replace h := ite_t hc h
    refine lv_iconst (v := 0) hx hb dX12_isUnlike_20 (by decide) ?_
    refine lv_istore (lv' := [(4, .int 0), (3, .int v3_12), (2, .int q_2), (0, .ref (HB.size + 91)), (1, .int v1)]) hx hb dX12_isUnlike_21 hl (by decide) rfl (fun ls hl => ?_)
    refine lv_iconst (v := 0) hx hb dX12_isUnlike_23 (by decide) ?_
    refine lv_istore (lv' := [(5, .int 0), (4, .int 0), (3, .int v3_12), (2, .int q_2), (0, .ref (HB.size + 91)), (1, .int v1)]) hx hb dX12_isUnlike_24 hl (by decide) rfl (fun ls hl => ?_)
    exact b26  F H locs ls G25 G26 G32 G33 G36 v1 q_2 v3_12 0 0  hI e25 e26 e32 e33 e36 (lv_sub hl [4, 5, 3, 2, 1, 0] rfl) h
  · replace h := ite_f hc h
    refine lv_iconst (v := 0) hx hb dX12_isUnlike_18 (by decide) ?_
    have hq := Option.some.inj h
    exact W.zret (v := 0) (ty := .boolean) hx hb hr rfl (fun t ht hW => qc_mk (congrArg (fun z => Outcome.returned (some (Value.int z))) hq) (by rw [ht]; exact hI.nil)) hI.2.2 dX12_isUnlike_19 hlocks
noncomputable def f_X12_unlike (F : Nat) (G25 : Grp) (G26 : Grp) (G32 : Grp) (G33 : Grp) (G36 : Grp) (v1 : Int32) : Option (Int32) :=
  ob (f_X12_isLetterThere F G32 v1) (fun q_2 => if q_2 = 0 then some (-1) else ob (f_X12_isUnlike F G25 G26 G32 G33 G36 v1) (fun q_12 => if q_12 = 0 then some 0 else some 1))
def RM_X12_unlike : Room := { frames := 2, cells := 0, slots := 0, locals := 47 }
abbrev B_X12_unlike (HB : Heap) (D : va_G) (y : Nat → ClassId) (n : Nat) (κ : Nat → Nat) (σ : St) (q : Int32) : Heap → Prop := fun H => IV HB D y n n κ σ [] H
set_option maxRecDepth 100000 in
set_option maxHeartbeats 4000000 in
theorem c_X12_unlike (l : Launch) (HB : Heap) (D : va_G) (y : Nat → ClassId) (F n : Nat) (κ : Nat → Nat) (σ : St) (hN : N0 ≤ n) (v1 : Int32)  (G25 : Grp) (e25 : σ 25 = G25) (G26 : Grp) (e26 : σ 26 = G26) (G32 : Grp) (e32 : σ 32 = G32) (G33 : Grp) (e33 : σ 33 = G33) (G36 : Grp) (e36 : σ 36 = G36) (q : Int32) (h : f_X12_unlike F G25 G26 G32 G33 G36 v1 = some q) : MT l HB D y yX12_unlike cX12_unlike 2 (some .int) RM_X12_unlike [.ref (HB.size + 91), .int v1] (IV HB D y n n κ σ []) (some (.int q)) (B_X12_unlike HB D y n κ σ q) := by
  refine Met.ofW (cc := cX12_unlike) (maxL := 2) (ret := (some .int)) (by decide) rfl ?_
  intro p e s m args below meth c s₁ BL hml hv
  obtain ⟨rfl, hI, hKK⟩ := hv
  have hx := BL.exec
  have hb := BL.bytes
  have hr := BL.returns
  have hts : ∀ w ∈ gtb, w.before _ s = true := fun w hw => atoms_spec BL.pre w (List.mem_cons_of_mem _ hw)
  have hml : c.maxLocals = 2 := hml
  have hown : s.vm.findClass RX12 = some m.cls := findClass_of_methodNamed BL.named
  have hlocks := BL.notSynchronized
  have hk0 := hI.1.2.2.2.2
  have hl := lv_entry ([.ref (HB.size + 91), .int v1]) (n := 2) (Nat.le_of_ble_eq_true rfl)
  rw [lg_entry_eq]
  generalize (lg_sl ([.ref (HB.size + 91), .int v1]) ++ List.replicate (2 - (lg_sl ([.ref (HB.size + 91), .int v1])).length) Slot.unset).toArray = ls at hl ⊢
  have hl : lv_has ls 2 [(0, .ref (HB.size + 91)), (1, .int v1)] := hl
  generalize hargs : ([.ref (HB.size + 91), .int v1] : List Value).toArray = args at *
  show WX RM_X12_unlike p l e s m args below meth c HB (some (.int q)) (B_X12_unlike HB D y n κ σ q) s.heap [] (F0 m 0 ls [])
  generalize s.heap = H at hI ⊢
  unfold f_X12_unlike at h
  obtain ⟨locs, hlocs⟩ : ∃ x : List Loc, x = [] := ⟨_, rfl⟩
  rw [← hlocs] at hI ⊢
  refine lv_aload_n hx hb dX12_unlike_0 rfl (lv_at hl 0 rfl) ?_
  refine lv_iload_n hx hb dX12_unlike_1 rfl (lv_at hl 1 rfl) ?_
  obtain ⟨q_2, hq_2, h⟩ := ob_e h
  refine r_callV (As := [.int v1]) (rest := []) hx hb hml hts hown (c_X12_isLetterThere l HB D y F n κ σ hN v1 G32 e32 q_2 hq_2) cal_X12_isLetterThere im_X12_isLetterThere se_X12_isLetterThere lm_X12_440 ⟨Nat.le_of_ble_eq_true rfl, Nat.le_of_ble_eq_true rfl⟩ hI.nil hKK (r_recv hKK hI (hE12 HB.size y) rfl (lc91 hN) (kc91 hk0)) rfl hl.1 hI.2.2 rfl (Nat.le_of_ble_eq_true rfl) dX12_unlike_2 ⟨Nat.le_of_ble_eq_true rfl, Nat.le_of_ble_eq_true rfl⟩ rfl rfl rfl (fun H locs hB hlo => ?_)
  have hI := hB.re hlo
  refine lv_if_ne (tgt := 10) hx hb dX12_unlike_5 (by decide) (fun hc => ?_) (fun hc => ?_)
  · replace h := ite_f hc h
    refine lv_aload_n hx hb dX12_unlike_10 rfl (lv_at hl 0 rfl) ?_
    refine lv_iload_n hx hb dX12_unlike_11 rfl (lv_at hl 1 rfl) ?_
    obtain ⟨q_12, hq_12, h⟩ := ob_e h
    refine r_callV (As := [.int v1]) (rest := []) hx hb hml hts hown (c_X12_isUnlike l HB D y F n κ σ hN v1 G25 e25 G26 e26 G32 e32 G33 e33 G36 e36 q_12 hq_12) cal_X12_isUnlike im_X12_isUnlike se_X12_isUnlike lm_X12_443 ⟨Nat.le_of_ble_eq_true rfl, Nat.le_of_ble_eq_true rfl⟩ hI.nil hKK (r_recv hKK hI (hE12 HB.size y) rfl (lc91 hN) (kc91 hk0)) rfl hl.1 hI.2.2 rfl (Nat.le_of_ble_eq_true rfl) dX12_unlike_12 ⟨Nat.le_of_ble_eq_true rfl, Nat.le_of_ble_eq_true rfl⟩ rfl rfl rfl (fun H locs hB hlo => ?_)
    have hI := hB.re hlo
    refine lv_if_eq (tgt := 22) hx hb dX12_unlike_15 (by decide) (fun hc => ?_) (fun hc => ?_)
    · replace h := ite_t hc h
      refine lv_iconst (v := 0) hx hb dX12_unlike_22 (by decide) ?_
      have hq := Option.some.inj h
      exact W.iret (v := 0) hx hb hr (fun t ht hW => qc_mk (congrArg (fun z => Outcome.returned (some (Value.int z))) hq) (by rw [ht]; exact hI.nil)) hI.2.2 dX12_unlike_23 hlocks
    · replace h := ite_f hc h
      refine lv_iconst (v := 1) hx hb dX12_unlike_18 (by decide) ?_
      refine lv_goto (tgt := 23) hx hb dX12_unlike_19 (by decide) ?_
      have hq := Option.some.inj h
      exact W.iret (v := 1) hx hb hr (fun t ht hW => qc_mk (congrArg (fun z => Outcome.returned (some (Value.int z))) hq) (by rw [ht]; exact hI.nil)) hI.2.2 dX12_unlike_23 hlocks
  · replace h := ite_t hc h
    refine lv_iconst (v := (-1)) hx hb dX12_unlike_8 (by decide) ?_
    have hq := Option.some.inj h
    exact W.iret (v := (-1)) hx hb hr (fun t ht hW => qc_mk (congrArg (fun z => Outcome.returned (some (Value.int z))) hq) (by rw [ht]; exact hI.nil)) hI.2.2 dX12_unlike_9 hlocks
noncomputable def f_X12_looksAt_l12b (F : Nat)  (k12 : Grp → Grp → Grp → Int32 → Int32 → Option (Grp)) (G29 : Grp) (G30 : Grp) (G32 : Grp) (v1 : Int32) (v2 : Int32) : Option (Grp) :=
  if (G30.1 91 46) ≤ v2 then ob (f_X12_looks F G29 G30) (fun q_45 => some q_45) else ck ((160 * v1) + v2) 32000 (ck v2 160 (bn (gI G30 123 v2.toNatClampNeg (vp_nar .byte (G32.1 143 ((160 * v1) + v2).toNatClampNeg))) (fun G30_37 => bn (v2 + 1) (fun v2_38 => k12 G29 G30_37 G32 v1 v2_38))))
noncomputable def f_X12_looksAt_l12 (F : Nat)  (fu : Nat) : Grp → Grp → Grp → Int32 → Int32 → Option (Grp) := Nat.rec (motive := fun _ => Grp → Grp → Grp → Int32 → Int32 → Option (Grp)) (fun _ _ _ _ _ => none) (fun _ ih => f_X12_looksAt_l12b F  ih) fu
noncomputable def f_X12_looksAt (F : Nat) (G29 : Grp) (G30 : Grp) (G32 : Grp) (v1 : Int32) : Option (Grp) :=
  ck v1 200 (bn (gI G30 91 46 (G32.1 139 v1.toNatClampNeg)) (fun G30_7 => f_X12_looksAt_l12 F  F G29 G30_7 G32 v1 0))
def RM_X12_looksAt : Room := { frames := 4, cells := 0, slots := 0, locals := 98 }
abbrev W_X12_looksAt : List Nat := [30]
abbrev B_X12_looksAt (HB : Heap) (D : va_G) (y : Nat → ClassId) (n : Nat) (κ : Nat → Nat) (σ0 : St) (q : Grp) : Heap → Prop := fun H => ∃ σ : St, IV HB D y n n κ σ [] H ∧ σ 30 = q ∧ ∀ j, j ∉ W_X12_looksAt → σ j = σ0 j
set_option maxRecDepth 100000 in
set_option maxHeartbeats 4000000 in
theorem c_X12_looksAt (l : Launch) (HB : Heap) (D : va_G) (y : Nat → ClassId) (F n : Nat) (κ : Nat → Nat) (σ0 : St) (hN : N0 ≤ n) (v1 : Int32)  (G29 : Grp) (e29 : σ0 29 = G29) (G30 : Grp) (e30 : σ0 30 = G30) (G32 : Grp) (e32 : σ0 32 = G32) (q : Grp) (h : f_X12_looksAt F G29 G30 G32 v1 = some q) : MT l HB D y yX12_looksAt cX12_looksAt 3 none RM_X12_looksAt [.ref (HB.size + 91), .int v1] (IV HB D y n n κ σ0 []) none (B_X12_looksAt HB D y n κ σ0 q) := by
  refine Met.ofW (cc := cX12_looksAt) (maxL := 3) (ret := none) (by decide) rfl ?_
  intro p e s m args below meth c s₁ BL hml hv
  obtain ⟨rfl, hI, hKK⟩ := hv
  have hx := BL.exec
  have hb := BL.bytes
  have hr := BL.returns
  have hts : ∀ w ∈ gtb, w.before _ s = true := fun w hw => atoms_spec BL.pre w (List.mem_cons_of_mem _ hw)
  have hml : c.maxLocals = 3 := hml
  have hown : s.vm.findClass RX12 = some m.cls := findClass_of_methodNamed BL.named
  have hlocks := BL.notSynchronized
  have hk0 := hI.1.2.2.2.2
  have hl := lv_entry ([.ref (HB.size + 91), .int v1]) (n := 3) (Nat.le_of_ble_eq_true rfl)
  rw [lg_entry_eq]
  generalize (lg_sl ([.ref (HB.size + 91), .int v1]) ++ List.replicate (3 - (lg_sl ([.ref (HB.size + 91), .int v1])).length) Slot.unset).toArray = ls at hl ⊢
  have hl : lv_has ls 3 [(0, .ref (HB.size + 91)), (1, .int v1)] := hl
  generalize hargs : ([.ref (HB.size + 91), .int v1] : List Value).toArray = args at *
  have b12 : ∀ (fu : Nat) (σ : St) (H : Heap) (locs : List Loc) (ls : Array Slot) (G29 : Grp) (G30 : Grp) (G32 : Grp) (v1 : Int32) (v2 : Int32) , IV HB D y n n κ σ locs H → σ 29 = G29 → σ 30 = G30 → σ 32 = G32 → (∀ j, j ∉ W_X12_looksAt → σ j = σ0 j) → lv_has ls 3 [(0, .ref (HB.size + 91)), (1, .int v1), (2, .int v2)] → f_X12_looksAt_l12 F  fu G29 G30 G32 v1 v2 = some q → WX RM_X12_looksAt p l e s m args below meth c HB none (B_X12_looksAt HB D y n κ σ0 q) H locs (F0 m 12 ls []) := by
    intro  fu
    induction fu with
    | zero =>
      intro σ H locs ls G29 G30 G32 v1 v2 hI e29 e30 e32 fr hl h
      exact absurd h (by intro h; cases h)
    | succ fu hk12 =>
      intro σ H locs ls G29 G30 G32 v1 v2 hI e29 e30 e32 fr hl h
      have h : f_X12_looksAt_l12b F  (f_X12_looksAt_l12 F  fu) G29 G30 G32 v1 v2 = some q := h
      generalize f_X12_looksAt_l12 F  fu = k12 at h hk12
      unfold f_X12_looksAt_l12b at h
      refine lv_iload_n hx hb dX12_looksAt_12 rfl (lv_at hl 2 rfl) ?_
      refine lv_aload_n hx hb dX12_looksAt_13 rfl (lv_at hl 0 rfl) ?_
      refine gt_X12_384 hx hb hts hown hKK hI e30 (lc91 hN) (kc91 hk0) dX12_looksAt_14 ?_
      refine lv_icmp_ge (tgt := 44) hx hb dX12_looksAt_17 (by decide) (fun hc => ?_) (fun hc => ?_)
      · replace h := ite_t hc h
        refine lv_aload_n hx hb dX12_looksAt_44 rfl (lv_at hl 0 rfl) ?_
        obtain ⟨q_45, hq_45, h⟩ := ob_e h
        refine r_callV (As := []) (rest := []) hx hb hml hts hown (c_X12_looks l HB D y F n κ σ hN  G29 e29 G30 e30 q_45 hq_45) cal_X12_looks im_X12_looks se_X12_looks lm_X12_425 ⟨Nat.le_of_ble_eq_true rfl, Nat.le_of_ble_eq_true rfl⟩ hI.nil hKK (r_recv hKK hI (hE12 HB.size y) rfl (lc91 hN) (kc91 hk0)) rfl hl.1 hI.2.2 rfl (Nat.le_of_ble_eq_true rfl) dX12_looksAt_45 ⟨Nat.le_of_ble_eq_true rfl, Nat.le_of_ble_eq_true rfl⟩ rfl rfl rfl (fun H locs hB hlo => ?_)
        obtain ⟨σ, hB, en30, ho⟩ := hB
        have hI := hB.re hlo
        have e30 := en30
        have e29 := (ho 29 (ni rfl)).trans e29
        have e32 := (ho 32 (ni rfl)).trans e32
        have fr := frc fr ho (by decide)
        have hq := Option.some.inj h
        exact W.vret hx hb hr (fun t ht hW => qc_mk (rfl) (by rw [ht]; exact ⟨σ, hI.nil, e30.trans (congrArg (fun z => z) hq), fr⟩)) hI.2.2 dX12_looksAt_48 hlocks
      · replace h := ite_f hc h
        refine lv_aload_n hx hb dX12_looksAt_20 rfl (lv_at hl 0 rfl) ?_
        refine gf_X12_106 hx hb hts hown hKK hI hN dX12_looksAt_21 ?_
        refine lv_iload_n hx hb dX12_looksAt_24 rfl (lv_at hl 2 rfl) ?_
        refine lv_aload_n hx hb dX12_looksAt_25 rfl (lv_at hl 0 rfl) ?_
        refine gf_X12_166 hx hb hts hown hKK hI hN dX12_looksAt_26 ?_
        refine lv_sipush (v := 160) hx hb dX12_looksAt_29 (by decide) ?_
        refine lv_iload_n hx hb dX12_looksAt_32 rfl (lv_at hl 1 rfl) ?_
        refine lv_imul hx hb dX12_looksAt_33 ?_
        refine lv_iload_n hx hb dX12_looksAt_34 rfl (lv_at hl 2 rfl) ?_
        refine lv_iadd hx hb dX12_looksAt_35 ?_
        obtain ⟨hin_, h⟩ := ck_e h
        refine la_60 hx hb hKK hI e32 (lc143 hN) (kc143 hk0) hin_ dX12_looksAt_36 ?_
        obtain ⟨hin_, h⟩ := ck_e h
        obtain ⟨G30_37, qq, h⟩ := bn_e h
        refine sa_54 hx hb hKK hI e30 (lc123 hN) (kc123 hk0) hin_ dX12_looksAt_37 (fun σ H locs hI ew ho => ?_)
        have e30 := ew.trans qq.symm
        have e29 := (ho 29 (nn rfl)).trans e29
        have e32 := (ho 32 (nn rfl)).trans e32
        have fr := frs fr ho (by decide)
        obtain ⟨v2_38, qq, h⟩ := bn_e h
        refine lv_iinc (v := v2_38) (lv' := [(2, .int v2_38), (0, .ref (HB.size + 91)), (1, .int v1)]) hx hb dX12_looksAt_38 hl (k := 2) rfl (by rw [qq]; rfl) (by decide) rfl (fun ls hl => ?_)
        refine lv_goto (tgt := 12) hx hb dX12_looksAt_41 (by decide) ?_
        exact hk12 σ H locs ls G29 G30_37 G32 v1 v2_38  hI e29 e30 e32 fr (lv_sub hl [1, 2, 0] rfl) h
  obtain ⟨σ, hI, e29, e30, e32, fr⟩ : ∃ σ : St, IV HB D y n n κ σ [] s.heap ∧ σ 29 = G29 ∧ σ 30 = G30 ∧ σ 32 = G32 ∧ ∀ j, j ∉ W_X12_looksAt → σ j = σ0 j := ⟨σ0, hI, e29, e30, e32, fun _ _ => rfl⟩
  show WX RM_X12_looksAt p l e s m args below meth c HB none (B_X12_looksAt HB D y n κ σ0 q) s.heap [] (F0 m 0 ls [])
  generalize s.heap = H at hI ⊢
  unfold f_X12_looksAt at h
  obtain ⟨locs, hlocs⟩ : ∃ x : List Loc, x = [] := ⟨_, rfl⟩
  rw [← hlocs] at hI ⊢
  refine lv_aload_n hx hb dX12_looksAt_0 rfl (lv_at hl 0 rfl) ?_
  refine lv_aload_n hx hb dX12_looksAt_1 rfl (lv_at hl 0 rfl) ?_
  refine gf_X12_154 hx hb hts hown hKK hI hN dX12_looksAt_2 ?_
  refine lv_iload_n hx hb dX12_looksAt_5 rfl (lv_at hl 1 rfl) ?_
  obtain ⟨hin_, h⟩ := ck_e h
  refine la_57 hx hb hKK hI e32 (lc139 hN) (kc139 hk0) hin_ dX12_looksAt_6 ?_
  obtain ⟨G30_7, qq, h⟩ := bn_e h
  refine pt_X12_384 hx hb hts hown hKK hI e30 (lc91 hN) (kc91 hk0) dX12_looksAt_7 (fun σ H locs hI ew ho => ?_)
  have e30 := ew.trans qq.symm
  have e29 := (ho 29 (nn rfl)).trans e29
  have e32 := (ho 32 (nn rfl)).trans e32
  have fr := frs fr ho (by decide)
  refine lv_iconst (v := 0) hx hb dX12_looksAt_10 (by decide) ?_
  refine lv_istore_n (lv' := [(2, .int 0), (0, .ref (HB.size + 91)), (1, .int v1)]) hx hb dX12_looksAt_11 rfl hl (by decide) rfl (fun ls hl => ?_)
  exact b12  F σ H locs ls G29 G30_7 G32 v1 0  hI e29 e30 e32 fr (lv_sub hl [1, 2, 0] rfl) h
noncomputable def f_X12_hasFind_l2b (F : Nat)  (k2 : Grp → Grp → Int32 → Int32 → Option (Int32)) (G29 : Grp) (G30 : Grp) (v1 : Int32) (v2 : Int32) : Option (Int32) :=
  if (G30.1 91 51) ≤ v2 then some 0 else ck v2 160 (ck (G30.1 124 v2.toNatClampNeg) 12 (if (G29.1 115 (G30.1 124 v2.toNatClampNeg).toNatClampNeg) = v1 then some 1 else bn (v2 + 1) (fun v2_27 => k2 G29 G30 v1 v2_27)))
noncomputable def f_X12_hasFind_l2 (F : Nat)  (fu : Nat) : Grp → Grp → Int32 → Int32 → Option (Int32) := Nat.rec (motive := fun _ => Grp → Grp → Int32 → Int32 → Option (Int32)) (fun _ _ _ _ => none) (fun _ ih => f_X12_hasFind_l2b F  ih) fu
noncomputable def f_X12_hasFind (F : Nat) (G29 : Grp) (G30 : Grp) (v1 : Int32) : Option (Int32) :=
  f_X12_hasFind_l2 F  F G29 G30 v1 0
def RM_X12_hasFind : Room := { frames := 0, cells := 0, slots := 0, locals := 0 }
abbrev B_X12_hasFind (HB : Heap) (D : va_G) (y : Nat → ClassId) (n : Nat) (κ : Nat → Nat) (σ : St) (q : Int32) : Heap → Prop := fun H => IV HB D y n n κ σ [] H
set_option maxRecDepth 100000 in
set_option maxHeartbeats 4000000 in
theorem c_X12_hasFind (l : Launch) (HB : Heap) (D : va_G) (y : Nat → ClassId) (F n : Nat) (κ : Nat → Nat) (σ : St) (hN : N0 ≤ n) (v1 : Int32)  (G29 : Grp) (e29 : σ 29 = G29) (G30 : Grp) (e30 : σ 30 = G30) (q : Int32) (h : f_X12_hasFind F G29 G30 v1 = some q) : MT l HB D y yX12_hasFind cX12_hasFind 3 (some .boolean) RM_X12_hasFind [.ref (HB.size + 91), .int v1] (IV HB D y n n κ σ []) (some (.int q)) (B_X12_hasFind HB D y n κ σ q) := by
  refine Met.ofW (cc := cX12_hasFind) (maxL := 3) (ret := (some .boolean)) (by decide) rfl ?_
  intro p e s m args below meth c s₁ BL hml hv
  obtain ⟨rfl, hI, hKK⟩ := hv
  have hx := BL.exec
  have hb := BL.bytes
  have hr := BL.returns
  have hts : ∀ w ∈ gtb, w.before _ s = true := fun w hw => atoms_spec BL.pre w (List.mem_cons_of_mem _ hw)
  have hml : c.maxLocals = 3 := hml
  have hown : s.vm.findClass RX12 = some m.cls := findClass_of_methodNamed BL.named
  have hlocks := BL.notSynchronized
  have hk0 := hI.1.2.2.2.2
  have hl := lv_entry ([.ref (HB.size + 91), .int v1]) (n := 3) (Nat.le_of_ble_eq_true rfl)
  rw [lg_entry_eq]
  generalize (lg_sl ([.ref (HB.size + 91), .int v1]) ++ List.replicate (3 - (lg_sl ([.ref (HB.size + 91), .int v1])).length) Slot.unset).toArray = ls at hl ⊢
  have hl : lv_has ls 3 [(0, .ref (HB.size + 91)), (1, .int v1)] := hl
  generalize hargs : ([.ref (HB.size + 91), .int v1] : List Value).toArray = args at *
  have b2 : ∀ (fu : Nat) (H : Heap) (locs : List Loc) (ls : Array Slot) (G29 : Grp) (G30 : Grp) (v1 : Int32) (v2 : Int32) , IV HB D y n n κ σ locs H → σ 29 = G29 → σ 30 = G30 → lv_has ls 3 [(0, .ref (HB.size + 91)), (1, .int v1), (2, .int v2)] → f_X12_hasFind_l2 F  fu G29 G30 v1 v2 = some q → WX RM_X12_hasFind p l e s m args below meth c HB (some (.int q)) (B_X12_hasFind HB D y n κ σ q) H locs (F0 m 2 ls []) := by
    intro  fu
    induction fu with
    | zero =>
      intro H locs ls G29 G30 v1 v2 hI e29 e30 hl h
      exact absurd h (by intro h; cases h)
    | succ fu hk2 =>
      intro H locs ls G29 G30 v1 v2 hI e29 e30 hl h
      have h : f_X12_hasFind_l2b F  (f_X12_hasFind_l2 F  fu) G29 G30 v1 v2 = some q := h
      generalize f_X12_hasFind_l2 F  fu = k2 at h hk2
      unfold f_X12_hasFind_l2b at h
      refine lv_iload_n hx hb dX12_hasFind_2 rfl (lv_at hl 2 rfl) ?_
      refine lv_aload_n hx hb dX12_hasFind_3 rfl (lv_at hl 0 rfl) ?_
      refine gt_X12_413 hx hb hts hown hKK hI e30 (lc91 hN) (kc91 hk0) dX12_hasFind_4 ?_
      refine lv_icmp_ge (tgt := 33) hx hb dX12_hasFind_7 (by decide) (fun hc => ?_) (fun hc => ?_)
      · replace h := ite_t hc h
        refine lv_iconst (v := 0) hx hb dX12_hasFind_33 (by decide) ?_
        have hq := Option.some.inj h
        exact W.zret (v := 0) (ty := .boolean) hx hb hr rfl (fun t ht hW => qc_mk (congrArg (fun z => Outcome.returned (some (Value.int z))) hq) (by rw [ht]; exact hI.nil)) hI.2.2 dX12_hasFind_34 hlocks
      · replace h := ite_f hc h
        refine lv_aload_n hx hb dX12_hasFind_10 rfl (lv_at hl 0 rfl) ?_
        refine gf_X12_80 hx hb hts hown hKK hI hN dX12_hasFind_11 ?_
        refine lv_aload_n hx hb dX12_hasFind_14 rfl (lv_at hl 0 rfl) ?_
        refine gf_X12_109 hx hb hts hown hKK hI hN dX12_hasFind_15 ?_
        refine lv_iload_n hx hb dX12_hasFind_18 rfl (lv_at hl 2 rfl) ?_
        obtain ⟨hin_, h⟩ := ck_e h
        refine la_55 hx hb hKK hI e30 (lc124 hN) (kc124 hk0) hin_ dX12_hasFind_19 ?_
        obtain ⟨hin_, h⟩ := ck_e h
        refine la_49 hx hb hKK hI e29 (lc115 hN) (kc115 hk0) hin_ dX12_hasFind_20 ?_
        refine lv_iload_n hx hb dX12_hasFind_21 rfl (lv_at hl 1 rfl) ?_
        refine lv_icmp_ne (tgt := 27) hx hb dX12_hasFind_22 (by decide) (fun hc => ?_) (fun hc => ?_)
        · replace h := ite_f hc h
          obtain ⟨v2_27, qq, h⟩ := bn_e h
          refine lv_iinc (v := v2_27) (lv' := [(2, .int v2_27), (0, .ref (HB.size + 91)), (1, .int v1)]) hx hb dX12_hasFind_27 hl (k := 2) rfl (by rw [qq]; rfl) (by decide) rfl (fun ls hl => ?_)
          refine lv_goto (tgt := 2) hx hb dX12_hasFind_30 (by decide) ?_
          exact hk2 H locs ls G29 G30 v1 v2_27  hI e29 e30 (lv_sub hl [1, 2, 0] rfl) h
        · replace h := ite_t hc h
          refine lv_iconst (v := 1) hx hb dX12_hasFind_25 (by decide) ?_
          have hq := Option.some.inj h
          exact W.zret (v := 1) (ty := .boolean) hx hb hr rfl (fun t ht hW => qc_mk (congrArg (fun z => Outcome.returned (some (Value.int z))) hq) (by rw [ht]; exact hI.nil)) hI.2.2 dX12_hasFind_26 hlocks
  show WX RM_X12_hasFind p l e s m args below meth c HB (some (.int q)) (B_X12_hasFind HB D y n κ σ q) s.heap [] (F0 m 0 ls [])
  generalize s.heap = H at hI ⊢
  unfold f_X12_hasFind at h
  obtain ⟨locs, hlocs⟩ : ∃ x : List Loc, x = [] := ⟨_, rfl⟩
  rw [← hlocs] at hI ⊢
  refine lv_iconst (v := 0) hx hb dX12_hasFind_0 (by decide) ?_
  refine lv_istore_n (lv' := [(2, .int 0), (0, .ref (HB.size + 91)), (1, .int v1)]) hx hb dX12_hasFind_1 rfl hl (by decide) rfl (fun ls hl => ?_)
  exact b2  F H locs ls G29 G30 v1 0  hI e29 e30 (lv_sub hl [1, 2, 0] rfl) h
noncomputable def f_X12_hintsFound_l4b (F : Nat)  (k4 : Grp → Grp → Int32 → Int32 → Option (Int32)) (G29 : Grp) (G30 : Grp) (v1 : Int32) (v2 : Int32) : Option (Int32) :=
  if (G30.1 91 51) ≤ v2 then some v1 else ck v2 160 (ck (G30.1 124 v2.toNatClampNeg) 12 (if 8 ≤ (G29.1 115 (G30.1 124 v2.toNatClampNeg).toNatClampNeg) then bn (v2 + 1) (fun v2_44 => k4 G29 G30 v1 v2_44) else ck v2 160 (ck (G30.1 124 v2.toNatClampNeg) 12 (bn ((v1 ||| (1 <<< ((G29.1 115 (G30.1 124 v2.toNatClampNeg).toNatClampNeg) &&& 31)))) (fun v1_43 => bn (v2 + 1) (fun v2_44 => k4 G29 G30 v1_43 v2_44))))))
noncomputable def f_X12_hintsFound_l4 (F : Nat)  (fu : Nat) : Grp → Grp → Int32 → Int32 → Option (Int32) := Nat.rec (motive := fun _ => Grp → Grp → Int32 → Int32 → Option (Int32)) (fun _ _ _ _ => none) (fun _ ih => f_X12_hintsFound_l4b F  ih) fu
noncomputable def f_X12_hintsFound (F : Nat) (G29 : Grp) (G30 : Grp)  : Option (Int32) :=
  f_X12_hintsFound_l4 F  F G29 G30 0 0
def RM_X12_hintsFound : Room := { frames := 0, cells := 0, slots := 0, locals := 0 }
abbrev B_X12_hintsFound (HB : Heap) (D : va_G) (y : Nat → ClassId) (n : Nat) (κ : Nat → Nat) (σ : St) (q : Int32) : Heap → Prop := fun H => IV HB D y n n κ σ [] H
set_option maxRecDepth 100000 in
set_option maxHeartbeats 4000000 in
theorem c_X12_hintsFound (l : Launch) (HB : Heap) (D : va_G) (y : Nat → ClassId) (F n : Nat) (κ : Nat → Nat) (σ : St) (hN : N0 ≤ n)  (G29 : Grp) (e29 : σ 29 = G29) (G30 : Grp) (e30 : σ 30 = G30) (q : Int32) (h : f_X12_hintsFound F G29 G30 = some q) : MT l HB D y yX12_hintsFound cX12_hintsFound 3 (some .int) RM_X12_hintsFound [.ref (HB.size + 91)] (IV HB D y n n κ σ []) (some (.int q)) (B_X12_hintsFound HB D y n κ σ q) := by
  refine Met.ofW (cc := cX12_hintsFound) (maxL := 3) (ret := (some .int)) (by decide) rfl ?_
  intro p e s m args below meth c s₁ BL hml hv
  obtain ⟨rfl, hI, hKK⟩ := hv
  have hx := BL.exec
  have hb := BL.bytes
  have hr := BL.returns
  have hts : ∀ w ∈ gtb, w.before _ s = true := fun w hw => atoms_spec BL.pre w (List.mem_cons_of_mem _ hw)
  have hml : c.maxLocals = 3 := hml
  have hown : s.vm.findClass RX12 = some m.cls := findClass_of_methodNamed BL.named
  have hlocks := BL.notSynchronized
  have hk0 := hI.1.2.2.2.2
  have hl := lv_entry ([.ref (HB.size + 91)]) (n := 3) (Nat.le_of_ble_eq_true rfl)
  rw [lg_entry_eq]
  generalize (lg_sl ([.ref (HB.size + 91)]) ++ List.replicate (3 - (lg_sl ([.ref (HB.size + 91)])).length) Slot.unset).toArray = ls at hl ⊢
  have hl : lv_has ls 3 [(0, .ref (HB.size + 91))] := hl
  generalize hargs : ([.ref (HB.size + 91)] : List Value).toArray = args at *
  have b4 : ∀ (fu : Nat) (H : Heap) (locs : List Loc) (ls : Array Slot) (G29 : Grp) (G30 : Grp) (v1 : Int32) (v2 : Int32) , IV HB D y n n κ σ locs H → σ 29 = G29 → σ 30 = G30 → lv_has ls 3 [(0, .ref (HB.size + 91)), (1, .int v1), (2, .int v2)] → f_X12_hintsFound_l4 F  fu G29 G30 v1 v2 = some q → WX RM_X12_hintsFound p l e s m args below meth c HB (some (.int q)) (B_X12_hintsFound HB D y n κ σ q) H locs (F0 m 4 ls []) := by
    intro  fu
    induction fu with
    | zero =>
      intro H locs ls G29 G30 v1 v2 hI e29 e30 hl h
      exact absurd h (by intro h; cases h)
    | succ fu hk4 =>
      intro H locs ls G29 G30 v1 v2 hI e29 e30 hl h
      have h : f_X12_hintsFound_l4b F  (f_X12_hintsFound_l4 F  fu) G29 G30 v1 v2 = some q := h
      generalize f_X12_hintsFound_l4 F  fu = k4 at h hk4
      unfold f_X12_hintsFound_l4b at h
      refine lv_iload_n hx hb dX12_hintsFound_4 rfl (lv_at hl 2 rfl) ?_
      refine lv_aload_n hx hb dX12_hintsFound_5 rfl (lv_at hl 0 rfl) ?_
      refine gt_X12_413 hx hb hts hown hKK hI e30 (lc91 hN) (kc91 hk0) dX12_hintsFound_6 ?_
      refine lv_icmp_ge (tgt := 50) hx hb dX12_hintsFound_9 (by decide) (fun hc => ?_) (fun hc => ?_)
      · replace h := ite_t hc h
        refine lv_iload_n hx hb dX12_hintsFound_50 rfl (lv_at hl 1 rfl) ?_
        have hq := Option.some.inj h
        exact W.iret (v := v1) hx hb hr (fun t ht hW => qc_mk (congrArg (fun z => Outcome.returned (some (Value.int z))) hq) (by rw [ht]; exact hI.nil)) hI.2.2 dX12_hintsFound_51 hlocks
      · replace h := ite_f hc h
        refine lv_aload_n hx hb dX12_hintsFound_12 rfl (lv_at hl 0 rfl) ?_
        refine gf_X12_80 hx hb hts hown hKK hI hN dX12_hintsFound_13 ?_
        refine lv_aload_n hx hb dX12_hintsFound_16 rfl (lv_at hl 0 rfl) ?_
        refine gf_X12_109 hx hb hts hown hKK hI hN dX12_hintsFound_17 ?_
        refine lv_iload_n hx hb dX12_hintsFound_20 rfl (lv_at hl 2 rfl) ?_
        obtain ⟨hin_, h⟩ := ck_e h
        refine la_55 hx hb hKK hI e30 (lc124 hN) (kc124 hk0) hin_ dX12_hintsFound_21 ?_
        obtain ⟨hin_, h⟩ := ck_e h
        refine la_49 hx hb hKK hI e29 (lc115 hN) (kc115 hk0) hin_ dX12_hintsFound_22 ?_
        refine lv_bipush (v := 8) hx hb dX12_hintsFound_23 (by decide) ?_
        refine lv_icmp_ge (tgt := 44) hx hb dX12_hintsFound_25 (by decide) (fun hc => ?_) (fun hc => ?_)
        · replace h := ite_t hc h
          obtain ⟨v2_44, qq, h⟩ := bn_e h
          refine lv_iinc (v := v2_44) (lv' := [(2, .int v2_44), (0, .ref (HB.size + 91)), (1, .int v1)]) hx hb dX12_hintsFound_44 hl (k := 2) rfl (by rw [qq]; rfl) (by decide) rfl (fun ls hl => ?_)
          refine lv_goto (tgt := 4) hx hb dX12_hintsFound_47 (by decide) ?_
          exact hk4 H locs ls G29 G30 v1 v2_44  hI e29 e30 (lv_sub hl [1, 2, 0] rfl) h
        · replace h := ite_f hc h
          refine lv_iload_n hx hb dX12_hintsFound_28 rfl (lv_at hl 1 rfl) ?_
          refine lv_iconst (v := 1) hx hb dX12_hintsFound_29 (by decide) ?_
          refine lv_aload_n hx hb dX12_hintsFound_30 rfl (lv_at hl 0 rfl) ?_
          refine gf_X12_80 hx hb hts hown hKK hI hN dX12_hintsFound_31 ?_
          refine lv_aload_n hx hb dX12_hintsFound_34 rfl (lv_at hl 0 rfl) ?_
          refine gf_X12_109 hx hb hts hown hKK hI hN dX12_hintsFound_35 ?_
          refine lv_iload_n hx hb dX12_hintsFound_38 rfl (lv_at hl 2 rfl) ?_
          obtain ⟨hin_, h⟩ := ck_e h
          refine la_55 hx hb hKK hI e30 (lc124 hN) (kc124 hk0) hin_ dX12_hintsFound_39 ?_
          obtain ⟨hin_, h⟩ := ck_e h
          refine la_49 hx hb hKK hI e29 (lc115 hN) (kc115 hk0) hin_ dX12_hintsFound_40 ?_
          refine lv_ishl hx hb dX12_hintsFound_41 ?_
          refine lv_ior hx hb dX12_hintsFound_42 ?_
          obtain ⟨v1_43, qq, h⟩ := bn_e h
          refine topi qq ?_
          refine lv_istore_n (lv' := [(1, .int v1_43), (0, .ref (HB.size + 91)), (2, .int v2)]) hx hb dX12_hintsFound_43 rfl hl (by decide) rfl (fun ls hl => ?_)
          obtain ⟨v2_44, qq, h⟩ := bn_e h
          refine lv_iinc (v := v2_44) (lv' := [(2, .int v2_44), (1, .int v1_43), (0, .ref (HB.size + 91))]) hx hb dX12_hintsFound_44 hl (k := 2) rfl (by rw [qq]; rfl) (by decide) rfl (fun ls hl => ?_)
          refine lv_goto (tgt := 4) hx hb dX12_hintsFound_47 (by decide) ?_
          exact hk4 H locs ls G29 G30 v1_43 v2_44  hI e29 e30 (lv_sub hl [2, 1, 0] rfl) h
  show WX RM_X12_hintsFound p l e s m args below meth c HB (some (.int q)) (B_X12_hintsFound HB D y n κ σ q) s.heap [] (F0 m 0 ls [])
  generalize s.heap = H at hI ⊢
  unfold f_X12_hintsFound at h
  obtain ⟨locs, hlocs⟩ : ∃ x : List Loc, x = [] := ⟨_, rfl⟩
  rw [← hlocs] at hI ⊢
  refine lv_iconst (v := 0) hx hb dX12_hintsFound_0 (by decide) ?_
  refine lv_istore_n (lv' := [(1, .int 0), (0, .ref (HB.size + 91))]) hx hb dX12_hintsFound_1 rfl hl (by decide) rfl (fun ls hl => ?_)
  refine lv_iconst (v := 0) hx hb dX12_hintsFound_2 (by decide) ?_
  refine lv_istore_n (lv' := [(2, .int 0), (1, .int 0), (0, .ref (HB.size + 91))]) hx hb dX12_hintsFound_3 rfl hl (by decide) rfl (fun ls hl => ?_)
  exact b4  F H locs ls G29 G30 0 0  hI e29 e30 (lv_sub hl [2, 1, 0] rfl) h
noncomputable def f_X12_bits_l4b (F : Nat)  (k4 : Int32 → Int32 → Int32 → Option (Int32))  (v0 : Int32) (v1 : Int32) (v2 : Int32) : Option (Int32) :=
  if 20 ≤ v2 then some v1 else bn ((v1 + ((v0 >>> (v2 &&& 31)) &&& 1))) (fun v1_17 => bn (v2 + 1) (fun v2_18 => k4 v0 v1_17 v2_18))
noncomputable def f_X12_bits_l4 (F : Nat)  (fu : Nat) : Int32 → Int32 → Int32 → Option (Int32) := Nat.rec (motive := fun _ => Int32 → Int32 → Int32 → Option (Int32)) (fun _ _ _ => none) (fun _ ih => f_X12_bits_l4b F  ih) fu
noncomputable def f_X12_bits (F : Nat)  (v0 : Int32) : Option (Int32) :=
  f_X12_bits_l4 F  F v0 0 0
def RM_X12_bits : Room := { frames := 0, cells := 0, slots := 0, locals := 0 }
abbrev B_X12_bits (HB : Heap) (D : va_G) (y : Nat → ClassId) (n : Nat) (κ : Nat → Nat) (σ : St) (q : Int32) : Heap → Prop := fun H => IV HB D y n n κ σ [] H
set_option maxRecDepth 100000 in
set_option maxHeartbeats 4000000 in
theorem c_X12_bits (l : Launch) (HB : Heap) (D : va_G) (y : Nat → ClassId) (F n : Nat) (κ : Nat → Nat) (σ : St) (hN : N0 ≤ n) (v0 : Int32)   (q : Int32) (h : f_X12_bits F v0 = some q) : MT l HB D y yX12_bits cX12_bits 3 (some .int) RM_X12_bits [.int v0] (IV HB D y n n κ σ []) (some (.int q)) (B_X12_bits HB D y n κ σ q) := by
  refine Met.ofW (cc := cX12_bits) (maxL := 3) (ret := (some .int)) (by decide) rfl ?_
  intro p e s m args below meth c s₁ BL hml hv
  obtain ⟨rfl, hI, hKK⟩ := hv
  have hx := BL.exec
  have hb := BL.bytes
  have hr := BL.returns
  have hts : ∀ w ∈ gtb, w.before _ s = true := fun w hw => atoms_spec BL.pre w (List.mem_cons_of_mem _ hw)
  have hml : c.maxLocals = 3 := hml
  have hown : s.vm.findClass RX12 = some m.cls := findClass_of_methodNamed BL.named
  have hlocks := BL.notSynchronized
  have hk0 := hI.1.2.2.2.2
  have hl := lv_entry ([.int v0]) (n := 3) (Nat.le_of_ble_eq_true rfl)
  rw [lg_entry_eq]
  generalize (lg_sl ([.int v0]) ++ List.replicate (3 - (lg_sl ([.int v0])).length) Slot.unset).toArray = ls at hl ⊢
  have hl : lv_has ls 3 [(0, .int v0)] := hl
  generalize hargs : ([.int v0] : List Value).toArray = args at *
  have b4 : ∀ (fu : Nat) (H : Heap) (locs : List Loc) (ls : Array Slot)  (v0 : Int32) (v1 : Int32) (v2 : Int32) , IV HB D y n n κ σ locs H → lv_has ls 3 [(0, .int v0), (1, .int v1), (2, .int v2)] → f_X12_bits_l4 F  fu v0 v1 v2 = some q → WX RM_X12_bits p l e s m args below meth c HB (some (.int q)) (B_X12_bits HB D y n κ σ q) H locs (F0 m 4 ls []) := by
    intro  fu
    induction fu with
    | zero =>
      intro H locs ls v0 v1 v2 hI hl h
      exact absurd h (by intro h; cases h)
    | succ fu hk4 =>
      intro H locs ls v0 v1 v2 hI hl h
      have h : f_X12_bits_l4b F  (f_X12_bits_l4 F  fu) v0 v1 v2 = some q := h
      generalize f_X12_bits_l4 F  fu = k4 at h hk4
      unfold f_X12_bits_l4b at h
      refine lv_iload_n hx hb dX12_bits_4 rfl (lv_at hl 2 rfl) ?_
      refine lv_bipush (v := 20) hx hb dX12_bits_5 (by decide) ?_
      refine lv_icmp_ge (tgt := 24) hx hb dX12_bits_7 (by decide) (fun hc => ?_) (fun hc => ?_)
      · replace h := ite_t hc h
        refine lv_iload_n hx hb dX12_bits_24 rfl (lv_at hl 1 rfl) ?_
        have hq := Option.some.inj h
        exact W.iret (v := v1) hx hb hr (fun t ht hW => qc_mk (congrArg (fun z => Outcome.returned (some (Value.int z))) hq) (by rw [ht]; exact hI.nil)) hI.2.2 dX12_bits_25 hlocks
      · replace h := ite_f hc h
        refine lv_iload_n hx hb dX12_bits_10 rfl (lv_at hl 1 rfl) ?_
        refine lv_iload_n hx hb dX12_bits_11 rfl (lv_at hl 0 rfl) ?_
        refine lv_iload_n hx hb dX12_bits_12 rfl (lv_at hl 2 rfl) ?_
        refine lv_ishr hx hb dX12_bits_13 ?_
        refine lv_iconst (v := 1) hx hb dX12_bits_14 (by decide) ?_
        refine lv_iand hx hb dX12_bits_15 ?_
        refine lv_iadd hx hb dX12_bits_16 ?_
        obtain ⟨v1_17, qq, h⟩ := bn_e h
        refine topi qq ?_
        refine lv_istore_n (lv' := [(1, .int v1_17), (0, .int v0), (2, .int v2)]) hx hb dX12_bits_17 rfl hl (by decide) rfl (fun ls hl => ?_)
        obtain ⟨v2_18, qq, h⟩ := bn_e h
        refine lv_iinc (v := v2_18) (lv' := [(2, .int v2_18), (1, .int v1_17), (0, .int v0)]) hx hb dX12_bits_18 hl (k := 2) rfl (by rw [qq]; rfl) (by decide) rfl (fun ls hl => ?_)
        refine lv_goto (tgt := 4) hx hb dX12_bits_21 (by decide) ?_
        exact hk4 H locs ls v0 v1_17 v2_18  hI  (lv_sub hl [2, 1, 0] rfl) h
  show WX RM_X12_bits p l e s m args below meth c HB (some (.int q)) (B_X12_bits HB D y n κ σ q) s.heap [] (F0 m 0 ls [])
  generalize s.heap = H at hI ⊢
  unfold f_X12_bits at h
  obtain ⟨locs, hlocs⟩ : ∃ x : List Loc, x = [] := ⟨_, rfl⟩
  rw [← hlocs] at hI ⊢
  refine lv_iconst (v := 0) hx hb dX12_bits_0 (by decide) ?_
  refine lv_istore_n (lv' := [(1, .int 0), (0, .int v0)]) hx hb dX12_bits_1 rfl hl (by decide) rfl (fun ls hl => ?_)
  refine lv_iconst (v := 0) hx hb dX12_bits_2 (by decide) ?_
  refine lv_istore_n (lv' := [(2, .int 0), (1, .int 0), (0, .int v0)]) hx hb dX12_bits_3 rfl hl (by decide) rfl (fun ls hl => ?_)
  exact b4  F H locs ls v0 0 0  hI  (lv_sub hl [2, 1, 0] rfl) h
noncomputable def f_X12_cutsOut_b138 (F : Nat) (k7 : Grp → Grp → Grp → Int32 → Int32 → Int32 → Int32 → Option (Grp)) (G29 : Grp) (G30 : Grp) (G32 : Grp) (v1 : Int32) (v2 : Int32) (v3 : Int32) (v4 : Int32) (v5 : Int32) (s1 : Int32) (s2 : Int32) (s3 : Int32) : Option (Grp) :=
  ck s1 200 (bn (gI G32 140 s1.toNatClampNeg (s2 + s3)) (fun G32_139 => if v5 = 0 then bn ((v4 + 1)) (fun v4_161 => k7 G29 G30 G32_139 v1 v2 v3 v4_161) else ck v3 160 (bn ((v4 + (G30.1 126 v3.toNatClampNeg))) (fun v4_161 => k7 G29 G30 G32_139 v1 v2 v3 v4_161))))
noncomputable def f_X12_cutsOut_b112 (F : Nat) (k7 : Grp → Grp → Grp → Int32 → Int32 → Int32 → Int32 → Option (Grp)) (G29 : Grp) (G30 : Grp) (G32 : Grp) (v1 : Int32) (v2 : Int32) (v3 : Int32) (v4 : Int32) (v5 : Int32) (s1 : Int32) (s2 : Int32) : Option (Grp) :=
  ck s1 32000 (bn (gI G32 143 s1.toNatClampNeg (vp_nar .byte s2)) (fun G32_112 => bn ((v2 + 1)) (fun v2_116 => ck v1 200 (if v5 = 0 then f_X12_cutsOut_b138 F k7 G29 G30 G32_112 v1 v2_116 v3 v4 v5 v1 (G32_112.1 140 v1.toNatClampNeg) 0 else f_X12_cutsOut_b138 F k7 G29 G30 G32_112 v1 v2_116 v3 v4 v5 v1 (G32_112.1 140 v1.toNatClampNeg) 1))))
noncomputable def f_X12_cutsOut_b82 (F : Nat) (k7 : Grp → Grp → Grp → Int32 → Int32 → Int32 → Int32 → Option (Grp)) (G29 : Grp) (G30 : Grp) (G32 : Grp) (v1 : Int32) (v2 : Int32) (v3 : Int32) (v4 : Int32) (s0 : Int32) : Option (Grp) :=
  if s0 = 0 then ck v4 160 (f_X12_cutsOut_b112 F k7 G29 G30 G32 v1 v2 v3 v4 s0 ((160 * v1) + v2) (G30.1 123 v4.toNatClampNeg)) else f_X12_cutsOut_b112 F k7 G29 G30 G32 v1 v2 v3 v4 s0 ((160 * v1) + v2) 120
noncomputable def f_X12_cutsOut_b81 (F : Nat) (k7 : Grp → Grp → Grp → Int32 → Int32 → Int32 → Int32 → Option (Grp)) (G29 : Grp) (G30 : Grp) (G32 : Grp) (v1 : Int32) (v2 : Int32) (v3 : Int32) (v4 : Int32) : Option (Grp) :=
  f_X12_cutsOut_b82 F k7 G29 G30 G32 v1 v2 v3 v4 0
noncomputable def f_X12_cutsOut_b42 (F : Nat) (k7 : Grp → Grp → Grp → Int32 → Int32 → Int32 → Int32 → Option (Grp)) (G29 : Grp) (G30 : Grp) (G32 : Grp) (v1 : Int32) (v2 : Int32) (v3 : Int32) (v4 : Int32) : Option (Grp) :=
  if (G30.1 91 51) ≤ v3 then f_X12_cutsOut_b81 F k7 G29 G30 G32 v1 v2 v3 v4 else ck v3 160 (if (G30.1 125 v3.toNatClampNeg) = v4 then ck v3 160 (ck (G30.1 124 v3.toNatClampNeg) 12 (if (G29.1 115 (G30.1 124 v3.toNatClampNeg).toNatClampNeg) = 99 then f_X12_cutsOut_b82 F k7 G29 G30 G32 v1 v2 v3 v4 1 else f_X12_cutsOut_b81 F k7 G29 G30 G32 v1 v2 v3 v4)) else f_X12_cutsOut_b81 F k7 G29 G30 G32 v1 v2 v3 v4)
noncomputable def f_X12_cutsOut_l16b (F : Nat) (k7 : Grp → Grp → Grp → Int32 → Int32 → Int32 → Int32 → Option (Grp)) (k16 : Grp → Grp → Grp → Int32 → Int32 → Int32 → Int32 → Option (Grp)) (G29 : Grp) (G30 : Grp) (G32 : Grp) (v1 : Int32) (v2 : Int32) (v3 : Int32) (v4 : Int32) : Option (Grp) :=
  if (G30.1 91 51) ≤ v3 then f_X12_cutsOut_b42 F k7 G29 G30 G32 v1 v2 v3 v4 else ck v3 160 (if v4 ≤ (G30.1 125 v3.toNatClampNeg) then f_X12_cutsOut_b42 F k7 G29 G30 G32 v1 v2 v3 v4 else bn ((v3 + 1)) (fun v3_38 => k16 G29 G30 G32 v1 v2 v3_38 v4))
noncomputable def f_X12_cutsOut_l16 (F : Nat) (k7 : Grp → Grp → Grp → Int32 → Int32 → Int32 → Int32 → Option (Grp)) (fu : Nat) : Grp → Grp → Grp → Int32 → Int32 → Int32 → Int32 → Option (Grp) := Nat.rec (motive := fun _ => Grp → Grp → Grp → Int32 → Int32 → Int32 → Int32 → Option (Grp)) (fun _ _ _ _ _ _ _ => none) (fun _ ih => f_X12_cutsOut_l16b F k7 ih) fu
noncomputable def f_X12_cutsOut_l7b (F : Nat)  (k7 : Grp → Grp → Grp → Int32 → Int32 → Int32 → Int32 → Option (Grp)) (G29 : Grp) (G30 : Grp) (G32 : Grp) (v1 : Int32) (v2 : Int32) (v3 : Int32) (v4 : Int32) : Option (Grp) :=
  if (G30.1 91 46) ≤ v4 then ck v1 200 (bn (gI G32 139 v1.toNatClampNeg v2) (fun G32_172 => some G32_172)) else f_X12_cutsOut_l16 F k7 F G29 G30 G32 v1 v2 v3 v4
noncomputable def f_X12_cutsOut_l7 (F : Nat)  (fu : Nat) : Grp → Grp → Grp → Int32 → Int32 → Int32 → Int32 → Option (Grp) := Nat.rec (motive := fun _ => Grp → Grp → Grp → Int32 → Int32 → Int32 → Int32 → Option (Grp)) (fun _ _ _ _ _ _ _ => none) (fun _ ih => f_X12_cutsOut_l7b F  ih) fu
noncomputable def f_X12_cutsOut (F : Nat) (G29 : Grp) (G30 : Grp) (G32 : Grp) (v1 : Int32) : Option (Grp) :=
  f_X12_cutsOut_l7 F  F G29 G30 G32 v1 0 0 0
def RM_X12_cutsOut : Room := { frames := 0, cells := 0, slots := 0, locals := 0 }
abbrev W_X12_cutsOut : List Nat := [32]
abbrev B_X12_cutsOut (HB : Heap) (D : va_G) (y : Nat → ClassId) (n : Nat) (κ : Nat → Nat) (σ0 : St) (q : Grp) : Heap → Prop := fun H => ∃ σ : St, IV HB D y n n κ σ [] H ∧ σ 32 = q ∧ ∀ j, j ∉ W_X12_cutsOut → σ j = σ0 j
set_option maxRecDepth 100000 in
set_option maxHeartbeats 4000000 in
theorem c_X12_cutsOut (l : Launch) (HB : Heap) (D : va_G) (y : Nat → ClassId) (F n : Nat) (κ : Nat → Nat) (σ0 : St) (hN : N0 ≤ n) (v1 : Int32)  (G29 : Grp) (e29 : σ0 29 = G29) (G30 : Grp) (e30 : σ0 30 = G30) (G32 : Grp) (e32 : σ0 32 = G32) (q : Grp) (h : f_X12_cutsOut F G29 G30 G32 v1 = some q) : MT l HB D y yX12_cutsOut cX12_cutsOut 6 none RM_X12_cutsOut [.ref (HB.size + 91), .int v1] (IV HB D y n n κ σ0 []) none (B_X12_cutsOut HB D y n κ σ0 q) := by
  refine Met.ofW (cc := cX12_cutsOut) (maxL := 6) (ret := none) (by decide) rfl ?_
  intro p e s m args below meth c s₁ BL hml hv
  obtain ⟨rfl, hI, hKK⟩ := hv
  have hx := BL.exec
  have hb := BL.bytes
  have hr := BL.returns
  have hts : ∀ w ∈ gtb, w.before _ s = true := fun w hw => atoms_spec BL.pre w (List.mem_cons_of_mem _ hw)
  have hml : c.maxLocals = 6 := hml
  have hown : s.vm.findClass RX12 = some m.cls := findClass_of_methodNamed BL.named
  have hlocks := BL.notSynchronized
  have hk0 := hI.1.2.2.2.2
  have hl := lv_entry ([.ref (HB.size + 91), .int v1]) (n := 6) (Nat.le_of_ble_eq_true rfl)
  rw [lg_entry_eq]
  generalize (lg_sl ([.ref (HB.size + 91), .int v1]) ++ List.replicate (6 - (lg_sl ([.ref (HB.size + 91), .int v1])).length) Slot.unset).toArray = ls at hl ⊢
  have hl : lv_has ls 6 [(0, .ref (HB.size + 91)), (1, .int v1)] := hl
  generalize hargs : ([.ref (HB.size + 91), .int v1] : List Value).toArray = args at *
  have b138 : ∀ (k7 : Grp → Grp → Grp → Int32 → Int32 → Int32 → Int32 → Option (Grp)) (hk7 : ∀ (σ : St) (H : Heap) (locs : List Loc) (ls : Array Slot) (G29 : Grp) (G30 : Grp) (G32 : Grp) (v1 : Int32) (v2 : Int32) (v3 : Int32) (v4 : Int32) , IV HB D y n n κ σ locs H → σ 29 = G29 → σ 30 = G30 → σ 32 = G32 → (∀ j, j ∉ W_X12_cutsOut → σ j = σ0 j) → lv_has ls 6 [(0, .ref (HB.size + 91)), (1, .int v1), (2, .int v2), (3, .int v3), (4, .int v4)] → k7 G29 G30 G32 v1 v2 v3 v4 = some q → WX RM_X12_cutsOut p l e s m args below meth c HB none (B_X12_cutsOut HB D y n κ σ0 q) H locs (F0 m 7 ls [])) (σ : St) (H : Heap) (locs : List Loc) (ls : Array Slot) (G29 : Grp) (G30 : Grp) (G32 : Grp) (v1 : Int32) (v2 : Int32) (v3 : Int32) (v4 : Int32) (v5 : Int32) (s1 : Int32) (s2 : Int32) (s3 : Int32) , IV HB D y n n κ σ locs H → σ 29 = G29 → σ 30 = G30 → σ 32 = G32 → (∀ j, j ∉ W_X12_cutsOut → σ j = σ0 j) → lv_has ls 6 [(0, .ref (HB.size + 91)), (1, .int v1), (2, .int v2), (3, .int v3), (4, .int v4), (5, .int v5)] → f_X12_cutsOut_b138 F k7 G29 G30 G32 v1 v2 v3 v4 v5 s1 s2 s3 = some q → WX RM_X12_cutsOut p l e s m args below meth c HB none (B_X12_cutsOut HB D y n κ σ0 q) H locs (F0 m 138 ls [.int s3, .int s2, .int s1, .ref (HB.size + 140)]) := by
    intro k7 hk7 σ H locs ls G29 G30 G32 v1 v2 v3 v4 v5 s1 s2 s3 hI e29 e30 e32 fr hl h
    unfold f_X12_cutsOut_b138 at h
    refine lv_iadd hx hb dX12_cutsOut_138 ?_
    obtain ⟨hin_, h⟩ := ck_e h
    obtain ⟨G32_139, qq, h⟩ := bn_e h
    refine sa_57 hx hb hKK hI e32 (lc140 hN) (kc140 hk0) hin_ dX12_cutsOut_139 (fun σ H locs hI ew ho => ?_)
    have e32 := ew.trans qq.symm
    have e29 := (ho 29 (nn rfl)).trans e29
    have e30 := (ho 30 (nn rfl)).trans e30
    have fr := frs fr ho (by decide)
    refine lv_iload hx hb dX12_cutsOut_140 (lv_at hl 5 rfl) ?_
    refine lv_if_eq (tgt := 157) hx hb dX12_cutsOut_142 (by decide) (fun hc => ?_) (fun hc => ?_)
    · replace h := ite_t hc h
      refine lv_iload hx hb dX12_cutsOut_157 (lv_at hl 4 rfl) ?_
      refine lv_iconst (v := 1) hx hb dX12_cutsOut_159 (by decide) ?_
      refine lv_iadd hx hb dX12_cutsOut_160 ?_
      obtain ⟨v4_161, qq, h⟩ := bn_e h
      refine topi qq ?_
      refine lv_istore (lv' := [(4, .int v4_161), (0, .ref (HB.size + 91)), (1, .int v1), (2, .int v2), (3, .int v3), (5, .int v5)]) hx hb dX12_cutsOut_161 hl (by decide) rfl (fun ls hl => ?_)
      refine lv_goto (tgt := 7) hx hb dX12_cutsOut_163 (by decide) ?_
      exact hk7 σ H locs ls G29 G30 G32_139 v1 v2 v3 v4_161  hI e29 e30 e32 fr (lv_sub hl [1, 2, 3, 4, 0] rfl) h
    · replace h := ite_f hc h
      refine lv_iload hx hb dX12_cutsOut_145 (lv_at hl 4 rfl) ?_
      refine lv_aload_n hx hb dX12_cutsOut_147 rfl (lv_at hl 0 rfl) ?_
      refine gf_X12_115 hx hb hts hown hKK hI hN dX12_cutsOut_148 ?_
      refine lv_iload_n hx hb dX12_cutsOut_151 rfl (lv_at hl 3 rfl) ?_
      obtain ⟨hin_, h⟩ := ck_e h
      refine la_55 hx hb hKK hI e30 (lc126 hN) (kc126 hk0) hin_ dX12_cutsOut_152 ?_
      refine lv_iadd hx hb dX12_cutsOut_153 ?_
      refine lv_goto (tgt := 161) hx hb dX12_cutsOut_154 (by decide) ?_
      obtain ⟨v4_161, qq, h⟩ := bn_e h
      refine topi qq ?_
      refine lv_istore (lv' := [(4, .int v4_161), (0, .ref (HB.size + 91)), (1, .int v1), (2, .int v2), (3, .int v3), (5, .int v5)]) hx hb dX12_cutsOut_161 hl (by decide) rfl (fun ls hl => ?_)
      refine lv_goto (tgt := 7) hx hb dX12_cutsOut_163 (by decide) ?_
      exact hk7 σ H locs ls G29 G30 G32_139 v1 v2 v3 v4_161  hI e29 e30 e32 fr (lv_sub hl [1, 2, 3, 4, 0] rfl) h
  have b112 : ∀ (k7 : Grp → Grp → Grp → Int32 → Int32 → Int32 → Int32 → Option (Grp)) (hk7 : ∀ (σ : St) (H : Heap) (locs : List Loc) (ls : Array Slot) (G29 : Grp) (G30 : Grp) (G32 : Grp) (v1 : Int32) (v2 : Int32) (v3 : Int32) (v4 : Int32) , IV HB D y n n κ σ locs H → σ 29 = G29 → σ 30 = G30 → σ 32 = G32 → (∀ j, j ∉ W_X12_cutsOut → σ j = σ0 j) → lv_has ls 6 [(0, .ref (HB.size + 91)), (1, .int v1), (2, .int v2), (3, .int v3), (4, .int v4)] → k7 G29 G30 G32 v1 v2 v3 v4 = some q → WX RM_X12_cutsOut p l e s m args below meth c HB none (B_X12_cutsOut HB D y n κ σ0 q) H locs (F0 m 7 ls [])) (σ : St) (H : Heap) (locs : List Loc) (ls : Array Slot) (G29 : Grp) (G30 : Grp) (G32 : Grp) (v1 : Int32) (v2 : Int32) (v3 : Int32) (v4 : Int32) (v5 : Int32) (s1 : Int32) (s2 : Int32) , IV HB D y n n κ σ locs H → σ 29 = G29 → σ 30 = G30 → σ 32 = G32 → (∀ j, j ∉ W_X12_cutsOut → σ j = σ0 j) → lv_has ls 6 [(0, .ref (HB.size + 91)), (1, .int v1), (2, .int v2), (3, .int v3), (4, .int v4), (5, .int v5)] → f_X12_cutsOut_b112 F k7 G29 G30 G32 v1 v2 v3 v4 v5 s1 s2 = some q → WX RM_X12_cutsOut p l e s m args below meth c HB none (B_X12_cutsOut HB D y n κ σ0 q) H locs (F0 m 112 ls [.int s2, .int s1, .ref (HB.size + 143)]) := by
    intro k7 hk7 σ H locs ls G29 G30 G32 v1 v2 v3 v4 v5 s1 s2 hI e29 e30 e32 fr hl h
    unfold f_X12_cutsOut_b112 at h
    obtain ⟨hin_, h⟩ := ck_e h
    obtain ⟨G32_112, qq, h⟩ := bn_e h
    refine sa_60 hx hb hKK hI e32 (lc143 hN) (kc143 hk0) hin_ dX12_cutsOut_112 (fun σ H locs hI ew ho => ?_)
    have e32 := ew.trans qq.symm
    have e29 := (ho 29 (nn rfl)).trans e29
    have e30 := (ho 30 (nn rfl)).trans e30
    have fr := frs fr ho (by decide)
    refine lv_iload_n hx hb dX12_cutsOut_113 rfl (lv_at hl 2 rfl) ?_
    refine lv_iconst (v := 1) hx hb dX12_cutsOut_114 (by decide) ?_
    refine lv_iadd hx hb dX12_cutsOut_115 ?_
    obtain ⟨v2_116, qq, h⟩ := bn_e h
    refine topi qq ?_
    refine lv_istore_n (lv' := [(2, .int v2_116), (0, .ref (HB.size + 91)), (1, .int v1), (3, .int v3), (4, .int v4), (5, .int v5)]) hx hb dX12_cutsOut_116 rfl hl (by decide) rfl (fun ls hl => ?_)
    refine lv_aload_n hx hb dX12_cutsOut_117 rfl (lv_at hl 1 rfl) ?_
    refine gf_X12_157 hx hb hts hown hKK hI hN dX12_cutsOut_118 ?_
    refine lv_iload_n hx hb dX12_cutsOut_121 rfl (lv_at hl 2 rfl) ?_
    refine lv_aload_n hx hb dX12_cutsOut_122 rfl (lv_at hl 1 rfl) ?_
    refine gf_X12_157 hx hb hts hown hKK hI hN dX12_cutsOut_123 ?_
    refine lv_iload_n hx hb dX12_cutsOut_126 rfl (lv_at hl 2 rfl) ?_
    obtain ⟨hin_, h⟩ := ck_e h
    refine la_57 hx hb hKK hI e32 (lc140 hN) (kc140 hk0) hin_ dX12_cutsOut_127 ?_
    refine lv_iload hx hb dX12_cutsOut_128 (lv_at hl 5 rfl) ?_
    refine lv_if_eq (tgt := 137) hx hb dX12_cutsOut_130 (by decide) (fun hc => ?_) (fun hc => ?_)
    · replace h := ite_t hc h
      refine lv_iconst (v := 0) hx hb dX12_cutsOut_137 (by decide) ?_
      exact b138 k7 hk7 σ H locs ls G29 G30 G32_112 v1 v2_116 v3 v4 v5 v1 (G32_112.1 140 v1.toNatClampNeg) 0  hI e29 e30 e32 fr (lv_sub hl [1, 2, 0, 3, 4, 5] rfl) h
    · replace h := ite_f hc h
      refine lv_iconst (v := 1) hx hb dX12_cutsOut_133 (by decide) ?_
      refine lv_goto (tgt := 138) hx hb dX12_cutsOut_134 (by decide) ?_
      exact b138 k7 hk7 σ H locs ls G29 G30 G32_112 v1 v2_116 v3 v4 v5 v1 (G32_112.1 140 v1.toNatClampNeg) 1  hI e29 e30 e32 fr (lv_sub hl [1, 2, 0, 3, 4, 5] rfl) h
  have b82 : ∀ (k7 : Grp → Grp → Grp → Int32 → Int32 → Int32 → Int32 → Option (Grp)) (hk7 : ∀ (σ : St) (H : Heap) (locs : List Loc) (ls : Array Slot) (G29 : Grp) (G30 : Grp) (G32 : Grp) (v1 : Int32) (v2 : Int32) (v3 : Int32) (v4 : Int32) , IV HB D y n n κ σ locs H → σ 29 = G29 → σ 30 = G30 → σ 32 = G32 → (∀ j, j ∉ W_X12_cutsOut → σ j = σ0 j) → lv_has ls 6 [(0, .ref (HB.size + 91)), (1, .int v1), (2, .int v2), (3, .int v3), (4, .int v4)] → k7 G29 G30 G32 v1 v2 v3 v4 = some q → WX RM_X12_cutsOut p l e s m args below meth c HB none (B_X12_cutsOut HB D y n κ σ0 q) H locs (F0 m 7 ls [])) (σ : St) (H : Heap) (locs : List Loc) (ls : Array Slot) (G29 : Grp) (G30 : Grp) (G32 : Grp) (v1 : Int32) (v2 : Int32) (v3 : Int32) (v4 : Int32) (s0 : Int32) , IV HB D y n n κ σ locs H → σ 29 = G29 → σ 30 = G30 → σ 32 = G32 → (∀ j, j ∉ W_X12_cutsOut → σ j = σ0 j) → lv_has ls 6 [(0, .ref (HB.size + 91)), (1, .int v1), (2, .int v2), (3, .int v3), (4, .int v4)] → f_X12_cutsOut_b82 F k7 G29 G30 G32 v1 v2 v3 v4 s0 = some q → WX RM_X12_cutsOut p l e s m args below meth c HB none (B_X12_cutsOut HB D y n κ σ0 q) H locs (F0 m 82 ls [.int s0]) := by
    intro k7 hk7 σ H locs ls G29 G30 G32 v1 v2 v3 v4 s0 hI e29 e30 e32 fr hl h
    unfold f_X12_cutsOut_b82 at h
    refine lv_istore (lv' := [(5, .int s0), (0, .ref (HB.size + 91)), (1, .int v1), (2, .int v2), (3, .int v3), (4, .int v4)]) hx hb dX12_cutsOut_82 hl (by decide) rfl (fun ls hl => ?_)
    refine lv_aload_n hx hb dX12_cutsOut_84 rfl (lv_at hl 1 rfl) ?_
    refine gf_X12_166 hx hb hts hown hKK hI hN dX12_cutsOut_85 ?_
    refine lv_sipush (v := 160) hx hb dX12_cutsOut_88 (by decide) ?_
    refine lv_iload_n hx hb dX12_cutsOut_91 rfl (lv_at hl 2 rfl) ?_
    refine lv_imul hx hb dX12_cutsOut_92 ?_
    refine lv_iload_n hx hb dX12_cutsOut_93 rfl (lv_at hl 3 rfl) ?_
    refine lv_iadd hx hb dX12_cutsOut_94 ?_
    refine lv_iload hx hb dX12_cutsOut_95 (lv_at hl 0 rfl) ?_
    refine lv_if_eq (tgt := 105) hx hb dX12_cutsOut_97 (by decide) (fun hc => ?_) (fun hc => ?_)
    · replace h := ite_t hc h
      refine lv_aload_n hx hb dX12_cutsOut_105 rfl (lv_at hl 1 rfl) ?_
      refine gf_X12_106 hx hb hts hown hKK hI hN dX12_cutsOut_106 ?_
      refine lv_iload hx hb dX12_cutsOut_109 (lv_at hl 5 rfl) ?_
      obtain ⟨hin_, h⟩ := ck_e h
      refine la_54 hx hb hKK hI e30 (lc123 hN) (kc123 hk0) hin_ dX12_cutsOut_111 ?_
      exact b112 k7 hk7 σ H locs ls G29 G30 G32 v1 v2 v3 v4 s0 ((160 * v1) + v2) (G30.1 123 v4.toNatClampNeg)  hI e29 e30 e32 fr (lv_sub hl [1, 2, 3, 4, 5, 0] rfl) h
    · replace h := ite_f hc h
      refine lv_bipush (v := 120) hx hb dX12_cutsOut_100 (by decide) ?_
      refine lv_goto (tgt := 112) hx hb dX12_cutsOut_102 (by decide) ?_
      exact b112 k7 hk7 σ H locs ls G29 G30 G32 v1 v2 v3 v4 s0 ((160 * v1) + v2) 120  hI e29 e30 e32 fr (lv_sub hl [1, 2, 3, 4, 5, 0] rfl) h
  have b81 : ∀ (k7 : Grp → Grp → Grp → Int32 → Int32 → Int32 → Int32 → Option (Grp)) (hk7 : ∀ (σ : St) (H : Heap) (locs : List Loc) (ls : Array Slot) (G29 : Grp) (G30 : Grp) (G32 : Grp) (v1 : Int32) (v2 : Int32) (v3 : Int32) (v4 : Int32) , IV HB D y n n κ σ locs H → σ 29 = G29 → σ 30 = G30 → σ 32 = G32 → (∀ j, j ∉ W_X12_cutsOut → σ j = σ0 j) → lv_has ls 6 [(0, .ref (HB.size + 91)), (1, .int v1), (2, .int v2), (3, .int v3), (4, .int v4)] → k7 G29 G30 G32 v1 v2 v3 v4 = some q → WX RM_X12_cutsOut p l e s m args below meth c HB none (B_X12_cutsOut HB D y n κ σ0 q) H locs (F0 m 7 ls [])) (σ : St) (H : Heap) (locs : List Loc) (ls : Array Slot) (G29 : Grp) (G30 : Grp) (G32 : Grp) (v1 : Int32) (v2 : Int32) (v3 : Int32) (v4 : Int32) , IV HB D y n n κ σ locs H → σ 29 = G29 → σ 30 = G30 → σ 32 = G32 → (∀ j, j ∉ W_X12_cutsOut → σ j = σ0 j) → lv_has ls 6 [(0, .ref (HB.size + 91)), (1, .int v1), (2, .int v2), (3, .int v3), (4, .int v4)] → f_X12_cutsOut_b81 F k7 G29 G30 G32 v1 v2 v3 v4 = some q → WX RM_X12_cutsOut p l e s m args below meth c HB none (B_X12_cutsOut HB D y n κ σ0 q) H locs (F0 m 81 ls []) := by
    intro k7 hk7 σ H locs ls G29 G30 G32 v1 v2 v3 v4 hI e29 e30 e32 fr hl h
    unfold f_X12_cutsOut_b81 at h
    refine lv_iconst (v := 0) hx hb dX12_cutsOut_81 (by decide) ?_
    exact b82 k7 hk7 σ H locs ls G29 G30 G32 v1 v2 v3 v4 0  hI e29 e30 e32 fr (lv_sub hl [0, 1, 2, 3, 4] rfl) h
  have b42 : ∀ (k7 : Grp → Grp → Grp → Int32 → Int32 → Int32 → Int32 → Option (Grp)) (hk7 : ∀ (σ : St) (H : Heap) (locs : List Loc) (ls : Array Slot) (G29 : Grp) (G30 : Grp) (G32 : Grp) (v1 : Int32) (v2 : Int32) (v3 : Int32) (v4 : Int32) , IV HB D y n n κ σ locs H → σ 29 = G29 → σ 30 = G30 → σ 32 = G32 → (∀ j, j ∉ W_X12_cutsOut → σ j = σ0 j) → lv_has ls 6 [(0, .ref (HB.size + 91)), (1, .int v1), (2, .int v2), (3, .int v3), (4, .int v4)] → k7 G29 G30 G32 v1 v2 v3 v4 = some q → WX RM_X12_cutsOut p l e s m args below meth c HB none (B_X12_cutsOut HB D y n κ σ0 q) H locs (F0 m 7 ls [])) (σ : St) (H : Heap) (locs : List Loc) (ls : Array Slot) (G29 : Grp) (G30 : Grp) (G32 : Grp) (v1 : Int32) (v2 : Int32) (v3 : Int32) (v4 : Int32) , IV HB D y n n κ σ locs H → σ 29 = G29 → σ 30 = G30 → σ 32 = G32 → (∀ j, j ∉ W_X12_cutsOut → σ j = σ0 j) → lv_has ls 6 [(0, .ref (HB.size + 91)), (1, .int v1), (2, .int v2), (3, .int v3), (4, .int v4)] → f_X12_cutsOut_b42 F k7 G29 G30 G32 v1 v2 v3 v4 = some q → WX RM_X12_cutsOut p l e s m args below meth c HB none (B_X12_cutsOut HB D y n κ σ0 q) H locs (F0 m 42 ls []) := by
    intro k7 hk7 σ H locs ls G29 G30 G32 v1 v2 v3 v4 hI e29 e30 e32 fr hl h
    unfold f_X12_cutsOut_b42 at h
    refine lv_iload_n hx hb dX12_cutsOut_42 rfl (lv_at hl 3 rfl) ?_
    refine lv_aload_n hx hb dX12_cutsOut_43 rfl (lv_at hl 0 rfl) ?_
    refine gt_X12_413 hx hb hts hown hKK hI e30 (lc91 hN) (kc91 hk0) dX12_cutsOut_44 ?_
    refine lv_icmp_ge (tgt := 81) hx hb dX12_cutsOut_47 (by decide) (fun hc => ?_) (fun hc => ?_)
    · replace h := ite_t hc h
      exact b81 k7 hk7 σ H locs ls G29 G30 G32 v1 v2 v3 v4  hI e29 e30 e32 fr (lv_sub hl [0, 1, 2, 3, 4] rfl) h
    · replace h := ite_f hc h
      refine lv_aload_n hx hb dX12_cutsOut_50 rfl (lv_at hl 0 rfl) ?_
      refine gf_X12_112 hx hb hts hown hKK hI hN dX12_cutsOut_51 ?_
      refine lv_iload_n hx hb dX12_cutsOut_54 rfl (lv_at hl 3 rfl) ?_
      obtain ⟨hin_, h⟩ := ck_e h
      refine la_55 hx hb hKK hI e30 (lc125 hN) (kc125 hk0) hin_ dX12_cutsOut_55 ?_
      refine lv_iload hx hb dX12_cutsOut_56 (lv_at hl 4 rfl) ?_
      refine lv_icmp_ne (tgt := 81) hx hb dX12_cutsOut_58 (by decide) (fun hc => ?_) (fun hc => ?_)
      · replace h := ite_f hc h
        exact b81 k7 hk7 σ H locs ls G29 G30 G32 v1 v2 v3 v4  hI e29 e30 e32 fr (lv_sub hl [0, 1, 2, 3, 4] rfl) h
      · replace h := ite_t hc h
        refine lv_aload_n hx hb dX12_cutsOut_61 rfl (lv_at hl 0 rfl) ?_
        refine gf_X12_80 hx hb hts hown hKK hI hN dX12_cutsOut_62 ?_
        refine lv_aload_n hx hb dX12_cutsOut_65 rfl (lv_at hl 0 rfl) ?_
        refine gf_X12_109 hx hb hts hown hKK hI hN dX12_cutsOut_66 ?_
        refine lv_iload_n hx hb dX12_cutsOut_69 rfl (lv_at hl 3 rfl) ?_
        obtain ⟨hin_, h⟩ := ck_e h
        refine la_55 hx hb hKK hI e30 (lc124 hN) (kc124 hk0) hin_ dX12_cutsOut_70 ?_
        obtain ⟨hin_, h⟩ := ck_e h
        refine la_49 hx hb hKK hI e29 (lc115 hN) (kc115 hk0) hin_ dX12_cutsOut_71 ?_
        refine lv_bipush (v := 99) hx hb dX12_cutsOut_72 (by decide) ?_
        refine lv_icmp_ne (tgt := 81) hx hb dX12_cutsOut_74 (by decide) (fun hc => ?_) (fun hc => ?_)
        · replace h := ite_f hc h
          exact b81 k7 hk7 σ H locs ls G29 G30 G32 v1 v2 v3 v4  hI e29 e30 e32 fr (lv_sub hl [0, 1, 2, 3, 4] rfl) h
        · replace h := ite_t hc h
          refine lv_iconst (v := 1) hx hb dX12_cutsOut_77 (by decide) ?_
          refine lv_goto (tgt := 82) hx hb dX12_cutsOut_78 (by decide) ?_
          exact b82 k7 hk7 σ H locs ls G29 G30 G32 v1 v2 v3 v4 1  hI e29 e30 e32 fr (lv_sub hl [0, 1, 2, 3, 4] rfl) h
  have b16 : ∀ (k7 : Grp → Grp → Grp → Int32 → Int32 → Int32 → Int32 → Option (Grp)) (hk7 : ∀ (σ : St) (H : Heap) (locs : List Loc) (ls : Array Slot) (G29 : Grp) (G30 : Grp) (G32 : Grp) (v1 : Int32) (v2 : Int32) (v3 : Int32) (v4 : Int32) , IV HB D y n n κ σ locs H → σ 29 = G29 → σ 30 = G30 → σ 32 = G32 → (∀ j, j ∉ W_X12_cutsOut → σ j = σ0 j) → lv_has ls 6 [(0, .ref (HB.size + 91)), (1, .int v1), (2, .int v2), (3, .int v3), (4, .int v4)] → k7 G29 G30 G32 v1 v2 v3 v4 = some q → WX RM_X12_cutsOut p l e s m args below meth c HB none (B_X12_cutsOut HB D y n κ σ0 q) H locs (F0 m 7 ls [])) (fu : Nat) (σ : St) (H : Heap) (locs : List Loc) (ls : Array Slot) (G29 : Grp) (G30 : Grp) (G32 : Grp) (v1 : Int32) (v2 : Int32) (v3 : Int32) (v4 : Int32) , IV HB D y n n κ σ locs H → σ 29 = G29 → σ 30 = G30 → σ 32 = G32 → (∀ j, j ∉ W_X12_cutsOut → σ j = σ0 j) → lv_has ls 6 [(0, .ref (HB.size + 91)), (1, .int v1), (2, .int v2), (3, .int v3), (4, .int v4)] → f_X12_cutsOut_l16 F k7 fu G29 G30 G32 v1 v2 v3 v4 = some q → WX RM_X12_cutsOut p l e s m args below meth c HB none (B_X12_cutsOut HB D y n κ σ0 q) H locs (F0 m 16 ls []) := by
    intro k7 hk7 fu
    induction fu with
    | zero =>
      intro σ H locs ls G29 G30 G32 v1 v2 v3 v4 hI e29 e30 e32 fr hl h
      exact absurd h (by intro h; cases h)
    | succ fu hk16 =>
      intro σ H locs ls G29 G30 G32 v1 v2 v3 v4 hI e29 e30 e32 fr hl h
      have h : f_X12_cutsOut_l16b F k7 (f_X12_cutsOut_l16 F k7 fu) G29 G30 G32 v1 v2 v3 v4 = some q := h
      generalize f_X12_cutsOut_l16 F k7 fu = k16 at h hk16
      unfold f_X12_cutsOut_l16b at h
      refine lv_iload_n hx hb dX12_cutsOut_16 rfl (lv_at hl 3 rfl) ?_
      refine lv_aload_n hx hb dX12_cutsOut_17 rfl (lv_at hl 0 rfl) ?_
      refine gt_X12_413 hx hb hts hown hKK hI e30 (lc91 hN) (kc91 hk0) dX12_cutsOut_18 ?_
      refine lv_icmp_ge (tgt := 42) hx hb dX12_cutsOut_21 (by decide) (fun hc => ?_) (fun hc => ?_)
      · replace h := ite_t hc h
        exact b42 k7 hk7 σ H locs ls G29 G30 G32 v1 v2 v3 v4  hI e29 e30 e32 fr (lv_sub hl [0, 1, 2, 3, 4] rfl) h
      · replace h := ite_f hc h
        refine lv_aload_n hx hb dX12_cutsOut_24 rfl (lv_at hl 0 rfl) ?_
        refine gf_X12_112 hx hb hts hown hKK hI hN dX12_cutsOut_25 ?_
        refine lv_iload_n hx hb dX12_cutsOut_28 rfl (lv_at hl 3 rfl) ?_
        obtain ⟨hin_, h⟩ := ck_e h
        refine la_55 hx hb hKK hI e30 (lc125 hN) (kc125 hk0) hin_ dX12_cutsOut_29 ?_
        refine lv_iload hx hb dX12_cutsOut_30 (lv_at hl 4 rfl) ?_
        refine lv_icmp_ge (tgt := 42) hx hb dX12_cutsOut_32 (by decide) (fun hc => ?_) (fun hc => ?_)
        · replace h := ite_t hc h
          exact b42 k7 hk7 σ H locs ls G29 G30 G32 v1 v2 v3 v4  hI e29 e30 e32 fr (lv_sub hl [0, 1, 2, 3, 4] rfl) h
        · replace h := ite_f hc h
          refine lv_iload_n hx hb dX12_cutsOut_35 rfl (lv_at hl 3 rfl) ?_
          refine lv_iconst (v := 1) hx hb dX12_cutsOut_36 (by decide) ?_
          refine lv_iadd hx hb dX12_cutsOut_37 ?_
          obtain ⟨v3_38, qq, h⟩ := bn_e h
          refine topi qq ?_
          refine lv_istore_n (lv' := [(3, .int v3_38), (0, .ref (HB.size + 91)), (1, .int v1), (2, .int v2), (4, .int v4)]) hx hb dX12_cutsOut_38 rfl hl (by decide) rfl (fun ls hl => ?_)
          refine lv_goto (tgt := 16) hx hb dX12_cutsOut_39 (by decide) ?_
          exact hk16 σ H locs ls G29 G30 G32 v1 v2 v3_38 v4  hI e29 e30 e32 fr (lv_sub hl [1, 2, 3, 0, 4] rfl) h
  have b7 : ∀ (fu : Nat) (σ : St) (H : Heap) (locs : List Loc) (ls : Array Slot) (G29 : Grp) (G30 : Grp) (G32 : Grp) (v1 : Int32) (v2 : Int32) (v3 : Int32) (v4 : Int32) , IV HB D y n n κ σ locs H → σ 29 = G29 → σ 30 = G30 → σ 32 = G32 → (∀ j, j ∉ W_X12_cutsOut → σ j = σ0 j) → lv_has ls 6 [(0, .ref (HB.size + 91)), (1, .int v1), (2, .int v2), (3, .int v3), (4, .int v4)] → f_X12_cutsOut_l7 F  fu G29 G30 G32 v1 v2 v3 v4 = some q → WX RM_X12_cutsOut p l e s m args below meth c HB none (B_X12_cutsOut HB D y n κ σ0 q) H locs (F0 m 7 ls []) := by
    intro  fu
    induction fu with
    | zero =>
      intro σ H locs ls G29 G30 G32 v1 v2 v3 v4 hI e29 e30 e32 fr hl h
      exact absurd h (by intro h; cases h)
    | succ fu hk7 =>
      intro σ H locs ls G29 G30 G32 v1 v2 v3 v4 hI e29 e30 e32 fr hl h
      have h : f_X12_cutsOut_l7b F  (f_X12_cutsOut_l7 F  fu) G29 G30 G32 v1 v2 v3 v4 = some q := h
      generalize f_X12_cutsOut_l7 F  fu = k7 at h hk7
      unfold f_X12_cutsOut_l7b at h
      refine lv_iload hx hb dX12_cutsOut_7 (lv_at hl 4 rfl) ?_
      refine lv_aload_n hx hb dX12_cutsOut_9 rfl (lv_at hl 0 rfl) ?_
      refine gt_X12_384 hx hb hts hown hKK hI e30 (lc91 hN) (kc91 hk0) dX12_cutsOut_10 ?_
      refine lv_icmp_ge (tgt := 166) hx hb dX12_cutsOut_13 (by decide) (fun hc => ?_) (fun hc => ?_)
      · replace h := ite_t hc h
        refine lv_aload_n hx hb dX12_cutsOut_166 rfl (lv_at hl 0 rfl) ?_
        refine gf_X12_154 hx hb hts hown hKK hI hN dX12_cutsOut_167 ?_
        refine lv_iload_n hx hb dX12_cutsOut_170 rfl (lv_at hl 1 rfl) ?_
        refine lv_iload_n hx hb dX12_cutsOut_171 rfl (lv_at hl 2 rfl) ?_
        obtain ⟨hin_, h⟩ := ck_e h
        obtain ⟨G32_172, qq, h⟩ := bn_e h
        refine sa_57 hx hb hKK hI e32 (lc139 hN) (kc139 hk0) hin_ dX12_cutsOut_172 (fun σ H locs hI ew ho => ?_)
        have e32 := ew.trans qq.symm
        have e29 := (ho 29 (nn rfl)).trans e29
        have e30 := (ho 30 (nn rfl)).trans e30
        have fr := frs fr ho (by decide)
        have hq := Option.some.inj h
        exact W.vret hx hb hr (fun t ht hW => qc_mk (rfl) (by rw [ht]; exact ⟨σ, hI.nil, e32.trans (congrArg (fun z => z) hq), fr⟩)) hI.2.2 dX12_cutsOut_173 hlocks
      · replace h := ite_f hc h
        exact b16 k7 hk7 F σ H locs ls G29 G30 G32 v1 v2 v3 v4  hI e29 e30 e32 fr (lv_sub hl [0, 1, 2, 3, 4] rfl) h
  obtain ⟨σ, hI, e29, e30, e32, fr⟩ : ∃ σ : St, IV HB D y n n κ σ [] s.heap ∧ σ 29 = G29 ∧ σ 30 = G30 ∧ σ 32 = G32 ∧ ∀ j, j ∉ W_X12_cutsOut → σ j = σ0 j := ⟨σ0, hI, e29, e30, e32, fun _ _ => rfl⟩
  show WX RM_X12_cutsOut p l e s m args below meth c HB none (B_X12_cutsOut HB D y n κ σ0 q) s.heap [] (F0 m 0 ls [])
  generalize s.heap = H at hI ⊢
  unfold f_X12_cutsOut at h
  obtain ⟨locs, hlocs⟩ : ∃ x : List Loc, x = [] := ⟨_, rfl⟩
  rw [← hlocs] at hI ⊢
  refine lv_iconst (v := 0) hx hb dX12_cutsOut_0 (by decide) ?_
  refine lv_istore_n (lv' := [(2, .int 0), (0, .ref (HB.size + 91)), (1, .int v1)]) hx hb dX12_cutsOut_1 rfl hl (by decide) rfl (fun ls hl => ?_)
  refine lv_iconst (v := 0) hx hb dX12_cutsOut_2 (by decide) ?_
  refine lv_istore_n (lv' := [(3, .int 0), (2, .int 0), (0, .ref (HB.size + 91)), (1, .int v1)]) hx hb dX12_cutsOut_3 rfl hl (by decide) rfl (fun ls hl => ?_)
  refine lv_iconst (v := 0) hx hb dX12_cutsOut_4 (by decide) ?_
  refine lv_istore (lv' := [(4, .int 0), (3, .int 0), (2, .int 0), (0, .ref (HB.size + 91)), (1, .int v1)]) hx hb dX12_cutsOut_5 hl (by decide) rfl (fun ls hl => ?_)
  exact b7  F σ H locs ls G29 G30 G32 v1 0 0 0  hI e29 e30 e32 fr (lv_sub hl [3, 4, 2, 1, 0] rfl) h
noncomputable def f_X12_tongueOf (F : Nat) (G24 : Grp) (G25 : Grp) (v1 : Int32) (v2 : Int32) : Option (Int32) :=
  if v2 = 0 then ck v1 40 (ck (G25.1 99 v1.toNatClampNeg) 16 (some (G24.1 94 (G25.1 99 v1.toNatClampNeg).toNatClampNeg))) else ck v1 40 (ck (G25.1 100 v1.toNatClampNeg) 16 (some (G24.1 96 (G25.1 100 v1.toNatClampNeg).toNatClampNeg)))
def RM_X12_tongueOf : Room := { frames := 0, cells := 0, slots := 0, locals := 0 }
abbrev B_X12_tongueOf (HB : Heap) (D : va_G) (y : Nat → ClassId) (n : Nat) (κ : Nat → Nat) (σ : St) (q : Int32) : Heap → Prop := fun H => IV HB D y n n κ σ [] H
set_option maxRecDepth 100000 in
set_option maxHeartbeats 4000000 in
theorem c_X12_tongueOf (l : Launch) (HB : Heap) (D : va_G) (y : Nat → ClassId) (F n : Nat) (κ : Nat → Nat) (σ : St) (hN : N0 ≤ n) (v1 : Int32)  (v2 : Int32)  (G24 : Grp) (e24 : σ 24 = G24) (G25 : Grp) (e25 : σ 25 = G25) (q : Int32) (h : f_X12_tongueOf F G24 G25 v1 v2 = some q) : MT l HB D y yX12_tongueOf cX12_tongueOf 3 (some .int) RM_X12_tongueOf [.ref (HB.size + 91), .int v1, .int v2] (IV HB D y n n κ σ []) (some (.int q)) (B_X12_tongueOf HB D y n κ σ q) := by
  refine Met.ofW (cc := cX12_tongueOf) (maxL := 3) (ret := (some .int)) (by decide) rfl ?_
  intro p e s m args below meth c s₁ BL hml hv
  obtain ⟨rfl, hI, hKK⟩ := hv
  have hx := BL.exec
  have hb := BL.bytes
  have hr := BL.returns
  have hts : ∀ w ∈ gtb, w.before _ s = true := fun w hw => atoms_spec BL.pre w (List.mem_cons_of_mem _ hw)
  have hml : c.maxLocals = 3 := hml
  have hown : s.vm.findClass RX12 = some m.cls := findClass_of_methodNamed BL.named
  have hlocks := BL.notSynchronized
  have hk0 := hI.1.2.2.2.2
  have hl := lv_entry ([.ref (HB.size + 91), .int v1, .int v2]) (n := 3) (Nat.le_of_ble_eq_true rfl)
  rw [lg_entry_eq]
  generalize (lg_sl ([.ref (HB.size + 91), .int v1, .int v2]) ++ List.replicate (3 - (lg_sl ([.ref (HB.size + 91), .int v1, .int v2])).length) Slot.unset).toArray = ls at hl ⊢
  have hl : lv_has ls 3 [(0, .ref (HB.size + 91)), (1, .int v1), (2, .int v2)] := hl
  generalize hargs : ([.ref (HB.size + 91), .int v1, .int v2] : List Value).toArray = args at *
  show WX RM_X12_tongueOf p l e s m args below meth c HB (some (.int q)) (B_X12_tongueOf HB D y n κ σ q) s.heap [] (F0 m 0 ls [])
  generalize s.heap = H at hI ⊢
  unfold f_X12_tongueOf at h
  obtain ⟨locs, hlocs⟩ : ∃ x : List Loc, x = [] := ⟨_, rfl⟩
  rw [← hlocs] at hI ⊢
  refine lv_iload_n hx hb dX12_tongueOf_0 rfl (lv_at hl 2 rfl) ?_
  refine lv_if_ne (tgt := 18) hx hb dX12_tongueOf_1 (by decide) (fun hc => ?_) (fun hc => ?_)
  · replace h := ite_f hc h
    refine lv_aload_n hx hb dX12_tongueOf_18 rfl (lv_at hl 0 rfl) ?_
    refine gf_X12_22 hx hb hts hown hKK hI hN dX12_tongueOf_19 ?_
    refine lv_aload_n hx hb dX12_tongueOf_22 rfl (lv_at hl 0 rfl) ?_
    refine gf_X12_34 hx hb hts hown hKK hI hN dX12_tongueOf_23 ?_
    refine lv_iload_n hx hb dX12_tongueOf_26 rfl (lv_at hl 1 rfl) ?_
    obtain ⟨hin_, h⟩ := ck_e h
    refine la_44 hx hb hKK hI e25 (lc100 hN) (kc100 hk0) hin_ dX12_tongueOf_27 ?_
    obtain ⟨hin_, h⟩ := ck_e h
    refine la_43 hx hb hKK hI e24 (lc96 hN) (kc96 hk0) hin_ dX12_tongueOf_28 ?_
    have hq := Option.some.inj h
    exact W.iret (v := (G24.1 96 (G25.1 100 v1.toNatClampNeg).toNatClampNeg)) hx hb hr (fun t ht hW => qc_mk (congrArg (fun z => Outcome.returned (some (Value.int z))) hq) (by rw [ht]; exact hI.nil)) hI.2.2 dX12_tongueOf_29 hlocks
  · replace h := ite_t hc h
    refine lv_aload_n hx hb dX12_tongueOf_4 rfl (lv_at hl 0 rfl) ?_
    refine gf_X12_16 hx hb hts hown hKK hI hN dX12_tongueOf_5 ?_
    refine lv_aload_n hx hb dX12_tongueOf_8 rfl (lv_at hl 0 rfl) ?_
    refine gf_X12_31 hx hb hts hown hKK hI hN dX12_tongueOf_9 ?_
    refine lv_iload_n hx hb dX12_tongueOf_12 rfl (lv_at hl 1 rfl) ?_
    obtain ⟨hin_, h⟩ := ck_e h
    refine la_44 hx hb hKK hI e25 (lc99 hN) (kc99 hk0) hin_ dX12_tongueOf_13 ?_
    obtain ⟨hin_, h⟩ := ck_e h
    refine la_43 hx hb hKK hI e24 (lc94 hN) (kc94 hk0) hin_ dX12_tongueOf_14 ?_
    refine lv_goto (tgt := 29) hx hb dX12_tongueOf_15 (by decide) ?_
    have hq := Option.some.inj h
    exact W.iret (v := (G24.1 94 (G25.1 99 v1.toNatClampNeg).toNatClampNeg)) hx hb hr (fun t ht hW => qc_mk (congrArg (fun z => Outcome.returned (some (Value.int z))) hq) (by rw [ht]; exact hI.nil)) hI.2.2 dX12_tongueOf_29 hlocks
noncomputable def f_X12_passes_b120 (F : Nat)  (G23 : Grp) (G24 : Grp) (G25 : Grp) (G29 : Grp) (G30 : Grp) (G32 : Grp) (G33 : Grp) (G36 : Grp) (s1 : Int32) (s2 : Int32) : Option (Grp × Grp × Grp) :=
  ob (f_X12_moves F G23 G32 s1 s2) (fun q_120 => some (G25, q_120, G36))
noncomputable def f_X12_passes_l47b (F : Nat)  (k47 : Grp → Grp → Grp → Grp → Grp → Grp → Grp → Grp → Int32 → Int32 → Int32 → Int32 → Option (Grp × Grp × Grp)) (G23 : Grp) (G24 : Grp) (G25 : Grp) (G29 : Grp) (G30 : Grp) (G32 : Grp) (G33 : Grp) (G36 : Grp) (v1 : Int32) (v2 : Int32) (v3 : Int32) (v4 : Int32) : Option (Grp × Grp × Grp) :=
  if 4 ≤ v4 then ob (f_X12_cutsOut F G29 G30 G32 v1) (fun q_95 => ob (f_X12_tongueOf F G24 G25 v2 0) (fun q_103 => ob (f_X12_tongueOf F G24 G25 v2 1) (fun q_109 => if q_103 = q_109 then f_X12_passes_b120 F  G23 G24 G25 G29 G30 q_95 G33 G36 v1 5 else f_X12_passes_b120 F  G23 G24 G25 G29 G30 q_95 G33 G36 v1 4))) else ck ((4 * v3) + v4) 128 (ck ((4 * v1) + v4) 800 (ck ((4 * v3) + v4) 128 (bn (gI G36 148 ((4 * v3) + v4).toNatClampNeg ((G36.1 148 ((4 * v3) + v4).toNatClampNeg) + (G33.1 141 ((4 * v1) + v4).toNatClampNeg))) (fun G36_86 => bn (v4 + 1) (fun v4_87 => k47 G23 G24 G25 G29 G30 G32 G33 G36_86 v1 v2 v3 v4_87)))))
noncomputable def f_X12_passes_l47 (F : Nat)  (fu : Nat) : Grp → Grp → Grp → Grp → Grp → Grp → Grp → Grp → Int32 → Int32 → Int32 → Int32 → Option (Grp × Grp × Grp) := Nat.rec (motive := fun _ => Grp → Grp → Grp → Grp → Grp → Grp → Grp → Grp → Int32 → Int32 → Int32 → Int32 → Option (Grp × Grp × Grp)) (fun _ _ _ _ _ _ _ _ _ _ _ _ => none) (fun _ ih => f_X12_passes_l47b F  ih) fu
noncomputable def f_X12_passes (F : Nat) (G23 : Grp) (G24 : Grp) (G25 : Grp) (G29 : Grp) (G30 : Grp) (G32 : Grp) (G33 : Grp) (G36 : Grp) (v1 : Int32) : Option (Grp × Grp × Grp) :=
  ck v1 200 (bn ((G32.1 132 v1.toNatClampNeg)) (fun v2_6 => ob (f_X12_writerOf F G25 G32 v1) (fun q_9 => ck v2_6 40 (ob (f_X12_hintsFound F G29 G30) (fun q_25 => ck v2_6 40 (bn (gI G25 103 v2_6.toNatClampNeg ((G25.1 103 v2_6.toNatClampNeg) ||| q_25)) (fun G25_29 => ck q_9 32 (ck q_9 32 (bn (gI G36 147 q_9.toNatClampNeg ((G36.1 147 q_9.toNatClampNeg) + 1)) (fun G36_43 => f_X12_passes_l47 F  F G23 G24 G25_29 G29 G30 G32 G33 G36_43 v1 v2_6 q_9 0))))))))))
def RM_X12_passes : Room := { frames := 1, cells := 0, slots := 0, locals := 25 }
abbrev W_X12_passes : List Nat := [25, 32, 36]
abbrev B_X12_passes (HB : Heap) (D : va_G) (y : Nat → ClassId) (n : Nat) (κ : Nat → Nat) (σ0 : St) (q : Grp × Grp × Grp) : Heap → Prop := fun H => ∃ σ : St, IV HB D y n n κ σ [] H ∧ σ 25 = q.1 ∧ σ 32 = q.2.1 ∧ σ 36 = q.2.2 ∧ ∀ j, j ∉ W_X12_passes → σ j = σ0 j
set_option maxRecDepth 100000 in
set_option maxHeartbeats 4000000 in
theorem c_X12_passes (l : Launch) (HB : Heap) (D : va_G) (y : Nat → ClassId) (F n : Nat) (κ : Nat → Nat) (σ0 : St) (hN : N0 ≤ n) (v1 : Int32)  (G23 : Grp) (e23 : σ0 23 = G23) (G24 : Grp) (e24 : σ0 24 = G24) (G25 : Grp) (e25 : σ0 25 = G25) (G29 : Grp) (e29 : σ0 29 = G29) (G30 : Grp) (e30 : σ0 30 = G30) (G32 : Grp) (e32 : σ0 32 = G32) (G33 : Grp) (e33 : σ0 33 = G33) (G36 : Grp) (e36 : σ0 36 = G36) (q : Grp × Grp × Grp) (h : f_X12_passes F G23 G24 G25 G29 G30 G32 G33 G36 v1 = some q) : MT l HB D y yX12_passes cX12_passes 5 none RM_X12_passes [.ref (HB.size + 91), .int v1] (IV HB D y n n κ σ0 []) none (B_X12_passes HB D y n κ σ0 q) := by
  refine Met.ofW (cc := cX12_passes) (maxL := 5) (ret := none) (by decide) rfl ?_
  intro p e s m args below meth c s₁ BL hml hv
  obtain ⟨rfl, hI, hKK⟩ := hv
  have hx := BL.exec
  have hb := BL.bytes
  have hr := BL.returns
  have hts : ∀ w ∈ gtb, w.before _ s = true := fun w hw => atoms_spec BL.pre w (List.mem_cons_of_mem _ hw)
  have hml : c.maxLocals = 5 := hml
  have hown : s.vm.findClass RX12 = some m.cls := findClass_of_methodNamed BL.named
  have hlocks := BL.notSynchronized
  have hk0 := hI.1.2.2.2.2
  have hl := lv_entry ([.ref (HB.size + 91), .int v1]) (n := 5) (Nat.le_of_ble_eq_true rfl)
  rw [lg_entry_eq]
  generalize (lg_sl ([.ref (HB.size + 91), .int v1]) ++ List.replicate (5 - (lg_sl ([.ref (HB.size + 91), .int v1])).length) Slot.unset).toArray = ls at hl ⊢
  have hl : lv_has ls 5 [(0, .ref (HB.size + 91)), (1, .int v1)] := hl
  generalize hargs : ([.ref (HB.size + 91), .int v1] : List Value).toArray = args at *
  have b120 : ∀ (σ : St) (H : Heap) (locs : List Loc) (ls : Array Slot) (G23 : Grp) (G24 : Grp) (G25 : Grp) (G29 : Grp) (G30 : Grp) (G32 : Grp) (G33 : Grp) (G36 : Grp) (s1 : Int32) (s2 : Int32) , IV HB D y n n κ σ locs H → σ 23 = G23 → σ 24 = G24 → σ 25 = G25 → σ 29 = G29 → σ 30 = G30 → σ 32 = G32 → σ 33 = G33 → σ 36 = G36 → (∀ j, j ∉ W_X12_passes → σ j = σ0 j) → lv_has ls 5 [] → f_X12_passes_b120 F  G23 G24 G25 G29 G30 G32 G33 G36 s1 s2 = some q → WX RM_X12_passes p l e s m args below meth c HB none (B_X12_passes HB D y n κ σ0 q) H locs (F0 m 120 ls [.int s2, .int s1, .ref (HB.size + 91)]) := by
    intro  σ H locs ls G23 G24 G25 G29 G30 G32 G33 G36 s1 s2 hI e23 e24 e25 e29 e30 e32 e33 e36 fr hl h
    unfold f_X12_passes_b120 at h
    obtain ⟨q_120, hq_120, h⟩ := ob_e h
    refine r_callV (As := [.int s1, .int s2]) (rest := []) hx hb hml hts hown (c_X12_moves l HB D y F n κ σ hN s1 s2 G23 e23 G32 e32 q_120 hq_120) cal_X12_moves im_X12_moves se_X12_moves lm_X12_455 ⟨Nat.le_of_ble_eq_true rfl, Nat.le_of_ble_eq_true rfl⟩ hI.nil hKK (r_recv hKK hI (hE12 HB.size y) rfl (lc91 hN) (kc91 hk0)) rfl hl.1 hI.2.2 rfl (Nat.le_of_ble_eq_true rfl) dX12_passes_120 ⟨Nat.le_of_ble_eq_true rfl, Nat.le_of_ble_eq_true rfl⟩ rfl rfl rfl (fun H locs hB hlo => ?_)
    obtain ⟨σ, hB, en32, ho⟩ := hB
    have hI := hB.re hlo
    have e32 := en32
    have e23 := (ho 23 (ni rfl)).trans e23
    have e24 := (ho 24 (ni rfl)).trans e24
    have e25 := (ho 25 (ni rfl)).trans e25
    have e29 := (ho 29 (ni rfl)).trans e29
    have e30 := (ho 30 (ni rfl)).trans e30
    have e33 := (ho 33 (ni rfl)).trans e33
    have e36 := (ho 36 (ni rfl)).trans e36
    have fr := frc fr ho (by decide)
    have hq := Option.some.inj h
    exact W.vret hx hb hr (fun t ht hW => qc_mk (rfl) (by rw [ht]; exact ⟨σ, hI.nil, e25.trans (congrArg (fun z => z.1) hq), e32.trans (congrArg (fun z => z.2.1) hq), e36.trans (congrArg (fun z => z.2.2) hq), fr⟩)) hI.2.2 dX12_passes_123 hlocks
  have b47 : ∀ (fu : Nat) (σ : St) (H : Heap) (locs : List Loc) (ls : Array Slot) (G23 : Grp) (G24 : Grp) (G25 : Grp) (G29 : Grp) (G30 : Grp) (G32 : Grp) (G33 : Grp) (G36 : Grp) (v1 : Int32) (v2 : Int32) (v3 : Int32) (v4 : Int32) , IV HB D y n n κ σ locs H → σ 23 = G23 → σ 24 = G24 → σ 25 = G25 → σ 29 = G29 → σ 30 = G30 → σ 32 = G32 → σ 33 = G33 → σ 36 = G36 → (∀ j, j ∉ W_X12_passes → σ j = σ0 j) → lv_has ls 5 [(0, .ref (HB.size + 91)), (1, .int v1), (2, .int v2), (3, .int v3), (4, .int v4)] → f_X12_passes_l47 F  fu G23 G24 G25 G29 G30 G32 G33 G36 v1 v2 v3 v4 = some q → WX RM_X12_passes p l e s m args below meth c HB none (B_X12_passes HB D y n κ σ0 q) H locs (F0 m 47 ls []) := by
    intro  fu
    induction fu with
    | zero =>
      intro σ H locs ls G23 G24 G25 G29 G30 G32 G33 G36 v1 v2 v3 v4 hI e23 e24 e25 e29 e30 e32 e33 e36 fr hl h
      exact absurd h (by intro h; cases h)
    | succ fu hk47 =>
      intro σ H locs ls G23 G24 G25 G29 G30 G32 G33 G36 v1 v2 v3 v4 hI e23 e24 e25 e29 e30 e32 e33 e36 fr hl h
      have h : f_X12_passes_l47b F  (f_X12_passes_l47 F  fu) G23 G24 G25 G29 G30 G32 G33 G36 v1 v2 v3 v4 = some q := h
      generalize f_X12_passes_l47 F  fu = k47 at h hk47
      unfold f_X12_passes_l47b at h
      refine lv_iload hx hb dX12_passes_47 (lv_at hl 4 rfl) ?_
      refine lv_iconst (v := 4) hx hb dX12_passes_49 (by decide) ?_
      refine lv_icmp_ge (tgt := 93) hx hb dX12_passes_50 (by decide) (fun hc => ?_) (fun hc => ?_)
      · replace h := ite_t hc h
        refine lv_aload_n hx hb dX12_passes_93 rfl (lv_at hl 0 rfl) ?_
        refine lv_iload_n hx hb dX12_passes_94 rfl (lv_at hl 1 rfl) ?_
        obtain ⟨q_95, hq_95, h⟩ := ob_e h
        refine r_callV (As := [.int v1]) (rest := []) hx hb hml hts hown (c_X12_cutsOut l HB D y F n κ σ hN v1 G29 e29 G30 e30 G32 e32 q_95 hq_95) cal_X12_cutsOut im_X12_cutsOut se_X12_cutsOut lm_X12_449 ⟨Nat.le_of_ble_eq_true rfl, Nat.le_of_ble_eq_true rfl⟩ hI.nil hKK (r_recv hKK hI (hE12 HB.size y) rfl (lc91 hN) (kc91 hk0)) rfl hl.1 hI.2.2 rfl (Nat.le_of_ble_eq_true rfl) dX12_passes_95 ⟨Nat.le_of_ble_eq_true rfl, Nat.le_of_ble_eq_true rfl⟩ rfl rfl rfl (fun H locs hB hlo => ?_)
        obtain ⟨σ, hB, en32, ho⟩ := hB
        have hI := hB.re hlo
        have e32 := en32
        have e23 := (ho 23 (ni rfl)).trans e23
        have e24 := (ho 24 (ni rfl)).trans e24
        have e25 := (ho 25 (ni rfl)).trans e25
        have e29 := (ho 29 (ni rfl)).trans e29
        have e30 := (ho 30 (ni rfl)).trans e30
        have e33 := (ho 33 (ni rfl)).trans e33
        have e36 := (ho 36 (ni rfl)).trans e36
        have fr := frc fr ho (by decide)
        refine lv_aload_n hx hb dX12_passes_98 rfl (lv_at hl 0 rfl) ?_
        refine lv_iload_n hx hb dX12_passes_99 rfl (lv_at hl 1 rfl) ?_
        refine lv_aload_n hx hb dX12_passes_100 rfl (lv_at hl 0 rfl) ?_
        refine lv_iload_n hx hb dX12_passes_101 rfl (lv_at hl 2 rfl) ?_
        refine lv_iconst (v := 0) hx hb dX12_passes_102 (by decide) ?_
        obtain ⟨q_103, hq_103, h⟩ := ob_e h
        refine r_callV (As := [.int v2, .int 0]) (rest := [.int v1, .ref (HB.size + 91)]) hx hb hml hts hown (c_X12_tongueOf l HB D y F n κ σ hN v2 0 G24 e24 G25 e25 q_103 hq_103) cal_X12_tongueOf im_X12_tongueOf se_X12_tongueOf lm_X12_452 ⟨Nat.le_of_ble_eq_true rfl, Nat.le_of_ble_eq_true rfl⟩ hI.nil hKK (r_recv hKK hI (hE12 HB.size y) rfl (lc91 hN) (kc91 hk0)) rfl hl.1 hI.2.2 rfl (Nat.le_of_ble_eq_true rfl) dX12_passes_103 ⟨Nat.le_of_ble_eq_true rfl, Nat.le_of_ble_eq_true rfl⟩ rfl rfl rfl (fun H locs hB hlo => ?_)
        have hI := hB.re hlo
        refine lv_aload_n hx hb dX12_passes_106 rfl (lv_at hl 0 rfl) ?_
        refine lv_iload_n hx hb dX12_passes_107 rfl (lv_at hl 2 rfl) ?_
        refine lv_iconst (v := 1) hx hb dX12_passes_108 (by decide) ?_
        obtain ⟨q_109, hq_109, h⟩ := ob_e h
        refine r_callV (As := [.int v2, .int 1]) (rest := [.int q_103, .int v1, .ref (HB.size + 91)]) hx hb hml hts hown (c_X12_tongueOf l HB D y F n κ σ hN v2 1 G24 e24 G25 e25 q_109 hq_109) cal_X12_tongueOf im_X12_tongueOf se_X12_tongueOf lm_X12_452 ⟨Nat.le_of_ble_eq_true rfl, Nat.le_of_ble_eq_true rfl⟩ hI.nil hKK (r_recv hKK hI (hE12 HB.size y) rfl (lc91 hN) (kc91 hk0)) rfl hl.1 hI.2.2 rfl (Nat.le_of_ble_eq_true rfl) dX12_passes_109 ⟨Nat.le_of_ble_eq_true rfl, Nat.le_of_ble_eq_true rfl⟩ rfl rfl rfl (fun H locs hB hlo => ?_)
        have hI := hB.re hlo
        refine lv_icmp_ne (tgt := 119) hx hb dX12_passes_112 (by decide) (fun hc => ?_) (fun hc => ?_)
        · replace h := ite_f hc h
          refine lv_iconst (v := 4) hx hb dX12_passes_119 (by decide) ?_
          exact b120  σ H locs ls G23 G24 G25 G29 G30 q_95 G33 G36 v1 4  hI e23 e24 e25 e29 e30 e32 e33 e36 fr (lv_sub hl [] rfl) h
        · replace h := ite_t hc h
          refine lv_iconst (v := 5) hx hb dX12_passes_115 (by decide) ?_
          refine lv_goto (tgt := 120) hx hb dX12_passes_116 (by decide) ?_
          exact b120  σ H locs ls G23 G24 G25 G29 G30 q_95 G33 G36 v1 5  hI e23 e24 e25 e29 e30 e32 e33 e36 fr (lv_sub hl [] rfl) h
      · replace h := ite_f hc h
        refine lv_aload_n hx hb dX12_passes_53 rfl (lv_at hl 0 rfl) ?_
        refine gf_X12_182 hx hb hts hown hKK hI hN dX12_passes_54 ?_
        refine lv_iconst (v := 4) hx hb dX12_passes_57 (by decide) ?_
        refine lv_iload_n hx hb dX12_passes_58 rfl (lv_at hl 3 rfl) ?_
        refine lv_imul hx hb dX12_passes_59 ?_
        refine lv_iload hx hb dX12_passes_60 (lv_at hl 4 rfl) ?_
        refine lv_iadd hx hb dX12_passes_62 ?_
        refine lv_aload_n hx hb dX12_passes_63 rfl (lv_at hl 0 rfl) ?_
        refine gf_X12_182 hx hb hts hown hKK hI hN dX12_passes_64 ?_
        refine lv_iconst (v := 4) hx hb dX12_passes_67 (by decide) ?_
        refine lv_iload_n hx hb dX12_passes_68 rfl (lv_at hl 3 rfl) ?_
        refine lv_imul hx hb dX12_passes_69 ?_
        refine lv_iload hx hb dX12_passes_70 (lv_at hl 4 rfl) ?_
        refine lv_iadd hx hb dX12_passes_72 ?_
        obtain ⟨hin_, h⟩ := ck_e h
        refine la_64 hx hb hKK hI e36 (lc148 hN) (kc148 hk0) hin_ dX12_passes_73 ?_
        refine lv_aload_n hx hb dX12_passes_74 rfl (lv_at hl 0 rfl) ?_
        refine gf_X12_160 hx hb hts hown hKK hI hN dX12_passes_75 ?_
        refine lv_iconst (v := 4) hx hb dX12_passes_78 (by decide) ?_
        refine lv_iload_n hx hb dX12_passes_79 rfl (lv_at hl 1 rfl) ?_
        refine lv_imul hx hb dX12_passes_80 ?_
        refine lv_iload hx hb dX12_passes_81 (lv_at hl 4 rfl) ?_
        refine lv_iadd hx hb dX12_passes_83 ?_
        obtain ⟨hin_, h⟩ := ck_e h
        refine la_58 hx hb hKK hI e33 (lc141 hN) (kc141 hk0) hin_ dX12_passes_84 ?_
        refine lv_iadd hx hb dX12_passes_85 ?_
        obtain ⟨hin_, h⟩ := ck_e h
        obtain ⟨G36_86, qq, h⟩ := bn_e h
        refine sa_64 hx hb hKK hI e36 (lc148 hN) (kc148 hk0) hin_ dX12_passes_86 (fun σ H locs hI ew ho => ?_)
        have e36 := ew.trans qq.symm
        have e23 := (ho 23 (nn rfl)).trans e23
        have e24 := (ho 24 (nn rfl)).trans e24
        have e25 := (ho 25 (nn rfl)).trans e25
        have e29 := (ho 29 (nn rfl)).trans e29
        have e30 := (ho 30 (nn rfl)).trans e30
        have e32 := (ho 32 (nn rfl)).trans e32
        have e33 := (ho 33 (nn rfl)).trans e33
        have fr := frs fr ho (by decide)
        obtain ⟨v4_87, qq, h⟩ := bn_e h
        refine lv_iinc (v := v4_87) (lv' := [(4, .int v4_87), (0, .ref (HB.size + 91)), (1, .int v1), (2, .int v2), (3, .int v3)]) hx hb dX12_passes_87 hl (k := 4) rfl (by rw [qq]; rfl) (by decide) rfl (fun ls hl => ?_)
        refine lv_goto (tgt := 47) hx hb dX12_passes_90 (by decide) ?_
        exact hk47 σ H locs ls G23 G24 G25 G29 G30 G32 G33 G36_86 v1 v2 v3 v4_87  hI e23 e24 e25 e29 e30 e32 e33 e36 fr (lv_sub hl [1, 2, 3, 4, 0] rfl) h
  obtain ⟨σ, hI, e23, e24, e25, e29, e30, e32, e33, e36, fr⟩ : ∃ σ : St, IV HB D y n n κ σ [] s.heap ∧ σ 23 = G23 ∧ σ 24 = G24 ∧ σ 25 = G25 ∧ σ 29 = G29 ∧ σ 30 = G30 ∧ σ 32 = G32 ∧ σ 33 = G33 ∧ σ 36 = G36 ∧ ∀ j, j ∉ W_X12_passes → σ j = σ0 j := ⟨σ0, hI, e23, e24, e25, e29, e30, e32, e33, e36, fun _ _ => rfl⟩
  show WX RM_X12_passes p l e s m args below meth c HB none (B_X12_passes HB D y n κ σ0 q) s.heap [] (F0 m 0 ls [])
  generalize s.heap = H at hI ⊢
  unfold f_X12_passes at h
  obtain ⟨locs, hlocs⟩ : ∃ x : List Loc, x = [] := ⟨_, rfl⟩
  rw [← hlocs] at hI ⊢
  refine lv_aload_n hx hb dX12_passes_0 rfl (lv_at hl 0 rfl) ?_
  refine gf_X12_133 hx hb hts hown hKK hI hN dX12_passes_1 ?_
  refine lv_iload_n hx hb dX12_passes_4 rfl (lv_at hl 1 rfl) ?_
  obtain ⟨hin_, h⟩ := ck_e h
  refine la_57 hx hb hKK hI e32 (lc132 hN) (kc132 hk0) hin_ dX12_passes_5 ?_
  obtain ⟨v2_6, qq, h⟩ := bn_e h
  refine topi qq ?_
  refine lv_istore_n (lv' := [(2, .int v2_6), (0, .ref (HB.size + 91)), (1, .int v1)]) hx hb dX12_passes_6 rfl hl (by decide) rfl (fun ls hl => ?_)
  refine lv_aload_n hx hb dX12_passes_7 rfl (lv_at hl 1 rfl) ?_
  refine lv_iload_n hx hb dX12_passes_8 rfl (lv_at hl 2 rfl) ?_
  obtain ⟨q_9, hq_9, h⟩ := ob_e h
  refine r_callV (As := [.int v1]) (rest := []) hx hb hml hts hown (c_X12_writerOf l HB D y F n κ σ hN v1 G25 e25 G32 e32 q_9 hq_9) cal_X12_writerOf im_X12_writerOf se_X12_writerOf lm_X12_437 ⟨Nat.le_of_ble_eq_true rfl, Nat.le_of_ble_eq_true rfl⟩ hI.nil hKK (r_recv hKK hI (hE12 HB.size y) rfl (lc91 hN) (kc91 hk0)) rfl hl.1 hI.2.2 rfl (Nat.le_of_ble_eq_true rfl) dX12_passes_9 ⟨Nat.le_of_ble_eq_true rfl, Nat.le_of_ble_eq_true rfl⟩ rfl rfl rfl (fun H locs hB hlo => ?_)
  have hI := hB.re hlo
  refine lv_istore_n (lv' := [(3, .int q_9), (2, .int v2_6), (0, .ref (HB.size + 91)), (1, .int v1)]) hx hb dX12_passes_12 rfl hl (by decide) rfl (fun ls hl => ?_)
  refine lv_aload_n hx hb dX12_passes_13 rfl (lv_at hl 2 rfl) ?_
  refine gf_X12_43 hx hb hts hown hKK hI hN dX12_passes_14 ?_
  refine lv_iload_n hx hb dX12_passes_17 rfl (lv_at hl 1 rfl) ?_
  refine lv_aload_n hx hb dX12_passes_18 rfl (lv_at hl 2 rfl) ?_
  refine gf_X12_43 hx hb hts hown hKK hI hN dX12_passes_19 ?_
  refine lv_iload_n hx hb dX12_passes_22 rfl (lv_at hl 1 rfl) ?_
  obtain ⟨hin_, h⟩ := ck_e h
  refine la_44 hx hb hKK hI e25 (lc103 hN) (kc103 hk0) hin_ dX12_passes_23 ?_
  refine lv_aload_n hx hb dX12_passes_24 rfl (lv_at hl 2 rfl) ?_
  obtain ⟨q_25, hq_25, h⟩ := ob_e h
  refine r_callV (As := []) (rest := [.int (G25.1 103 v2_6.toNatClampNeg), .int v2_6, .ref (HB.size + 103)]) hx hb hml hts hown (c_X12_hintsFound l HB D y F n κ σ hN  G29 e29 G30 e30 q_25 hq_25) cal_X12_hintsFound im_X12_hintsFound se_X12_hintsFound lm_X12_446 ⟨Nat.le_of_ble_eq_true rfl, Nat.le_of_ble_eq_true rfl⟩ hI.nil hKK (r_recv hKK hI (hE12 HB.size y) rfl (lc91 hN) (kc91 hk0)) rfl hl.1 hI.2.2 rfl (Nat.le_of_ble_eq_true rfl) dX12_passes_25 ⟨Nat.le_of_ble_eq_true rfl, Nat.le_of_ble_eq_true rfl⟩ rfl rfl rfl (fun H locs hB hlo => ?_)
  have hI := hB.re hlo
  refine lv_ior hx hb dX12_passes_28 ?_
  obtain ⟨hin_, h⟩ := ck_e h
  obtain ⟨G25_29, qq, h⟩ := bn_e h
  refine sa_44 hx hb hKK hI e25 (lc103 hN) (kc103 hk0) hin_ dX12_passes_29 (fun σ H locs hI ew ho => ?_)
  have e25 := ew.trans qq.symm
  have e23 := (ho 23 (nn rfl)).trans e23
  have e24 := (ho 24 (nn rfl)).trans e24
  have e29 := (ho 29 (nn rfl)).trans e29
  have e30 := (ho 30 (nn rfl)).trans e30
  have e32 := (ho 32 (nn rfl)).trans e32
  have e33 := (ho 33 (nn rfl)).trans e33
  have e36 := (ho 36 (nn rfl)).trans e36
  have fr := frs fr ho (by decide)
  refine lv_aload_n hx hb dX12_passes_30 rfl (lv_at hl 2 rfl) ?_
  refine gf_X12_179 hx hb hts hown hKK hI hN dX12_passes_31 ?_
  refine lv_iload_n hx hb dX12_passes_34 rfl (lv_at hl 0 rfl) ?_
  refine lv_aload_n hx hb dX12_passes_35 rfl (lv_at hl 2 rfl) ?_
  refine gf_X12_179 hx hb hts hown hKK hI hN dX12_passes_36 ?_
  refine lv_iload_n hx hb dX12_passes_39 rfl (lv_at hl 0 rfl) ?_
  obtain ⟨hin_, h⟩ := ck_e h
  refine la_63 hx hb hKK hI e36 (lc147 hN) (kc147 hk0) hin_ dX12_passes_40 ?_
  refine lv_iconst (v := 1) hx hb dX12_passes_41 (by decide) ?_
  refine lv_iadd hx hb dX12_passes_42 ?_
  obtain ⟨hin_, h⟩ := ck_e h
  obtain ⟨G36_43, qq, h⟩ := bn_e h
  refine sa_63 hx hb hKK hI e36 (lc147 hN) (kc147 hk0) hin_ dX12_passes_43 (fun σ H locs hI ew ho => ?_)
  have e36 := ew.trans qq.symm
  have e23 := (ho 23 (nn rfl)).trans e23
  have e24 := (ho 24 (nn rfl)).trans e24
  have e25 := (ho 25 (nn rfl)).trans e25
  have e29 := (ho 29 (nn rfl)).trans e29
  have e30 := (ho 30 (nn rfl)).trans e30
  have e32 := (ho 32 (nn rfl)).trans e32
  have e33 := (ho 33 (nn rfl)).trans e33
  have fr := frs fr ho (by decide)
  refine lv_iconst (v := 0) hx hb dX12_passes_44 (by decide) ?_
  refine lv_istore (lv' := [(4, .int 0), (3, .int q_9), (2, .int v2_6), (0, .ref (HB.size + 91)), (1, .int v1)]) hx hb dX12_passes_45 hl (by decide) rfl (fun ls hl => ?_)
  exact b47  F σ H locs ls G23 G24 G25_29 G29 G30 G32 G33 G36_43 v1 v2_6 q_9 0  hI e23 e24 e25 e29 e30 e32 e33 e36 fr (lv_sub hl [3, 4, 2, 1, 0] rfl) h
