noncomputable def f_X12_spans_l145b (F : Nat)  (k145 : Grp → Grp → Int32 → Int32 → Int32 → Int32 → Option (Grp)) (G29 : Grp) (G30 : Grp) (v1 : Int32) (v2 : Int32) (v3 : Int32) (v4 : Int32) : Option (Grp) :=
  if (G30.1 91 46) < v4 then some G30 else ck v1 420 (ob (f_X12_place F (G29.1 109 v1.toNatClampNeg) v2) (fun q_162 => ob (f_X12_isEnd F G30 q_162 v4) (fun q_167 => if q_167 = 0 then bn (v4 + 1) (fun v4_189 => k145 G29 G30 v1 v2 v3 v4_189) else ck v1 420 (ob (f_X12_place F (G29.1 110 v1.toNatClampNeg) v4) (fun q_183 => ob (f_X12_adds F G30 v3 q_183) (fun q_186 => bn (v4 + 1) (fun v4_189 => k145 G29 q_186 v1 v2 v3 v4_189)))))))
noncomputable def f_X12_spans_l145 (F : Nat)  (fu : Nat) : Grp → Grp → Int32 → Int32 → Int32 → Int32 → Option (Grp) := Nat.rec (motive := fun _ => Grp → Grp → Int32 → Int32 → Int32 → Int32 → Option (Grp)) (fun _ _ _ _ _ _ => none) (fun _ ih => f_X12_spans_l145b F  ih) fu
noncomputable def f_X12_spans_l9b (F : Nat)  (k9 : Grp → Grp → Int32 → Int32 → Int32 → Int32 → Option (Grp)) (G29 : Grp) (G30 : Grp) (v1 : Int32) (v2 : Int32) (v3 : Int32) (v4 : Int32) : Option (Grp) :=
  if 3 ≤ v4 then ck v1 420 (if (G29.1 107 v1.toNatClampNeg) = 0 then if (G30.1 91 46) ≤ v2 then some G30 else ck v1 420 (ck v2 160 (ob (f_X12_takes F (G29.1 108 v1.toNatClampNeg) (G30.1 123 v2.toNatClampNeg)) (fun q_101 => if q_101 = 0 then some G30 else ob (f_X12_puts F G30 v3 (v2 + 1)) (fun q_112 => some q_112)))) else if (G29.1 107 v1.toNatClampNeg) = 1 then ob (f_X12_isWord F G30 (v2 - 1)) (fun q_122 => ob (f_X12_isWord F G30 v2) (fun q_127 => if q_122 = q_127 then some G30 else ob (f_X12_puts F G30 v3 v2) (fun q_136 => some q_136))) else if (G29.1 107 v1.toNatClampNeg) = 2 then f_X12_spans_l145 F  F G29 G30 v1 v2 v3 v2 else if (G29.1 107 v1.toNatClampNeg) = 3 then ck v1 420 (ob (f_X12_place F (G29.1 109 v1.toNatClampNeg) v2) (fun q_207 => ob (f_X12_adds F G30 v3 q_207) (fun q_210 => ck v1 420 (ob (f_X12_place F (G29.1 110 v1.toNatClampNeg) v2) (fun q_222 => ob (f_X12_adds F q_210 v3 q_222) (fun q_225 => some q_225)))))) else if (G29.1 107 v1.toNatClampNeg) = 6 then ck v1 420 (ob (f_X12_place F (G29.1 109 v1.toNatClampNeg) v2) (fun q_240 => ob (f_X12_adds F G30 v3 q_240) (fun q_243 => ob (f_X12_puts F q_243 v3 v2) (fun q_249 => some q_249)))) else ob (f_X12_goesOn F G29 G30 v1 v2) (fun q_258 => some q_258)) else ck (v3 + v4) 202860 (bn (gJ G30 122 (v3 + v4).toNatClampNeg 0) (fun G30_24 => bn (v4 + 1) (fun v4_25 => k9 G29 G30_24 v1 v2 v3 v4_25)))
noncomputable def f_X12_spans_l9 (F : Nat)  (fu : Nat) : Grp → Grp → Int32 → Int32 → Int32 → Int32 → Option (Grp) := Nat.rec (motive := fun _ => Grp → Grp → Int32 → Int32 → Int32 → Int32 → Option (Grp)) (fun _ _ _ _ _ _ => none) (fun _ ih => f_X12_spans_l9b F  ih) fu
noncomputable def f_X12_spans (F : Nat) (G29 : Grp) (G30 : Grp) (v1 : Int32) (v2 : Int32) : Option (Grp) :=
  ob (f_X12_place F v1 v2) (fun q_2 => f_X12_spans_l9 F  F G29 G30 v1 v2 q_2 0)
def RM_X12_spans : Room := { frames := 2, cells := 0, slots := 0, locals := 48 }
abbrev W_X12_spans : List Nat := [30]
abbrev B_X12_spans (HB : Heap) (D : va_G) (y : Nat → ClassId) (n : Nat) (κ : Nat → Nat) (σ0 : St) (q : Grp) : Heap → Prop := fun H => ∃ σ : St, IV HB D y n n κ σ [] H ∧ σ 30 = q ∧ ∀ j, j ∉ W_X12_spans → σ j = σ0 j
set_option maxRecDepth 100000 in
set_option maxHeartbeats 4000000 in
theorem c_X12_spans (l : Launch) (HB : Heap) (D : va_G) (y : Nat → ClassId) (F n : Nat) (κ : Nat → Nat) (σ0 : St) (hN : N0 ≤ n) (v1 : Int32)  (v2 : Int32)  (G29 : Grp) (e29 : σ0 29 = G29) (G30 : Grp) (e30 : σ0 30 = G30) (q : Grp) (h : f_X12_spans F G29 G30 v1 v2 = some q) : MT l HB D y yX12_spans cX12_spans 5 none RM_X12_spans [.ref (HB.size + 91), .int v1, .int v2] (IV HB D y n n κ σ0 []) none (B_X12_spans HB D y n κ σ0 q) := by
  refine Met.ofW (cc := cX12_spans) (maxL := 5) (ret := none) (by decide) rfl ?_
  intro p e s m args below meth c s₁ BL hml hv
  obtain ⟨rfl, hI, hKK⟩ := hv
  have hx := BL.exec
  have hb := BL.bytes
  have hr := BL.returns
  have hts : ∀ w ∈ gtb, w.before _ s = true := fun w hw => atoms_spec BL.pre w (List.mem_cons_of_mem _ hw)
  have hml : c.maxLocals = 5 := hml
  have hown : s.vm.findClass RX12 = some m.cls := findClass_of_methodNamed BL.named
  have hlocks := BL.notSynchronized
  have hk0 := hI.1.2.2.2.2
  have hl := lv_entry ([.ref (HB.size + 91), .int v1, .int v2]) (n := 5) (Nat.le_of_ble_eq_true rfl)
  rw [lg_entry_eq]
  generalize (lg_sl ([.ref (HB.size + 91), .int v1, .int v2]) ++ List.replicate (5 - (lg_sl ([.ref (HB.size + 91), .int v1, .int v2])).length) Slot.unset).toArray = ls at hl ⊢
  have hl : lv_has ls 5 [(0, .ref (HB.size + 91)), (1, .int v1), (2, .int v2)] := hl
  generalize hargs : ([.ref (HB.size + 91), .int v1, .int v2] : List Value).toArray = args at *
  have b145 : ∀ (fu : Nat) (σ : St) (H : Heap) (locs : List Loc) (ls : Array Slot) (G29 : Grp) (G30 : Grp) (v1 : Int32) (v2 : Int32) (v3 : Int32) (v4 : Int32) , IV HB D y n n κ σ locs H → σ 29 = G29 → σ 30 = G30 → (∀ j, j ∉ W_X12_spans → σ j = σ0 j) → lv_has ls 5 [(0, .ref (HB.size + 91)), (1, .int v1), (2, .int v2), (3, .int v3), (4, .int v4)] → f_X12_spans_l145 F  fu G29 G30 v1 v2 v3 v4 = some q → WX RM_X12_spans p l e s m args below meth c HB none (B_X12_spans HB D y n κ σ0 q) H locs (F0 m 145 ls []) := by
    intro  fu
    induction fu with
    | zero =>
      intro σ H locs ls G29 G30 v1 v2 v3 v4 hI e29 e30 fr hl h
      exact absurd h (by intro h; cases h)
    | succ fu hk145 =>
      intro σ H locs ls G29 G30 v1 v2 v3 v4 hI e29 e30 fr hl h
      have h : f_X12_spans_l145b F  (f_X12_spans_l145 F  fu) G29 G30 v1 v2 v3 v4 = some q := h
      generalize f_X12_spans_l145 F  fu = k145 at h hk145
      unfold f_X12_spans_l145b at h
      refine lv_iload hx hb dX12_spans_145 (lv_at hl 4 rfl) ?_
      refine lv_aload_n hx hb dX12_spans_147 rfl (lv_at hl 0 rfl) ?_
      refine gt_X12_384 hx hb hts hown hKK hI e30 (lc91 hN) (kc91 hk0) dX12_spans_148 ?_
      refine lv_icmp_gt (tgt := 195) hx hb dX12_spans_151 (by decide) (fun hc => ?_) (fun hc => ?_)
      · replace h := ite_t hc h
        refine lv_goto (tgt := 261) hx hb dX12_spans_195 (by decide) ?_
        have hq := Option.some.inj h
        exact W.vret hx hb hr (fun t ht hW => qc_mk (rfl) (by rw [ht]; exact ⟨σ, hI.nil, e30.trans (congrArg (fun z => z) hq), fr⟩)) hI.2.2 dX12_spans_261 hlocks
      · replace h := ite_f hc h
        refine lv_aload_n hx hb dX12_spans_154 rfl (lv_at hl 0 rfl) ?_
        refine lv_aload_n hx hb dX12_spans_155 rfl (lv_at hl 0 rfl) ?_
        refine gf_X12_62 hx hb hts hown hKK hI hN dX12_spans_156 ?_
        refine lv_iload_n hx hb dX12_spans_159 rfl (lv_at hl 1 rfl) ?_
        obtain ⟨hin_, h⟩ := ck_e h
        refine la_47 hx hb hKK hI e29 (lc109 hN) (kc109 hk0) hin_ dX12_spans_160 ?_
        refine lv_iload_n hx hb dX12_spans_161 rfl (lv_at hl 2 rfl) ?_
        obtain ⟨q_162, hq_162, h⟩ := ob_e h
        refine r_callS (As := [.int (G29.1 109 v1.toNatClampNeg), .int v2]) (rest := [.ref (HB.size + 91)]) hx hb hml hts hown (c_X12_place l HB D y F n κ σ hN (G29.1 109 v1.toNatClampNeg) v2  q_162 hq_162) cal_X12_place st_X12_place lm_X12_387 ⟨Nat.le_of_ble_eq_true rfl, Nat.le_of_ble_eq_true rfl⟩ hI.nil hKK rfl hl.1 hI.2.2 rfl (Nat.le_of_ble_eq_true rfl) dX12_spans_162 ⟨Nat.le_of_ble_eq_true rfl, Nat.le_of_ble_eq_true rfl⟩ rfl rfl rfl (fun H locs hB hlo => ?_)
        have hI := hB.re hlo
        refine lv_iload hx hb dX12_spans_165 (lv_at hl 4 rfl) ?_
        obtain ⟨q_167, hq_167, h⟩ := ob_e h
        refine r_callV (As := [.int q_162, .int v4]) (rest := []) hx hb hml hts hown (c_X12_isEnd l HB D y F n κ σ hN q_162 v4 G30 e30 q_167 hq_167) cal_X12_isEnd im_X12_isEnd se_X12_isEnd lm_X12_401 ⟨Nat.le_of_ble_eq_true rfl, Nat.le_of_ble_eq_true rfl⟩ hI.nil hKK (r_recv hKK hI (hE12 HB.size y) rfl (lc91 hN) (kc91 hk0)) rfl hl.1 hI.2.2 rfl (Nat.le_of_ble_eq_true rfl) dX12_spans_167 ⟨Nat.le_of_ble_eq_true rfl, Nat.le_of_ble_eq_true rfl⟩ rfl rfl rfl (fun H locs hB hlo => ?_)
        have hI := hB.re hlo
        refine lv_if_eq (tgt := 189) hx hb dX12_spans_170 (by decide) (fun hc => ?_) (fun hc => ?_)
        · replace h := ite_t hc h
          obtain ⟨v4_189, qq, h⟩ := bn_e h
          refine lv_iinc (v := v4_189) (lv' := [(4, .int v4_189), (0, .ref (HB.size + 91)), (1, .int v1), (2, .int v2), (3, .int v3)]) hx hb dX12_spans_189 hl (k := 4) rfl (by rw [qq]; rfl) (by decide) rfl (fun ls hl => ?_)
          refine lv_goto (tgt := 145) hx hb dX12_spans_192 (by decide) ?_
          exact hk145 σ H locs ls G29 G30 v1 v2 v3 v4_189  hI e29 e30 fr (lv_sub hl [1, 2, 3, 4, 0] rfl) h
        · replace h := ite_f hc h
          refine lv_aload_n hx hb dX12_spans_173 rfl (lv_at hl 0 rfl) ?_
          refine lv_iload_n hx hb dX12_spans_174 rfl (lv_at hl 3 rfl) ?_
          refine lv_aload_n hx hb dX12_spans_175 rfl (lv_at hl 0 rfl) ?_
          refine gf_X12_65 hx hb hts hown hKK hI hN dX12_spans_176 ?_
          refine lv_iload_n hx hb dX12_spans_179 rfl (lv_at hl 1 rfl) ?_
          obtain ⟨hin_, h⟩ := ck_e h
          refine la_47 hx hb hKK hI e29 (lc110 hN) (kc110 hk0) hin_ dX12_spans_180 ?_
          refine lv_iload hx hb dX12_spans_181 (lv_at hl 4 rfl) ?_
          obtain ⟨q_183, hq_183, h⟩ := ob_e h
          refine r_callS (As := [.int (G29.1 110 v1.toNatClampNeg), .int v4]) (rest := [.int v3, .ref (HB.size + 91)]) hx hb hml hts hown (c_X12_place l HB D y F n κ σ hN (G29.1 110 v1.toNatClampNeg) v4  q_183 hq_183) cal_X12_place st_X12_place lm_X12_387 ⟨Nat.le_of_ble_eq_true rfl, Nat.le_of_ble_eq_true rfl⟩ hI.nil hKK rfl hl.1 hI.2.2 rfl (Nat.le_of_ble_eq_true rfl) dX12_spans_183 ⟨Nat.le_of_ble_eq_true rfl, Nat.le_of_ble_eq_true rfl⟩ rfl rfl rfl (fun H locs hB hlo => ?_)
          have hI := hB.re hlo
          obtain ⟨q_186, hq_186, h⟩ := ob_e h
          refine r_callV (As := [.int v3, .int q_183]) (rest := []) hx hb hml hts hown (c_X12_adds l HB D y F n κ σ hN v3 q_183 G30 e30 q_186 hq_186) cal_X12_adds im_X12_adds se_X12_adds lm_X12_404 ⟨Nat.le_of_ble_eq_true rfl, Nat.le_of_ble_eq_true rfl⟩ hI.nil hKK (r_recv hKK hI (hE12 HB.size y) rfl (lc91 hN) (kc91 hk0)) rfl hl.1 hI.2.2 rfl (Nat.le_of_ble_eq_true rfl) dX12_spans_186 ⟨Nat.le_of_ble_eq_true rfl, Nat.le_of_ble_eq_true rfl⟩ rfl rfl rfl (fun H locs hB hlo => ?_)
          obtain ⟨σ, hB, en30, ho⟩ := hB
          have hI := hB.re hlo
          have e30 := en30
          have e29 := (ho 29 (ni rfl)).trans e29
          have fr := frc fr ho (by decide)
          obtain ⟨v4_189, qq, h⟩ := bn_e h
          refine lv_iinc (v := v4_189) (lv' := [(4, .int v4_189), (0, .ref (HB.size + 91)), (1, .int v1), (2, .int v2), (3, .int v3)]) hx hb dX12_spans_189 hl (k := 4) rfl (by rw [qq]; rfl) (by decide) rfl (fun ls hl => ?_)
          refine lv_goto (tgt := 145) hx hb dX12_spans_192 (by decide) ?_
          exact hk145 σ H locs ls G29 q_186 v1 v2 v3 v4_189  hI e29 e30 fr (lv_sub hl [1, 2, 3, 4, 0] rfl) h
  have b9 : ∀ (fu : Nat) (σ : St) (H : Heap) (locs : List Loc) (ls : Array Slot) (G29 : Grp) (G30 : Grp) (v1 : Int32) (v2 : Int32) (v3 : Int32) (v4 : Int32) , IV HB D y n n κ σ locs H → σ 29 = G29 → σ 30 = G30 → (∀ j, j ∉ W_X12_spans → σ j = σ0 j) → lv_has ls 5 [(0, .ref (HB.size + 91)), (1, .int v1), (2, .int v2), (3, .int v3), (4, .int v4)] → f_X12_spans_l9 F  fu G29 G30 v1 v2 v3 v4 = some q → WX RM_X12_spans p l e s m args below meth c HB none (B_X12_spans HB D y n κ σ0 q) H locs (F0 m 9 ls []) := by
    intro  fu
    induction fu with
    | zero =>
      intro σ H locs ls G29 G30 v1 v2 v3 v4 hI e29 e30 fr hl h
      exact absurd h (by intro h; cases h)
    | succ fu hk9 =>
      intro σ H locs ls G29 G30 v1 v2 v3 v4 hI e29 e30 fr hl h
      have h : f_X12_spans_l9b F  (f_X12_spans_l9 F  fu) G29 G30 v1 v2 v3 v4 = some q := h
      generalize f_X12_spans_l9 F  fu = k9 at h hk9
      unfold f_X12_spans_l9b at h
      refine lv_iload hx hb dX12_spans_9 (lv_at hl 4 rfl) ?_
      refine lv_iconst (v := 3) hx hb dX12_spans_11 (by decide) ?_
      refine lv_icmp_ge (tgt := 31) hx hb dX12_spans_12 (by decide) (fun hc => ?_) (fun hc => ?_)
      · replace h := ite_t hc h
        refine lv_aload_n hx hb dX12_spans_31 rfl (lv_at hl 0 rfl) ?_
        refine gf_X12_56 hx hb hts hown hKK hI hN dX12_spans_32 ?_
        refine lv_iload_n hx hb dX12_spans_35 rfl (lv_at hl 1 rfl) ?_
        obtain ⟨hin_, h⟩ := ck_e h
        refine la_47 hx hb hKK hI e29 (lc107 hN) (kc107 hk0) hin_ dX12_spans_36 ?_
        by_cases hc0 : (G29.1 107 v1.toNatClampNeg) = 0
        · replace h := ite_t hc0 h
          refine lv_tableIn (off := 43) (tgt := 80) hx hb dX12_spans_37 (by rw [hc0]; decide) (by rw [hc0]; decide) (by rw [hc0]; decide) (by decide) ?_
          refine lv_iload_n hx hb dX12_spans_80 rfl (lv_at hl 2 rfl) ?_
          refine lv_aload_n hx hb dX12_spans_81 rfl (lv_at hl 0 rfl) ?_
          refine gt_X12_384 hx hb hts hown hKK hI e30 (lc91 hN) (kc91 hk0) dX12_spans_82 ?_
          refine lv_icmp_ge (tgt := 261) hx hb dX12_spans_85 (by decide) (fun hc => ?_) (fun hc => ?_)
          · replace h := ite_t hc h
            have hq := Option.some.inj h
            exact W.vret hx hb hr (fun t ht hW => qc_mk (rfl) (by rw [ht]; exact ⟨σ, hI.nil, e30.trans (congrArg (fun z => z) hq), fr⟩)) hI.2.2 dX12_spans_261 hlocks
          · replace h := ite_f hc h
            refine lv_aload_n hx hb dX12_spans_88 rfl (lv_at hl 0 rfl) ?_
            refine lv_aload_n hx hb dX12_spans_89 rfl (lv_at hl 0 rfl) ?_
            refine gf_X12_59 hx hb hts hown hKK hI hN dX12_spans_90 ?_
            refine lv_iload_n hx hb dX12_spans_93 rfl (lv_at hl 1 rfl) ?_
            obtain ⟨hin_, h⟩ := ck_e h
            refine la_47 hx hb hKK hI e29 (lc108 hN) (kc108 hk0) hin_ dX12_spans_94 ?_
            refine lv_aload_n hx hb dX12_spans_95 rfl (lv_at hl 0 rfl) ?_
            refine gf_X12_106 hx hb hts hown hKK hI hN dX12_spans_96 ?_
            refine lv_iload_n hx hb dX12_spans_99 rfl (lv_at hl 2 rfl) ?_
            obtain ⟨hin_, h⟩ := ck_e h
            refine la_54 hx hb hKK hI e30 (lc123 hN) (kc123 hk0) hin_ dX12_spans_100 ?_
            obtain ⟨q_101, hq_101, h⟩ := ob_e h
            refine r_callV (As := [.int (G29.1 108 v1.toNatClampNeg), .int (G30.1 123 v2.toNatClampNeg)]) (rest := []) hx hb hml hts hown (c_X12_takes l HB D y F n κ σ hN (G29.1 108 v1.toNatClampNeg) (G30.1 123 v2.toNatClampNeg)  q_101 hq_101) cal_X12_takes im_X12_takes se_X12_takes lm_X12_390 ⟨Nat.le_of_ble_eq_true rfl, Nat.le_of_ble_eq_true rfl⟩ hI.nil hKK (r_recv hKK hI (hE12 HB.size y) rfl (lc91 hN) (kc91 hk0)) rfl hl.1 hI.2.2 rfl (Nat.le_of_ble_eq_true rfl) dX12_spans_101 ⟨Nat.le_of_ble_eq_true rfl, Nat.le_of_ble_eq_true rfl⟩ rfl rfl rfl (fun H locs hB hlo => ?_)
            have hI := hB.re hlo
            refine lv_if_eq (tgt := 261) hx hb dX12_spans_104 (by decide) (fun hc => ?_) (fun hc => ?_)
            · replace h := ite_t hc h
              have hq := Option.some.inj h
              exact W.vret hx hb hr (fun t ht hW => qc_mk (rfl) (by rw [ht]; exact ⟨σ, hI.nil, e30.trans (congrArg (fun z => z) hq), fr⟩)) hI.2.2 dX12_spans_261 hlocks
            · replace h := ite_f hc h
              refine lv_aload_n hx hb dX12_spans_107 rfl (lv_at hl 0 rfl) ?_
              refine lv_iload_n hx hb dX12_spans_108 rfl (lv_at hl 3 rfl) ?_
              refine lv_iload_n hx hb dX12_spans_109 rfl (lv_at hl 2 rfl) ?_
              refine lv_iconst (v := 1) hx hb dX12_spans_110 (by decide) ?_
              refine lv_iadd hx hb dX12_spans_111 ?_
              obtain ⟨q_112, hq_112, h⟩ := ob_e h
              refine r_callV (As := [.int v3, .int (v2 + 1)]) (rest := []) hx hb hml hts hown (c_X12_puts l HB D y F n κ σ hN v3 (v2 + 1) G30 e30 q_112 hq_112) cal_X12_puts im_X12_puts se_X12_puts lm_X12_394 ⟨Nat.le_of_ble_eq_true rfl, Nat.le_of_ble_eq_true rfl⟩ hI.nil hKK (r_recv hKK hI (hE12 HB.size y) rfl (lc91 hN) (kc91 hk0)) rfl hl.1 hI.2.2 rfl (Nat.le_of_ble_eq_true rfl) dX12_spans_112 ⟨Nat.le_of_ble_eq_true rfl, Nat.le_of_ble_eq_true rfl⟩ rfl rfl rfl (fun H locs hB hlo => ?_)
              obtain ⟨σ, hB, en30, ho⟩ := hB
              have hI := hB.re hlo
              have e30 := en30
              have e29 := (ho 29 (ni rfl)).trans e29
              have fr := frc fr ho (by decide)
              refine lv_goto (tgt := 261) hx hb dX12_spans_115 (by decide) ?_
              have hq := Option.some.inj h
              exact W.vret hx hb hr (fun t ht hW => qc_mk (rfl) (by rw [ht]; exact ⟨σ, hI.nil, e30.trans (congrArg (fun z => z) hq), fr⟩)) hI.2.2 dX12_spans_261 hlocks
        · replace h := ite_f hc0 h
          by_cases hc1 : (G29.1 107 v1.toNatClampNeg) = 1
          · replace h := ite_t hc1 h
            refine lv_tableIn (off := 81) (tgt := 118) hx hb dX12_spans_37 (by rw [hc1]; decide) (by rw [hc1]; decide) (by rw [hc1]; decide) (by decide) ?_
            refine lv_aload_n hx hb dX12_spans_118 rfl (lv_at hl 0 rfl) ?_
            refine lv_iload_n hx hb dX12_spans_119 rfl (lv_at hl 2 rfl) ?_
            refine lv_iconst (v := 1) hx hb dX12_spans_120 (by decide) ?_
            refine lv_isub hx hb dX12_spans_121 ?_
            obtain ⟨q_122, hq_122, h⟩ := ob_e h
            refine r_callV (As := [.int (v2 - 1)]) (rest := []) hx hb hml hts hown (c_X12_isWord l HB D y F n κ σ hN (v2 - 1) G30 e30 q_122 hq_122) cal_X12_isWord im_X12_isWord se_X12_isWord lm_X12_398 ⟨Nat.le_of_ble_eq_true rfl, Nat.le_of_ble_eq_true rfl⟩ hI.nil hKK (r_recv hKK hI (hE12 HB.size y) rfl (lc91 hN) (kc91 hk0)) rfl hl.1 hI.2.2 rfl (Nat.le_of_ble_eq_true rfl) dX12_spans_122 ⟨Nat.le_of_ble_eq_true rfl, Nat.le_of_ble_eq_true rfl⟩ rfl rfl rfl (fun H locs hB hlo => ?_)
            have hI := hB.re hlo
            refine lv_aload_n hx hb dX12_spans_125 rfl (lv_at hl 0 rfl) ?_
            refine lv_iload_n hx hb dX12_spans_126 rfl (lv_at hl 2 rfl) ?_
            obtain ⟨q_127, hq_127, h⟩ := ob_e h
            refine r_callV (As := [.int v2]) (rest := [.int q_122]) hx hb hml hts hown (c_X12_isWord l HB D y F n κ σ hN v2 G30 e30 q_127 hq_127) cal_X12_isWord im_X12_isWord se_X12_isWord lm_X12_398 ⟨Nat.le_of_ble_eq_true rfl, Nat.le_of_ble_eq_true rfl⟩ hI.nil hKK (r_recv hKK hI (hE12 HB.size y) rfl (lc91 hN) (kc91 hk0)) rfl hl.1 hI.2.2 rfl (Nat.le_of_ble_eq_true rfl) dX12_spans_127 ⟨Nat.le_of_ble_eq_true rfl, Nat.le_of_ble_eq_true rfl⟩ rfl rfl rfl (fun H locs hB hlo => ?_)
            have hI := hB.re hlo
            refine lv_icmp_eq (tgt := 261) hx hb dX12_spans_130 (by decide) (fun hc => ?_) (fun hc => ?_)
            · replace h := ite_t hc h
              have hq := Option.some.inj h
              exact W.vret hx hb hr (fun t ht hW => qc_mk (rfl) (by rw [ht]; exact ⟨σ, hI.nil, e30.trans (congrArg (fun z => z) hq), fr⟩)) hI.2.2 dX12_spans_261 hlocks
            · replace h := ite_f hc h
              refine lv_aload_n hx hb dX12_spans_133 rfl (lv_at hl 0 rfl) ?_
              refine lv_iload_n hx hb dX12_spans_134 rfl (lv_at hl 3 rfl) ?_
              refine lv_iload_n hx hb dX12_spans_135 rfl (lv_at hl 2 rfl) ?_
              obtain ⟨q_136, hq_136, h⟩ := ob_e h
              refine r_callV (As := [.int v3, .int v2]) (rest := []) hx hb hml hts hown (c_X12_puts l HB D y F n κ σ hN v3 v2 G30 e30 q_136 hq_136) cal_X12_puts im_X12_puts se_X12_puts lm_X12_394 ⟨Nat.le_of_ble_eq_true rfl, Nat.le_of_ble_eq_true rfl⟩ hI.nil hKK (r_recv hKK hI (hE12 HB.size y) rfl (lc91 hN) (kc91 hk0)) rfl hl.1 hI.2.2 rfl (Nat.le_of_ble_eq_true rfl) dX12_spans_136 ⟨Nat.le_of_ble_eq_true rfl, Nat.le_of_ble_eq_true rfl⟩ rfl rfl rfl (fun H locs hB hlo => ?_)
              obtain ⟨σ, hB, en30, ho⟩ := hB
              have hI := hB.re hlo
              have e30 := en30
              have e29 := (ho 29 (ni rfl)).trans e29
              have fr := frc fr ho (by decide)
              refine lv_goto (tgt := 261) hx hb dX12_spans_139 (by decide) ?_
              have hq := Option.some.inj h
              exact W.vret hx hb hr (fun t ht hW => qc_mk (rfl) (by rw [ht]; exact ⟨σ, hI.nil, e30.trans (congrArg (fun z => z) hq), fr⟩)) hI.2.2 dX12_spans_261 hlocks
          · replace h := ite_f hc1 h
            by_cases hc2 : (G29.1 107 v1.toNatClampNeg) = 2
            · replace h := ite_t hc2 h
              refine lv_tableIn (off := 105) (tgt := 142) hx hb dX12_spans_37 (by rw [hc2]; decide) (by rw [hc2]; decide) (by rw [hc2]; decide) (by decide) ?_
              refine lv_iload_n hx hb dX12_spans_142 rfl (lv_at hl 2 rfl) ?_
              refine lv_istore (lv' := [(4, .int v2), (0, .ref (HB.size + 91)), (1, .int v1), (2, .int v2), (3, .int v3)]) hx hb dX12_spans_143 hl (by decide) rfl (fun ls hl => ?_)
              exact b145  F σ H locs ls G29 G30 v1 v2 v3 v2  hI e29 e30 fr (lv_sub hl [1, 2, 3, 4, 0] rfl) h
            · replace h := ite_f hc2 h
              by_cases hc3 : (G29.1 107 v1.toNatClampNeg) = 3
              · replace h := ite_t hc3 h
                refine lv_tableIn (off := 161) (tgt := 198) hx hb dX12_spans_37 (by rw [hc3]; decide) (by rw [hc3]; decide) (by rw [hc3]; decide) (by decide) ?_
                refine lv_aload_n hx hb dX12_spans_198 rfl (lv_at hl 0 rfl) ?_
                refine lv_iload_n hx hb dX12_spans_199 rfl (lv_at hl 3 rfl) ?_
                refine lv_aload_n hx hb dX12_spans_200 rfl (lv_at hl 0 rfl) ?_
                refine gf_X12_62 hx hb hts hown hKK hI hN dX12_spans_201 ?_
                refine lv_iload_n hx hb dX12_spans_204 rfl (lv_at hl 1 rfl) ?_
                obtain ⟨hin_, h⟩ := ck_e h
                refine la_47 hx hb hKK hI e29 (lc109 hN) (kc109 hk0) hin_ dX12_spans_205 ?_
                refine lv_iload_n hx hb dX12_spans_206 rfl (lv_at hl 2 rfl) ?_
                obtain ⟨q_207, hq_207, h⟩ := ob_e h
                refine r_callS (As := [.int (G29.1 109 v1.toNatClampNeg), .int v2]) (rest := [.int v3, .ref (HB.size + 91)]) hx hb hml hts hown (c_X12_place l HB D y F n κ σ hN (G29.1 109 v1.toNatClampNeg) v2  q_207 hq_207) cal_X12_place st_X12_place lm_X12_387 ⟨Nat.le_of_ble_eq_true rfl, Nat.le_of_ble_eq_true rfl⟩ hI.nil hKK rfl hl.1 hI.2.2 rfl (Nat.le_of_ble_eq_true rfl) dX12_spans_207 ⟨Nat.le_of_ble_eq_true rfl, Nat.le_of_ble_eq_true rfl⟩ rfl rfl rfl (fun H locs hB hlo => ?_)
                have hI := hB.re hlo
                obtain ⟨q_210, hq_210, h⟩ := ob_e h
                refine r_callV (As := [.int v3, .int q_207]) (rest := []) hx hb hml hts hown (c_X12_adds l HB D y F n κ σ hN v3 q_207 G30 e30 q_210 hq_210) cal_X12_adds im_X12_adds se_X12_adds lm_X12_404 ⟨Nat.le_of_ble_eq_true rfl, Nat.le_of_ble_eq_true rfl⟩ hI.nil hKK (r_recv hKK hI (hE12 HB.size y) rfl (lc91 hN) (kc91 hk0)) rfl hl.1 hI.2.2 rfl (Nat.le_of_ble_eq_true rfl) dX12_spans_210 ⟨Nat.le_of_ble_eq_true rfl, Nat.le_of_ble_eq_true rfl⟩ rfl rfl rfl (fun H locs hB hlo => ?_)
                obtain ⟨σ, hB, en30, ho⟩ := hB
                have hI := hB.re hlo
                have e30 := en30
                have e29 := (ho 29 (ni rfl)).trans e29
                have fr := frc fr ho (by decide)
                refine lv_aload_n hx hb dX12_spans_213 rfl (lv_at hl 0 rfl) ?_
                refine lv_iload_n hx hb dX12_spans_214 rfl (lv_at hl 3 rfl) ?_
                refine lv_aload_n hx hb dX12_spans_215 rfl (lv_at hl 0 rfl) ?_
                refine gf_X12_65 hx hb hts hown hKK hI hN dX12_spans_216 ?_
                refine lv_iload_n hx hb dX12_spans_219 rfl (lv_at hl 1 rfl) ?_
                obtain ⟨hin_, h⟩ := ck_e h
                refine la_47 hx hb hKK hI e29 (lc110 hN) (kc110 hk0) hin_ dX12_spans_220 ?_
                refine lv_iload_n hx hb dX12_spans_221 rfl (lv_at hl 2 rfl) ?_
                obtain ⟨q_222, hq_222, h⟩ := ob_e h
                refine r_callS (As := [.int (G29.1 110 v1.toNatClampNeg), .int v2]) (rest := [.int v3, .ref (HB.size + 91)]) hx hb hml hts hown (c_X12_place l HB D y F n κ σ hN (G29.1 110 v1.toNatClampNeg) v2  q_222 hq_222) cal_X12_place st_X12_place lm_X12_387 ⟨Nat.le_of_ble_eq_true rfl, Nat.le_of_ble_eq_true rfl⟩ hI.nil hKK rfl hl.1 hI.2.2 rfl (Nat.le_of_ble_eq_true rfl) dX12_spans_222 ⟨Nat.le_of_ble_eq_true rfl, Nat.le_of_ble_eq_true rfl⟩ rfl rfl rfl (fun H locs hB hlo => ?_)
                have hI := hB.re hlo
                obtain ⟨q_225, hq_225, h⟩ := ob_e h
                refine r_callV (As := [.int v3, .int q_222]) (rest := []) hx hb hml hts hown (c_X12_adds l HB D y F n κ σ hN v3 q_222 q_210 e30 q_225 hq_225) cal_X12_adds im_X12_adds se_X12_adds lm_X12_404 ⟨Nat.le_of_ble_eq_true rfl, Nat.le_of_ble_eq_true rfl⟩ hI.nil hKK (r_recv hKK hI (hE12 HB.size y) rfl (lc91 hN) (kc91 hk0)) rfl hl.1 hI.2.2 rfl (Nat.le_of_ble_eq_true rfl) dX12_spans_225 ⟨Nat.le_of_ble_eq_true rfl, Nat.le_of_ble_eq_true rfl⟩ rfl rfl rfl (fun H locs hB hlo => ?_)
                obtain ⟨σ, hB, en30, ho⟩ := hB
                have hI := hB.re hlo
                have e30 := en30
                have e29 := (ho 29 (ni rfl)).trans e29
                have fr := frc fr ho (by decide)
                refine lv_goto (tgt := 261) hx hb dX12_spans_228 (by decide) ?_
                have hq := Option.some.inj h
                exact W.vret hx hb hr (fun t ht hW => qc_mk (rfl) (by rw [ht]; exact ⟨σ, hI.nil, e30.trans (congrArg (fun z => z) hq), fr⟩)) hI.2.2 dX12_spans_261 hlocks
              · replace h := ite_f hc3 h
                by_cases hc6 : (G29.1 107 v1.toNatClampNeg) = 6
                · replace h := ite_t hc6 h
                  refine lv_tableIn (off := 194) (tgt := 231) hx hb dX12_spans_37 (by rw [hc6]; decide) (by rw [hc6]; decide) (by rw [hc6]; decide) (by decide) ?_
                  refine lv_aload_n hx hb dX12_spans_231 rfl (lv_at hl 0 rfl) ?_
                  refine lv_iload_n hx hb dX12_spans_232 rfl (lv_at hl 3 rfl) ?_
                  refine lv_aload_n hx hb dX12_spans_233 rfl (lv_at hl 0 rfl) ?_
                  refine gf_X12_62 hx hb hts hown hKK hI hN dX12_spans_234 ?_
                  refine lv_iload_n hx hb dX12_spans_237 rfl (lv_at hl 1 rfl) ?_
                  obtain ⟨hin_, h⟩ := ck_e h
                  refine la_47 hx hb hKK hI e29 (lc109 hN) (kc109 hk0) hin_ dX12_spans_238 ?_
                  refine lv_iload_n hx hb dX12_spans_239 rfl (lv_at hl 2 rfl) ?_
                  obtain ⟨q_240, hq_240, h⟩ := ob_e h
                  refine r_callS (As := [.int (G29.1 109 v1.toNatClampNeg), .int v2]) (rest := [.int v3, .ref (HB.size + 91)]) hx hb hml hts hown (c_X12_place l HB D y F n κ σ hN (G29.1 109 v1.toNatClampNeg) v2  q_240 hq_240) cal_X12_place st_X12_place lm_X12_387 ⟨Nat.le_of_ble_eq_true rfl, Nat.le_of_ble_eq_true rfl⟩ hI.nil hKK rfl hl.1 hI.2.2 rfl (Nat.le_of_ble_eq_true rfl) dX12_spans_240 ⟨Nat.le_of_ble_eq_true rfl, Nat.le_of_ble_eq_true rfl⟩ rfl rfl rfl (fun H locs hB hlo => ?_)
                  have hI := hB.re hlo
                  obtain ⟨q_243, hq_243, h⟩ := ob_e h
                  refine r_callV (As := [.int v3, .int q_240]) (rest := []) hx hb hml hts hown (c_X12_adds l HB D y F n κ σ hN v3 q_240 G30 e30 q_243 hq_243) cal_X12_adds im_X12_adds se_X12_adds lm_X12_404 ⟨Nat.le_of_ble_eq_true rfl, Nat.le_of_ble_eq_true rfl⟩ hI.nil hKK (r_recv hKK hI (hE12 HB.size y) rfl (lc91 hN) (kc91 hk0)) rfl hl.1 hI.2.2 rfl (Nat.le_of_ble_eq_true rfl) dX12_spans_243 ⟨Nat.le_of_ble_eq_true rfl, Nat.le_of_ble_eq_true rfl⟩ rfl rfl rfl (fun H locs hB hlo => ?_)
                  obtain ⟨σ, hB, en30, ho⟩ := hB
                  have hI := hB.re hlo
                  have e30 := en30
                  have e29 := (ho 29 (ni rfl)).trans e29
                  have fr := frc fr ho (by decide)
                  refine lv_aload_n hx hb dX12_spans_246 rfl (lv_at hl 0 rfl) ?_
                  refine lv_iload_n hx hb dX12_spans_247 rfl (lv_at hl 3 rfl) ?_
                  refine lv_iload_n hx hb dX12_spans_248 rfl (lv_at hl 2 rfl) ?_
                  obtain ⟨q_249, hq_249, h⟩ := ob_e h
                  refine r_callV (As := [.int v3, .int v2]) (rest := []) hx hb hml hts hown (c_X12_puts l HB D y F n κ σ hN v3 v2 q_243 e30 q_249 hq_249) cal_X12_puts im_X12_puts se_X12_puts lm_X12_394 ⟨Nat.le_of_ble_eq_true rfl, Nat.le_of_ble_eq_true rfl⟩ hI.nil hKK (r_recv hKK hI (hE12 HB.size y) rfl (lc91 hN) (kc91 hk0)) rfl hl.1 hI.2.2 rfl (Nat.le_of_ble_eq_true rfl) dX12_spans_249 ⟨Nat.le_of_ble_eq_true rfl, Nat.le_of_ble_eq_true rfl⟩ rfl rfl rfl (fun H locs hB hlo => ?_)
                  obtain ⟨σ, hB, en30, ho⟩ := hB
                  have hI := hB.re hlo
                  have e30 := en30
                  have e29 := (ho 29 (ni rfl)).trans e29
                  have fr := frc fr ho (by decide)
                  refine lv_goto (tgt := 261) hx hb dX12_spans_252 (by decide) ?_
                  have hq := Option.some.inj h
                  exact W.vret hx hb hr (fun t ht hW => qc_mk (rfl) (by rw [ht]; exact ⟨σ, hI.nil, e30.trans (congrArg (fun z => z) hq), fr⟩)) hI.2.2 dX12_spans_261 hlocks
                · replace h := ite_f hc6 h
                  by_cases hd4 : (G29.1 107 v1.toNatClampNeg) = 4
                  · refine lv_tableIn (off := 218) (tgt := 255) hx hb dX12_spans_37 (by rw [hd4]; decide) (by rw [hd4]; decide) (by rw [hd4]; decide) (by decide) ?_
                    refine lv_aload_n hx hb dX12_spans_255 rfl (lv_at hl 0 rfl) ?_
                    refine lv_iload_n hx hb dX12_spans_256 rfl (lv_at hl 1 rfl) ?_
                    refine lv_iload_n hx hb dX12_spans_257 rfl (lv_at hl 2 rfl) ?_
                    obtain ⟨q_258, hq_258, h⟩ := ob_e h
                    refine r_callV (As := [.int v1, .int v2]) (rest := []) hx hb hml hts hown (c_X12_goesOn l HB D y F n κ σ hN v1 v2 G29 e29 G30 e30 q_258 hq_258) cal_X12_goesOn im_X12_goesOn se_X12_goesOn lm_X12_407 ⟨Nat.le_of_ble_eq_true rfl, Nat.le_of_ble_eq_true rfl⟩ hI.nil hKK (r_recv hKK hI (hE12 HB.size y) rfl (lc91 hN) (kc91 hk0)) rfl hl.1 hI.2.2 rfl (Nat.le_of_ble_eq_true rfl) dX12_spans_258 ⟨Nat.le_of_ble_eq_true rfl, Nat.le_of_ble_eq_true rfl⟩ rfl rfl rfl (fun H locs hB hlo => ?_)
                    obtain ⟨σ, hB, en30, ho⟩ := hB
                    have hI := hB.re hlo
                    have e30 := en30
                    have e29 := (ho 29 (ni rfl)).trans e29
                    have fr := frc fr ho (by decide)
                    have hq := Option.some.inj h
                    exact W.vret hx hb hr (fun t ht hW => qc_mk (rfl) (by rw [ht]; exact ⟨σ, hI.nil, e30.trans (congrArg (fun z => z) hq), fr⟩)) hI.2.2 dX12_spans_261 hlocks
                  · by_cases hd5 : (G29.1 107 v1.toNatClampNeg) = 5
                    · refine lv_tableIn (off := 218) (tgt := 255) hx hb dX12_spans_37 (by rw [hd5]; decide) (by rw [hd5]; decide) (by rw [hd5]; decide) (by decide) ?_
                      refine lv_aload_n hx hb dX12_spans_255 rfl (lv_at hl 0 rfl) ?_
                      refine lv_iload_n hx hb dX12_spans_256 rfl (lv_at hl 1 rfl) ?_
                      refine lv_iload_n hx hb dX12_spans_257 rfl (lv_at hl 2 rfl) ?_
                      obtain ⟨q_258, hq_258, h⟩ := ob_e h
                      refine r_callV (As := [.int v1, .int v2]) (rest := []) hx hb hml hts hown (c_X12_goesOn l HB D y F n κ σ hN v1 v2 G29 e29 G30 e30 q_258 hq_258) cal_X12_goesOn im_X12_goesOn se_X12_goesOn lm_X12_407 ⟨Nat.le_of_ble_eq_true rfl, Nat.le_of_ble_eq_true rfl⟩ hI.nil hKK (r_recv hKK hI (hE12 HB.size y) rfl (lc91 hN) (kc91 hk0)) rfl hl.1 hI.2.2 rfl (Nat.le_of_ble_eq_true rfl) dX12_spans_258 ⟨Nat.le_of_ble_eq_true rfl, Nat.le_of_ble_eq_true rfl⟩ rfl rfl rfl (fun H locs hB hlo => ?_)
                      obtain ⟨σ, hB, en30, ho⟩ := hB
                      have hI := hB.re hlo
                      have e30 := en30
                      have e29 := (ho 29 (ni rfl)).trans e29
                      have fr := frc fr ho (by decide)
                      have hq := Option.some.inj h
                      exact W.vret hx hb hr (fun t ht hW => qc_mk (rfl) (by rw [ht]; exact ⟨σ, hI.nil, e30.trans (congrArg (fun z => z) hq), fr⟩)) hI.2.2 dX12_spans_261 hlocks
                    · refine lv_tableOut (tgt := 255) hx hb dX12_spans_37 (swo (fun j h1 h2 => ?_)) (by decide) ?_
                      · have hj : j = 0 ∨ j = 1 ∨ j = 2 ∨ j = 3 ∨ j = 4 ∨ j = 5 ∨ j = 6 := by omega
                        rcases hj with rfl | rfl | rfl | rfl | rfl | rfl | rfl
                        · exact lv_neT hc0 (by decide)
                        · exact lv_neT hc1 (by decide)
                        · exact lv_neT hc2 (by decide)
                        · exact lv_neT hc3 (by decide)
                        · exact lv_neT hd4 (by decide)
                        · exact lv_neT hd5 (by decide)
                        · exact lv_neT hc6 (by decide)
                      · refine lv_aload_n hx hb dX12_spans_255 rfl (lv_at hl 0 rfl) ?_
                        refine lv_iload_n hx hb dX12_spans_256 rfl (lv_at hl 1 rfl) ?_
                        refine lv_iload_n hx hb dX12_spans_257 rfl (lv_at hl 2 rfl) ?_
                        obtain ⟨q_258, hq_258, h⟩ := ob_e h
                        refine r_callV (As := [.int v1, .int v2]) (rest := []) hx hb hml hts hown (c_X12_goesOn l HB D y F n κ σ hN v1 v2 G29 e29 G30 e30 q_258 hq_258) cal_X12_goesOn im_X12_goesOn se_X12_goesOn lm_X12_407 ⟨Nat.le_of_ble_eq_true rfl, Nat.le_of_ble_eq_true rfl⟩ hI.nil hKK (r_recv hKK hI (hE12 HB.size y) rfl (lc91 hN) (kc91 hk0)) rfl hl.1 hI.2.2 rfl (Nat.le_of_ble_eq_true rfl) dX12_spans_258 ⟨Nat.le_of_ble_eq_true rfl, Nat.le_of_ble_eq_true rfl⟩ rfl rfl rfl (fun H locs hB hlo => ?_)
                        obtain ⟨σ, hB, en30, ho⟩ := hB
                        have hI := hB.re hlo
                        have e30 := en30
                        have e29 := (ho 29 (ni rfl)).trans e29
                        have fr := frc fr ho (by decide)
                        have hq := Option.some.inj h
                        exact W.vret hx hb hr (fun t ht hW => qc_mk (rfl) (by rw [ht]; exact ⟨σ, hI.nil, e30.trans (congrArg (fun z => z) hq), fr⟩)) hI.2.2 dX12_spans_261 hlocks
      · replace h := ite_f hc h
        refine lv_aload_n hx hb dX12_spans_15 rfl (lv_at hl 0 rfl) ?_
        refine gf_X12_102 hx hb hts hown hKK hI hN dX12_spans_16 ?_
        refine lv_iload_n hx hb dX12_spans_19 rfl (lv_at hl 3 rfl) ?_
        refine lv_iload hx hb dX12_spans_20 (lv_at hl 4 rfl) ?_
        refine lv_iadd hx hb dX12_spans_22 ?_
        refine lv_lconst (v := 0) hx hb dX12_spans_23 rfl ?_
        obtain ⟨hin_, h⟩ := ck_e h
        obtain ⟨G30_24, qq, h⟩ := bn_e h
        refine sa_53 hx hb hKK hI e30 (lc122 hN) (kc122 hk0) hin_ dX12_spans_24 (fun σ H locs hI ew ho => ?_)
        have e30 := ew.trans qq.symm
        have e29 := (ho 29 (nn rfl)).trans e29
        have fr := frs fr ho (by decide)
        obtain ⟨v4_25, qq, h⟩ := bn_e h
        refine lv_iinc (v := v4_25) (lv' := [(4, .int v4_25), (0, .ref (HB.size + 91)), (1, .int v1), (2, .int v2), (3, .int v3)]) hx hb dX12_spans_25 hl (k := 4) rfl (by rw [qq]; rfl) (by decide) rfl (fun ls hl => ?_)
        refine lv_goto (tgt := 9) hx hb dX12_spans_28 (by decide) ?_
        exact hk9 σ H locs ls G29 G30_24 v1 v2 v3 v4_25  hI e29 e30 fr (lv_sub hl [1, 2, 3, 4, 0] rfl) h
  obtain ⟨σ, hI, e29, e30, fr⟩ : ∃ σ : St, IV HB D y n n κ σ [] s.heap ∧ σ 29 = G29 ∧ σ 30 = G30 ∧ ∀ j, j ∉ W_X12_spans → σ j = σ0 j := ⟨σ0, hI, e29, e30, fun _ _ => rfl⟩
  show WX RM_X12_spans p l e s m args below meth c HB none (B_X12_spans HB D y n κ σ0 q) s.heap [] (F0 m 0 ls [])
  generalize s.heap = H at hI ⊢
  unfold f_X12_spans at h
  obtain ⟨locs, hlocs⟩ : ∃ x : List Loc, x = [] := ⟨_, rfl⟩
  rw [← hlocs] at hI ⊢
  refine lv_iload_n hx hb dX12_spans_0 rfl (lv_at hl 1 rfl) ?_
  refine lv_iload_n hx hb dX12_spans_1 rfl (lv_at hl 2 rfl) ?_
  obtain ⟨q_2, hq_2, h⟩ := ob_e h
  refine r_callS (As := [.int v1, .int v2]) (rest := []) hx hb hml hts hown (c_X12_place l HB D y F n κ σ hN v1 v2  q_2 hq_2) cal_X12_place st_X12_place lm_X12_387 ⟨Nat.le_of_ble_eq_true rfl, Nat.le_of_ble_eq_true rfl⟩ hI.nil hKK rfl hl.1 hI.2.2 rfl (Nat.le_of_ble_eq_true rfl) dX12_spans_2 ⟨Nat.le_of_ble_eq_true rfl, Nat.le_of_ble_eq_true rfl⟩ rfl rfl rfl (fun H locs hB hlo => ?_)
  have hI := hB.re hlo
  refine lv_istore_n (lv' := [(3, .int q_2), (0, .ref (HB.size + 91)), (1, .int v1), (2, .int v2)]) hx hb dX12_spans_5 rfl hl (by decide) rfl (fun ls hl => ?_)
  refine lv_iconst (v := 0) hx hb dX12_spans_6 (by decide) ?_
  refine lv_istore (lv' := [(4, .int 0), (3, .int q_2), (0, .ref (HB.size + 91)), (1, .int v1), (2, .int v2)]) hx hb dX12_spans_7 hl (by decide) rfl (fun ls hl => ?_)
  exact b9  F σ H locs ls G29 G30 v1 v2 q_2 0  hI e29 e30 fr (lv_sub hl [2, 3, 4, 1, 0] rfl) h
noncomputable def f_X12_longest_l5b (F : Nat)  (k5 : Grp → Grp → Int32 → Int32 → Int32 → Option (Int32)) (G29 : Grp) (G30 : Grp) (v1 : Int32) (v2 : Int32) (v3 : Int32) : Option (Int32) :=
  if v3 ≤ v2 then some 0 else ck v1 12 (ob (f_X12_place F (G29.1 116 v1.toNatClampNeg) v2) (fun q_18 => ob (f_X12_isEnd F G30 q_18 v3) (fun q_22 => if q_22 = 0 then bn (v3 + (-1)) (fun v3_32 => k5 G29 G30 v1 v2 v3_32) else some (v3 - v2))))
noncomputable def f_X12_longest_l5 (F : Nat)  (fu : Nat) : Grp → Grp → Int32 → Int32 → Int32 → Option (Int32) := Nat.rec (motive := fun _ => Grp → Grp → Int32 → Int32 → Int32 → Option (Int32)) (fun _ _ _ _ _ => none) (fun _ ih => f_X12_longest_l5b F  ih) fu
noncomputable def f_X12_longest (F : Nat) (G29 : Grp) (G30 : Grp) (v1 : Int32) (v2 : Int32) : Option (Int32) :=
  bn ((G30.1 91 46)) (fun v3_4 => f_X12_longest_l5 F  F G29 G30 v1 v2 v3_4)
def RM_X12_longest : Room := { frames := 1, cells := 0, slots := 0, locals := 22 }
abbrev B_X12_longest (HB : Heap) (D : va_G) (y : Nat → ClassId) (n : Nat) (κ : Nat → Nat) (σ : St) (q : Int32) : Heap → Prop := fun H => IV HB D y n n κ σ [] H
set_option maxRecDepth 100000 in
set_option maxHeartbeats 4000000 in
theorem c_X12_longest (l : Launch) (HB : Heap) (D : va_G) (y : Nat → ClassId) (F n : Nat) (κ : Nat → Nat) (σ : St) (hN : N0 ≤ n) (v1 : Int32)  (v2 : Int32)  (G29 : Grp) (e29 : σ 29 = G29) (G30 : Grp) (e30 : σ 30 = G30) (q : Int32) (h : f_X12_longest F G29 G30 v1 v2 = some q) : MT l HB D y yX12_longest cX12_longest 4 (some .int) RM_X12_longest [.ref (HB.size + 91), .int v1, .int v2] (IV HB D y n n κ σ []) (some (.int q)) (B_X12_longest HB D y n κ σ q) := by
  refine Met.ofW (cc := cX12_longest) (maxL := 4) (ret := (some .int)) (by decide) rfl ?_
  intro p e s m args below meth c s₁ BL hml hv
  obtain ⟨rfl, hI, hKK⟩ := hv
  have hx := BL.exec
  have hb := BL.bytes
  have hr := BL.returns
  have hts : ∀ w ∈ gtb, w.before _ s = true := fun w hw => atoms_spec BL.pre w (List.mem_cons_of_mem _ hw)
  have hml : c.maxLocals = 4 := hml
  have hown : s.vm.findClass RX12 = some m.cls := findClass_of_methodNamed BL.named
  have hlocks := BL.notSynchronized
  have hk0 := hI.1.2.2.2.2
  have hl := lv_entry ([.ref (HB.size + 91), .int v1, .int v2]) (n := 4) (Nat.le_of_ble_eq_true rfl)
  rw [lg_entry_eq]
  generalize (lg_sl ([.ref (HB.size + 91), .int v1, .int v2]) ++ List.replicate (4 - (lg_sl ([.ref (HB.size + 91), .int v1, .int v2])).length) Slot.unset).toArray = ls at hl ⊢
  have hl : lv_has ls 4 [(0, .ref (HB.size + 91)), (1, .int v1), (2, .int v2)] := hl
  generalize hargs : ([.ref (HB.size + 91), .int v1, .int v2] : List Value).toArray = args at *
  have b5 : ∀ (fu : Nat) (H : Heap) (locs : List Loc) (ls : Array Slot) (G29 : Grp) (G30 : Grp) (v1 : Int32) (v2 : Int32) (v3 : Int32) , IV HB D y n n κ σ locs H → σ 29 = G29 → σ 30 = G30 → lv_has ls 4 [(0, .ref (HB.size + 91)), (1, .int v1), (2, .int v2), (3, .int v3)] → f_X12_longest_l5 F  fu G29 G30 v1 v2 v3 = some q → WX RM_X12_longest p l e s m args below meth c HB (some (.int q)) (B_X12_longest HB D y n κ σ q) H locs (F0 m 5 ls []) := by
    intro  fu
    induction fu with
    | zero =>
      intro H locs ls G29 G30 v1 v2 v3 hI e29 e30 hl h
      exact absurd h (by intro h; cases h)
    | succ fu hk5 =>
      intro H locs ls G29 G30 v1 v2 v3 hI e29 e30 hl h
      have h : f_X12_longest_l5b F  (f_X12_longest_l5 F  fu) G29 G30 v1 v2 v3 = some q := h
      generalize f_X12_longest_l5 F  fu = k5 at h hk5
      unfold f_X12_longest_l5b at h
      refine lv_iload_n hx hb dX12_longest_5 rfl (lv_at hl 3 rfl) ?_
      refine lv_iload_n hx hb dX12_longest_6 rfl (lv_at hl 2 rfl) ?_
      refine lv_icmp_le (tgt := 38) hx hb dX12_longest_7 (by decide) (fun hc => ?_) (fun hc => ?_)
      · replace h := ite_t hc h
        refine lv_iconst (v := 0) hx hb dX12_longest_38 (by decide) ?_
        have hq := Option.some.inj h
        exact W.iret (v := 0) hx hb hr (fun t ht hW => qc_mk (congrArg (fun z => Outcome.returned (some (Value.int z))) hq) (by rw [ht]; exact hI.nil)) hI.2.2 dX12_longest_39 hlocks
      · replace h := ite_f hc h
        refine lv_aload_n hx hb dX12_longest_10 rfl (lv_at hl 0 rfl) ?_
        refine lv_aload_n hx hb dX12_longest_11 rfl (lv_at hl 0 rfl) ?_
        refine gf_X12_83 hx hb hts hown hKK hI hN dX12_longest_12 ?_
        refine lv_iload_n hx hb dX12_longest_15 rfl (lv_at hl 1 rfl) ?_
        obtain ⟨hin_, h⟩ := ck_e h
        refine la_49 hx hb hKK hI e29 (lc116 hN) (kc116 hk0) hin_ dX12_longest_16 ?_
        refine lv_iload_n hx hb dX12_longest_17 rfl (lv_at hl 2 rfl) ?_
        obtain ⟨q_18, hq_18, h⟩ := ob_e h
        refine r_callS (As := [.int (G29.1 116 v1.toNatClampNeg), .int v2]) (rest := [.ref (HB.size + 91)]) hx hb hml hts hown (c_X12_place l HB D y F n κ σ hN (G29.1 116 v1.toNatClampNeg) v2  q_18 hq_18) cal_X12_place st_X12_place lm_X12_387 ⟨Nat.le_of_ble_eq_true rfl, Nat.le_of_ble_eq_true rfl⟩ hI.nil hKK rfl hl.1 hI.2.2 rfl (Nat.le_of_ble_eq_true rfl) dX12_longest_18 ⟨Nat.le_of_ble_eq_true rfl, Nat.le_of_ble_eq_true rfl⟩ rfl rfl rfl (fun H locs hB hlo => ?_)
        have hI := hB.re hlo
        refine lv_iload_n hx hb dX12_longest_21 rfl (lv_at hl 3 rfl) ?_
        obtain ⟨q_22, hq_22, h⟩ := ob_e h
        refine r_callV (As := [.int q_18, .int v3]) (rest := []) hx hb hml hts hown (c_X12_isEnd l HB D y F n κ σ hN q_18 v3 G30 e30 q_22 hq_22) cal_X12_isEnd im_X12_isEnd se_X12_isEnd lm_X12_401 ⟨Nat.le_of_ble_eq_true rfl, Nat.le_of_ble_eq_true rfl⟩ hI.nil hKK (r_recv hKK hI (hE12 HB.size y) rfl (lc91 hN) (kc91 hk0)) rfl hl.1 hI.2.2 rfl (Nat.le_of_ble_eq_true rfl) dX12_longest_22 ⟨Nat.le_of_ble_eq_true rfl, Nat.le_of_ble_eq_true rfl⟩ rfl rfl rfl (fun H locs hB hlo => ?_)
        have hI := hB.re hlo
        refine lv_if_eq (tgt := 32) hx hb dX12_longest_25 (by decide) (fun hc => ?_) (fun hc => ?_)
        · replace h := ite_t hc h
          obtain ⟨v3_32, qq, h⟩ := bn_e h
          refine lv_iinc (v := v3_32) (lv' := [(3, .int v3_32), (0, .ref (HB.size + 91)), (1, .int v1), (2, .int v2)]) hx hb dX12_longest_32 hl (k := 3) rfl (by rw [qq]; rfl) (by decide) rfl (fun ls hl => ?_)
          refine lv_goto (tgt := 5) hx hb dX12_longest_35 (by decide) ?_
          exact hk5 H locs ls G29 G30 v1 v2 v3_32  hI e29 e30 (lv_sub hl [1, 2, 3, 0] rfl) h
        · replace h := ite_f hc h
          refine lv_iload_n hx hb dX12_longest_28 rfl (lv_at hl 3 rfl) ?_
          refine lv_iload_n hx hb dX12_longest_29 rfl (lv_at hl 2 rfl) ?_
          refine lv_isub hx hb dX12_longest_30 ?_
          have hq := Option.some.inj h
          exact W.iret (v := (v3 - v2)) hx hb hr (fun t ht hW => qc_mk (congrArg (fun z => Outcome.returned (some (Value.int z))) hq) (by rw [ht]; exact hI.nil)) hI.2.2 dX12_longest_31 hlocks
  show WX RM_X12_longest p l e s m args below meth c HB (some (.int q)) (B_X12_longest HB D y n κ σ q) s.heap [] (F0 m 0 ls [])
  generalize s.heap = H at hI ⊢
  unfold f_X12_longest at h
  obtain ⟨locs, hlocs⟩ : ∃ x : List Loc, x = [] := ⟨_, rfl⟩
  rw [← hlocs] at hI ⊢
  refine lv_aload_n hx hb dX12_longest_0 rfl (lv_at hl 0 rfl) ?_
  refine gt_X12_384 hx hb hts hown hKK hI e30 (lc91 hN) (kc91 hk0) dX12_longest_1 ?_
  obtain ⟨v3_4, qq, h⟩ := bn_e h
  refine topi qq ?_
  refine lv_istore_n (lv' := [(3, .int v3_4), (0, .ref (HB.size + 91)), (1, .int v1), (2, .int v2)]) hx hb dX12_longest_4 rfl hl (by decide) rfl (fun ls hl => ?_)
  exact b5  F H locs ls G29 G30 v1 v2 v3_4  hI e29 e30 (lv_sub hl [1, 2, 3, 0] rfl) h
noncomputable def f_X12_looks_l15b (F : Nat) (k2 : Grp → Grp → Int32 → Option (Grp)) (k15 : Grp → Grp → Int32 → Int32 → Option (Grp)) (G29 : Grp) (G30 : Grp) (v1 : Int32) (v2 : Int32) : Option (Grp) :=
  if v2 < 0 then bn (v1 + 1) (fun v1_31 => k2 G29 G30 v1_31) else ob (f_X12_spans F G29 G30 v1 v2) (fun q_22 => bn (v2 + (-1)) (fun v2_25 => k15 G29 q_22 v1 v2_25))
noncomputable def f_X12_looks_l15 (F : Nat) (k2 : Grp → Grp → Int32 → Option (Grp)) (fu : Nat) : Grp → Grp → Int32 → Int32 → Option (Grp) := Nat.rec (motive := fun _ => Grp → Grp → Int32 → Int32 → Option (Grp)) (fun _ _ _ _ => none) (fun _ ih => f_X12_looks_l15b F k2 ih) fu
noncomputable def f_X12_looks_l168b (F : Nat) (k46 : Grp → Grp → Int32 → Int32 → Option (Grp)) (k168 : Grp → Grp → Int32 → Int32 → Int32 → Option (Grp)) (G29 : Grp) (G30 : Grp) (v1 : Int32) (v5 : Int32) (v6 : Int32) : Option (Grp) :=
  if v5 ≤ v6 then k46 G29 G30 v1 v5 else ck v6 160 (if (G30.1 123 v6.toNatClampNeg) = 10 then bn ((v1 + 1)) (fun v1_194 => bn (v6 + 1) (fun v6_195 => k168 G29 G30 v1_194 v5 v6_195)) else bn ((v1 + 0)) (fun v1_194 => bn (v6 + 1) (fun v6_195 => k168 G29 G30 v1_194 v5 v6_195)))
noncomputable def f_X12_looks_l168 (F : Nat) (k46 : Grp → Grp → Int32 → Int32 → Option (Grp)) (fu : Nat) : Grp → Grp → Int32 → Int32 → Int32 → Option (Grp) := Nat.rec (motive := fun _ => Grp → Grp → Int32 → Int32 → Int32 → Option (Grp)) (fun _ _ _ _ _ => none) (fun _ ih => f_X12_looks_l168b F k46 ih) fu
noncomputable def f_X12_looks_b148 (F : Nat) (k46 : Grp → Grp → Int32 → Int32 → Option (Grp)) (G29 : Grp) (G30 : Grp) (v1 : Int32) (v2 : Int32) (v4 : Int32) : Option (Grp) :=
  if v4 ≤ 0 then bn ((v2 + 1)) (fun v5_163 => f_X12_looks_l168 F k46 F G29 G30 v1 v5_163 v2) else bn ((v2 + v4)) (fun v5_163 => f_X12_looks_l168 F k46 F G29 G30 v1 v5_163 v2)
noncomputable def f_X12_looks_b92 (F : Nat) (k46 : Grp → Grp → Int32 → Int32 → Option (Grp)) (G29 : Grp) (G30 : Grp) (v1 : Int32) (v2 : Int32) (v3 : Int32) (v4 : Int32) : Option (Grp) :=
  if v4 ≤ 0 then f_X12_looks_b148 F k46 G29 G30 v1 v2 v4 else ck (G30.1 91 51) 160 (bn (gI G30 124 (G30.1 91 51).toNatClampNeg v3) (fun G30_106 => ck (G30_106.1 91 51) 160 (bn (gI G30_106 125 (G30_106.1 91 51).toNatClampNeg v2) (fun G30_116 => ck (G30_116.1 91 51) 160 (bn (gI G30_116 126 (G30_116.1 91 51).toNatClampNeg v4) (fun G30_127 => ck (G30_127.1 91 51) 160 (bn (gI G30_127 127 (G30_127.1 91 51).toNatClampNeg v1) (fun G30_137 => bn (gI G30_137 91 51 ((G30_137.1 91 51) + 1)) (fun G30_145 => f_X12_looks_b148 F k46 G29 G30_145 v1 v2 v4)))))))))
noncomputable def f_X12_looks_l59b (F : Nat) (k46 : Grp → Grp → Int32 → Int32 → Option (Grp)) (k59 : Grp → Grp → Int32 → Int32 → Int32 → Int32 → Option (Grp)) (G29 : Grp) (G30 : Grp) (v1 : Int32) (v2 : Int32) (v3 : Int32) (v4 : Int32) : Option (Grp) :=
  if (G29.1 91 38) ≤ v3 then f_X12_looks_b92 F k46 G29 G30 v1 v2 v3 v4 else if v4 = 0 then ob (f_X12_longest F G29 G30 v3 v2) (fun q_75 => if q_75 = 0 then bn ((v3 + 1)) (fun v3_88 => k59 G29 G30 v1 v2 v3_88 q_75) else k59 G29 G30 v1 v2 v3 q_75) else f_X12_looks_b92 F k46 G29 G30 v1 v2 v3 v4
noncomputable def f_X12_looks_l59 (F : Nat) (k46 : Grp → Grp → Int32 → Int32 → Option (Grp)) (fu : Nat) : Grp → Grp → Int32 → Int32 → Int32 → Int32 → Option (Grp) := Nat.rec (motive := fun _ => Grp → Grp → Int32 → Int32 → Int32 → Int32 → Option (Grp)) (fun _ _ _ _ _ _ => none) (fun _ ih => f_X12_looks_l59b F k46 ih) fu
noncomputable def f_X12_looks_l46b (F : Nat)  (k46 : Grp → Grp → Int32 → Int32 → Option (Grp)) (G29 : Grp) (G30 : Grp) (v1 : Int32) (v2 : Int32) : Option (Grp) :=
  if (G30.1 91 46) ≤ v2 then some G30 else f_X12_looks_l59 F k46 F G29 G30 v1 v2 0 0
noncomputable def f_X12_looks_l46 (F : Nat)  (fu : Nat) : Grp → Grp → Int32 → Int32 → Option (Grp) := Nat.rec (motive := fun _ => Grp → Grp → Int32 → Int32 → Option (Grp)) (fun _ _ _ _ => none) (fun _ ih => f_X12_looks_l46b F  ih) fu
noncomputable def f_X12_looks_l2b (F : Nat)  (k2 : Grp → Grp → Int32 → Option (Grp)) (G29 : Grp) (G30 : Grp) (v1 : Int32) : Option (Grp) :=
  if (G29.1 91 37) ≤ v1 then bn (gI G30 91 51 0) (fun G30_39 => f_X12_looks_l46 F  F G29 G30_39 0 0) else bn ((G30.1 91 46)) (fun v2_14 => f_X12_looks_l15 F k2 F G29 G30 v1 v2_14)
noncomputable def f_X12_looks_l2 (F : Nat)  (fu : Nat) : Grp → Grp → Int32 → Option (Grp) := Nat.rec (motive := fun _ => Grp → Grp → Int32 → Option (Grp)) (fun _ _ _ => none) (fun _ ih => f_X12_looks_l2b F  ih) fu
noncomputable def f_X12_looks (F : Nat) (G29 : Grp) (G30 : Grp)  : Option (Grp) :=
  f_X12_looks_l2 F  F G29 G30 0
def RM_X12_looks : Room := { frames := 3, cells := 0, slots := 0, locals := 72 }
abbrev W_X12_looks : List Nat := [30]
abbrev B_X12_looks (HB : Heap) (D : va_G) (y : Nat → ClassId) (n : Nat) (κ : Nat → Nat) (σ0 : St) (q : Grp) : Heap → Prop := fun H => ∃ σ : St, IV HB D y n n κ σ [] H ∧ σ 30 = q ∧ ∀ j, j ∉ W_X12_looks → σ j = σ0 j
set_option maxRecDepth 100000 in
set_option maxHeartbeats 4000000 in
theorem c_X12_looks (l : Launch) (HB : Heap) (D : va_G) (y : Nat → ClassId) (F n : Nat) (κ : Nat → Nat) (σ0 : St) (hN : N0 ≤ n)  (G29 : Grp) (e29 : σ0 29 = G29) (G30 : Grp) (e30 : σ0 30 = G30) (q : Grp) (h : f_X12_looks F G29 G30 = some q) : MT l HB D y yX12_looks cX12_looks 7 none RM_X12_looks [.ref (HB.size + 91)] (IV HB D y n n κ σ0 []) none (B_X12_looks HB D y n κ σ0 q) := by
  refine Met.ofW (cc := cX12_looks) (maxL := 7) (ret := none) (by decide) rfl ?_
  intro p e s m args below meth c s₁ BL hml hv
  obtain ⟨rfl, hI, hKK⟩ := hv
  have hx := BL.exec
  have hb := BL.bytes
  have hr := BL.returns
  have hts : ∀ w ∈ gtb, w.before _ s = true := fun w hw => atoms_spec BL.pre w (List.mem_cons_of_mem _ hw)
  have hml : c.maxLocals = 7 := hml
  have hown : s.vm.findClass RX12 = some m.cls := findClass_of_methodNamed BL.named
  have hlocks := BL.notSynchronized
  have hk0 := hI.1.2.2.2.2
  have hl := lv_entry ([.ref (HB.size + 91)]) (n := 7) (Nat.le_of_ble_eq_true rfl)
  rw [lg_entry_eq]
  generalize (lg_sl ([.ref (HB.size + 91)]) ++ List.replicate (7 - (lg_sl ([.ref (HB.size + 91)])).length) Slot.unset).toArray = ls at hl ⊢
  have hl : lv_has ls 7 [(0, .ref (HB.size + 91))] := hl
  generalize hargs : ([.ref (HB.size + 91)] : List Value).toArray = args at *
  have b15 : ∀ (k2 : Grp → Grp → Int32 → Option (Grp)) (hk2 : ∀ (σ : St) (H : Heap) (locs : List Loc) (ls : Array Slot) (G29 : Grp) (G30 : Grp) (v1 : Int32) , IV HB D y n n κ σ locs H → σ 29 = G29 → σ 30 = G30 → (∀ j, j ∉ W_X12_looks → σ j = σ0 j) → lv_has ls 7 [(0, .ref (HB.size + 91)), (1, .int v1)] → k2 G29 G30 v1 = some q → WX RM_X12_looks p l e s m args below meth c HB none (B_X12_looks HB D y n κ σ0 q) H locs (F0 m 2 ls [])) (fu : Nat) (σ : St) (H : Heap) (locs : List Loc) (ls : Array Slot) (G29 : Grp) (G30 : Grp) (v1 : Int32) (v2 : Int32) , IV HB D y n n κ σ locs H → σ 29 = G29 → σ 30 = G30 → (∀ j, j ∉ W_X12_looks → σ j = σ0 j) → lv_has ls 7 [(0, .ref (HB.size + 91)), (1, .int v1), (2, .int v2)] → f_X12_looks_l15 F k2 fu G29 G30 v1 v2 = some q → WX RM_X12_looks p l e s m args below meth c HB none (B_X12_looks HB D y n κ σ0 q) H locs (F0 m 15 ls []) := by
    intro k2 hk2 fu
    induction fu with
    | zero =>
      intro σ H locs ls G29 G30 v1 v2 hI e29 e30 fr hl h
      exact absurd h (by intro h; cases h)
    | succ fu hk15 =>
      intro σ H locs ls G29 G30 v1 v2 hI e29 e30 fr hl h
      have h : f_X12_looks_l15b F k2 (f_X12_looks_l15 F k2 fu) G29 G30 v1 v2 = some q := h
      generalize f_X12_looks_l15 F k2 fu = k15 at h hk15
      unfold f_X12_looks_l15b at h
      refine lv_iload_n hx hb dX12_looks_15 rfl (lv_at hl 2 rfl) ?_
      refine lv_if_lt (tgt := 31) hx hb dX12_looks_16 (by decide) (fun hc => ?_) (fun hc => ?_)
      · replace h := ite_t hc h
        obtain ⟨v1_31, qq, h⟩ := bn_e h
        refine lv_iinc (v := v1_31) (lv' := [(1, .int v1_31), (0, .ref (HB.size + 91)), (2, .int v2)]) hx hb dX12_looks_31 hl (k := 1) rfl (by rw [qq]; rfl) (by decide) rfl (fun ls hl => ?_)
        refine lv_goto (tgt := 2) hx hb dX12_looks_34 (by decide) ?_
        exact hk2 σ H locs ls G29 G30 v1_31  hI e29 e30 fr (lv_sub hl [1, 0] rfl) h
      · replace h := ite_f hc h
        refine lv_aload_n hx hb dX12_looks_19 rfl (lv_at hl 0 rfl) ?_
        refine lv_iload_n hx hb dX12_looks_20 rfl (lv_at hl 1 rfl) ?_
        refine lv_iload_n hx hb dX12_looks_21 rfl (lv_at hl 2 rfl) ?_
        obtain ⟨q_22, hq_22, h⟩ := ob_e h
        refine r_callV (As := [.int v1, .int v2]) (rest := []) hx hb hml hts hown (c_X12_spans l HB D y F n κ σ hN v1 v2 G29 e29 G30 e30 q_22 hq_22) cal_X12_spans im_X12_spans se_X12_spans lm_X12_410 ⟨Nat.le_of_ble_eq_true rfl, Nat.le_of_ble_eq_true rfl⟩ hI.nil hKK (r_recv hKK hI (hE12 HB.size y) rfl (lc91 hN) (kc91 hk0)) rfl hl.1 hI.2.2 rfl (Nat.le_of_ble_eq_true rfl) dX12_looks_22 ⟨Nat.le_of_ble_eq_true rfl, Nat.le_of_ble_eq_true rfl⟩ rfl rfl rfl (fun H locs hB hlo => ?_)
        obtain ⟨σ, hB, en30, ho⟩ := hB
        have hI := hB.re hlo
        have e30 := en30
        have e29 := (ho 29 (ni rfl)).trans e29
        have fr := frc fr ho (by decide)
        obtain ⟨v2_25, qq, h⟩ := bn_e h
        refine lv_iinc (v := v2_25) (lv' := [(2, .int v2_25), (0, .ref (HB.size + 91)), (1, .int v1)]) hx hb dX12_looks_25 hl (k := 2) rfl (by rw [qq]; rfl) (by decide) rfl (fun ls hl => ?_)
        refine lv_goto (tgt := 15) hx hb dX12_looks_28 (by decide) ?_
        exact hk15 σ H locs ls G29 q_22 v1 v2_25  hI e29 e30 fr (lv_sub hl [1, 2, 0] rfl) h
  have b168 : ∀ (k46 : Grp → Grp → Int32 → Int32 → Option (Grp)) (hk46 : ∀ (σ : St) (H : Heap) (locs : List Loc) (ls : Array Slot) (G29 : Grp) (G30 : Grp) (v1 : Int32) (v2 : Int32) , IV HB D y n n κ σ locs H → σ 29 = G29 → σ 30 = G30 → (∀ j, j ∉ W_X12_looks → σ j = σ0 j) → lv_has ls 7 [(0, .ref (HB.size + 91)), (1, .int v1), (2, .int v2)] → k46 G29 G30 v1 v2 = some q → WX RM_X12_looks p l e s m args below meth c HB none (B_X12_looks HB D y n κ σ0 q) H locs (F0 m 46 ls [])) (fu : Nat) (σ : St) (H : Heap) (locs : List Loc) (ls : Array Slot) (G29 : Grp) (G30 : Grp) (v1 : Int32) (v5 : Int32) (v6 : Int32) , IV HB D y n n κ σ locs H → σ 29 = G29 → σ 30 = G30 → (∀ j, j ∉ W_X12_looks → σ j = σ0 j) → lv_has ls 7 [(0, .ref (HB.size + 91)), (1, .int v1), (5, .int v5), (6, .int v6)] → f_X12_looks_l168 F k46 fu G29 G30 v1 v5 v6 = some q → WX RM_X12_looks p l e s m args below meth c HB none (B_X12_looks HB D y n κ σ0 q) H locs (F0 m 168 ls []) := by
    intro k46 hk46 fu
    induction fu with
    | zero =>
      intro σ H locs ls G29 G30 v1 v5 v6 hI e29 e30 fr hl h
      exact absurd h (by intro h; cases h)
    | succ fu hk168 =>
      intro σ H locs ls G29 G30 v1 v5 v6 hI e29 e30 fr hl h
      have h : f_X12_looks_l168b F k46 (f_X12_looks_l168 F k46 fu) G29 G30 v1 v5 v6 = some q := h
      generalize f_X12_looks_l168 F k46 fu = k168 at h hk168
      unfold f_X12_looks_l168b at h
      refine lv_iload hx hb dX12_looks_168 (lv_at hl 3 rfl) ?_
      refine lv_iload hx hb dX12_looks_170 (lv_at hl 2 rfl) ?_
      refine lv_icmp_ge (tgt := 201) hx hb dX12_looks_172 (by decide) (fun hc => ?_) (fun hc => ?_)
      · replace h := ite_t hc h
        refine lv_iload hx hb dX12_looks_201 (lv_at hl 2 rfl) ?_
        refine lv_istore_n (lv' := [(2, .int v5), (0, .ref (HB.size + 91)), (1, .int v1), (5, .int v5), (6, .int v6)]) hx hb dX12_looks_203 rfl hl (by decide) rfl (fun ls hl => ?_)
        refine lv_goto (tgt := 46) hx hb dX12_looks_204 (by decide) ?_
        exact hk46 σ H locs ls G29 G30 v1 v5  hI e29 e30 fr (lv_sub hl [1, 2, 0] rfl) h
      · replace h := ite_f hc h
        refine lv_iload_n hx hb dX12_looks_175 rfl (lv_at hl 1 rfl) ?_
        refine lv_aload_n hx hb dX12_looks_176 rfl (lv_at hl 0 rfl) ?_
        refine gf_X12_106 hx hb hts hown hKK hI hN dX12_looks_177 ?_
        refine lv_iload hx hb dX12_looks_180 (lv_at hl 3 rfl) ?_
        obtain ⟨hin_, h⟩ := ck_e h
        refine la_54 hx hb hKK hI e30 (lc123 hN) (kc123 hk0) hin_ dX12_looks_182 ?_
        refine lv_bipush (v := 10) hx hb dX12_looks_183 (by decide) ?_
        refine lv_icmp_ne (tgt := 192) hx hb dX12_looks_185 (by decide) (fun hc => ?_) (fun hc => ?_)
        · replace h := ite_f hc h
          refine lv_iconst (v := 0) hx hb dX12_looks_192 (by decide) ?_
          refine lv_iadd hx hb dX12_looks_193 ?_
          obtain ⟨v1_194, qq, h⟩ := bn_e h
          refine topi qq ?_
          refine lv_istore_n (lv' := [(1, .int v1_194), (0, .ref (HB.size + 91)), (5, .int v5), (6, .int v6)]) hx hb dX12_looks_194 rfl hl (by decide) rfl (fun ls hl => ?_)
          obtain ⟨v6_195, qq, h⟩ := bn_e h
          refine lv_iinc (v := v6_195) (lv' := [(6, .int v6_195), (1, .int v1_194), (0, .ref (HB.size + 91)), (5, .int v5)]) hx hb dX12_looks_195 hl (k := 3) rfl (by rw [qq]; rfl) (by decide) rfl (fun ls hl => ?_)
          refine lv_goto (tgt := 168) hx hb dX12_looks_198 (by decide) ?_
          exact hk168 σ H locs ls G29 G30 v1_194 v5 v6_195  hI e29 e30 fr (lv_sub hl [2, 1, 3, 0] rfl) h
        · replace h := ite_t hc h
          refine lv_iconst (v := 1) hx hb dX12_looks_188 (by decide) ?_
          refine lv_goto (tgt := 193) hx hb dX12_looks_189 (by decide) ?_
          refine lv_iadd hx hb dX12_looks_193 ?_
          obtain ⟨v1_194, qq, h⟩ := bn_e h
          refine topi qq ?_
          refine lv_istore_n (lv' := [(1, .int v1_194), (0, .ref (HB.size + 91)), (5, .int v5), (6, .int v6)]) hx hb dX12_looks_194 rfl hl (by decide) rfl (fun ls hl => ?_)
          obtain ⟨v6_195, qq, h⟩ := bn_e h
          refine lv_iinc (v := v6_195) (lv' := [(6, .int v6_195), (1, .int v1_194), (0, .ref (HB.size + 91)), (5, .int v5)]) hx hb dX12_looks_195 hl (k := 3) rfl (by rw [qq]; rfl) (by decide) rfl (fun ls hl => ?_)
          refine lv_goto (tgt := 168) hx hb dX12_looks_198 (by decide) ?_
          exact hk168 σ H locs ls G29 G30 v1_194 v5 v6_195  hI e29 e30 fr (lv_sub hl [2, 1, 3, 0] rfl) h
  have b148 : ∀ (k46 : Grp → Grp → Int32 → Int32 → Option (Grp)) (hk46 : ∀ (σ : St) (H : Heap) (locs : List Loc) (ls : Array Slot) (G29 : Grp) (G30 : Grp) (v1 : Int32) (v2 : Int32) , IV HB D y n n κ σ locs H → σ 29 = G29 → σ 30 = G30 → (∀ j, j ∉ W_X12_looks → σ j = σ0 j) → lv_has ls 7 [(0, .ref (HB.size + 91)), (1, .int v1), (2, .int v2)] → k46 G29 G30 v1 v2 = some q → WX RM_X12_looks p l e s m args below meth c HB none (B_X12_looks HB D y n κ σ0 q) H locs (F0 m 46 ls [])) (σ : St) (H : Heap) (locs : List Loc) (ls : Array Slot) (G29 : Grp) (G30 : Grp) (v1 : Int32) (v2 : Int32) (v4 : Int32) , IV HB D y n n κ σ locs H → σ 29 = G29 → σ 30 = G30 → (∀ j, j ∉ W_X12_looks → σ j = σ0 j) → lv_has ls 7 [(0, .ref (HB.size + 91)), (1, .int v1), (2, .int v2), (4, .int v4)] → f_X12_looks_b148 F k46 G29 G30 v1 v2 v4 = some q → WX RM_X12_looks p l e s m args below meth c HB none (B_X12_looks HB D y n κ σ0 q) H locs (F0 m 148 ls []) := by
    intro k46 hk46 σ H locs ls G29 G30 v1 v2 v4 hI e29 e30 fr hl h
    unfold f_X12_looks_b148 at h
    refine lv_iload hx hb dX12_looks_148 (lv_at hl 3 rfl) ?_
    refine lv_if_le (tgt := 160) hx hb dX12_looks_150 (by decide) (fun hc => ?_) (fun hc => ?_)
    · replace h := ite_t hc h
      refine lv_iload_n hx hb dX12_looks_160 rfl (lv_at hl 2 rfl) ?_
      refine lv_iconst (v := 1) hx hb dX12_looks_161 (by decide) ?_
      refine lv_iadd hx hb dX12_looks_162 ?_
      obtain ⟨v5_163, qq, h⟩ := bn_e h
      refine topi qq ?_
      refine lv_istore (lv' := [(5, .int v5_163), (0, .ref (HB.size + 91)), (1, .int v1), (2, .int v2), (4, .int v4)]) hx hb dX12_looks_163 hl (by decide) rfl (fun ls hl => ?_)
      refine lv_iload_n hx hb dX12_looks_165 rfl (lv_at hl 3 rfl) ?_
      refine lv_istore (lv' := [(6, .int v2), (5, .int v5_163), (0, .ref (HB.size + 91)), (1, .int v1), (2, .int v2), (4, .int v4)]) hx hb dX12_looks_166 hl (by decide) rfl (fun ls hl => ?_)
      exact b168 k46 hk46 F σ H locs ls G29 G30 v1 v5_163 v2  hI e29 e30 fr (lv_sub hl [2, 3, 1, 0] rfl) h
    · replace h := ite_f hc h
      refine lv_iload_n hx hb dX12_looks_153 rfl (lv_at hl 2 rfl) ?_
      refine lv_iload hx hb dX12_looks_154 (lv_at hl 3 rfl) ?_
      refine lv_iadd hx hb dX12_looks_156 ?_
      refine lv_goto (tgt := 163) hx hb dX12_looks_157 (by decide) ?_
      obtain ⟨v5_163, qq, h⟩ := bn_e h
      refine topi qq ?_
      refine lv_istore (lv' := [(5, .int v5_163), (0, .ref (HB.size + 91)), (1, .int v1), (2, .int v2), (4, .int v4)]) hx hb dX12_looks_163 hl (by decide) rfl (fun ls hl => ?_)
      refine lv_iload_n hx hb dX12_looks_165 rfl (lv_at hl 3 rfl) ?_
      refine lv_istore (lv' := [(6, .int v2), (5, .int v5_163), (0, .ref (HB.size + 91)), (1, .int v1), (2, .int v2), (4, .int v4)]) hx hb dX12_looks_166 hl (by decide) rfl (fun ls hl => ?_)
      exact b168 k46 hk46 F σ H locs ls G29 G30 v1 v5_163 v2  hI e29 e30 fr (lv_sub hl [2, 3, 1, 0] rfl) h
  have b92 : ∀ (k46 : Grp → Grp → Int32 → Int32 → Option (Grp)) (hk46 : ∀ (σ : St) (H : Heap) (locs : List Loc) (ls : Array Slot) (G29 : Grp) (G30 : Grp) (v1 : Int32) (v2 : Int32) , IV HB D y n n κ σ locs H → σ 29 = G29 → σ 30 = G30 → (∀ j, j ∉ W_X12_looks → σ j = σ0 j) → lv_has ls 7 [(0, .ref (HB.size + 91)), (1, .int v1), (2, .int v2)] → k46 G29 G30 v1 v2 = some q → WX RM_X12_looks p l e s m args below meth c HB none (B_X12_looks HB D y n κ σ0 q) H locs (F0 m 46 ls [])) (σ : St) (H : Heap) (locs : List Loc) (ls : Array Slot) (G29 : Grp) (G30 : Grp) (v1 : Int32) (v2 : Int32) (v3 : Int32) (v4 : Int32) , IV HB D y n n κ σ locs H → σ 29 = G29 → σ 30 = G30 → (∀ j, j ∉ W_X12_looks → σ j = σ0 j) → lv_has ls 7 [(0, .ref (HB.size + 91)), (1, .int v1), (2, .int v2), (3, .int v3), (4, .int v4)] → f_X12_looks_b92 F k46 G29 G30 v1 v2 v3 v4 = some q → WX RM_X12_looks p l e s m args below meth c HB none (B_X12_looks HB D y n κ σ0 q) H locs (F0 m 92 ls []) := by
    intro k46 hk46 σ H locs ls G29 G30 v1 v2 v3 v4 hI e29 e30 fr hl h
    unfold f_X12_looks_b92 at h
    refine lv_iload hx hb dX12_looks_92 (lv_at hl 4 rfl) ?_
    refine lv_if_le (tgt := 148) hx hb dX12_looks_94 (by decide) (fun hc => ?_) (fun hc => ?_)
    · replace h := ite_t hc h
      exact b148 k46 hk46 σ H locs ls G29 G30 v1 v2 v4  hI e29 e30 fr (lv_sub hl [0, 1, 2, 4] rfl) h
    · replace h := ite_f hc h
      refine lv_aload_n hx hb dX12_looks_97 rfl (lv_at hl 0 rfl) ?_
      refine gf_X12_109 hx hb hts hown hKK hI hN dX12_looks_98 ?_
      refine lv_aload_n hx hb dX12_looks_101 rfl (lv_at hl 0 rfl) ?_
      refine gt_X12_413 hx hb hts hown hKK hI e30 (lc91 hN) (kc91 hk0) dX12_looks_102 ?_
      refine lv_iload_n hx hb dX12_looks_105 rfl (lv_at hl 3 rfl) ?_
      obtain ⟨hin_, h⟩ := ck_e h
      obtain ⟨G30_106, qq, h⟩ := bn_e h
      refine sa_55 hx hb hKK hI e30 (lc124 hN) (kc124 hk0) hin_ dX12_looks_106 (fun σ H locs hI ew ho => ?_)
      have e30 := ew.trans qq.symm
      have e29 := (ho 29 (nn rfl)).trans e29
      have fr := frs fr ho (by decide)
      refine lv_aload_n hx hb dX12_looks_107 rfl (lv_at hl 0 rfl) ?_
      refine gf_X12_112 hx hb hts hown hKK hI hN dX12_looks_108 ?_
      refine lv_aload_n hx hb dX12_looks_111 rfl (lv_at hl 0 rfl) ?_
      refine gt_X12_413 hx hb hts hown hKK hI e30 (lc91 hN) (kc91 hk0) dX12_looks_112 ?_
      refine lv_iload_n hx hb dX12_looks_115 rfl (lv_at hl 2 rfl) ?_
      obtain ⟨hin_, h⟩ := ck_e h
      obtain ⟨G30_116, qq, h⟩ := bn_e h
      refine sa_55 hx hb hKK hI e30 (lc125 hN) (kc125 hk0) hin_ dX12_looks_116 (fun σ H locs hI ew ho => ?_)
      have e30 := ew.trans qq.symm
      have e29 := (ho 29 (nn rfl)).trans e29
      have fr := frs fr ho (by decide)
      refine lv_aload_n hx hb dX12_looks_117 rfl (lv_at hl 0 rfl) ?_
      refine gf_X12_115 hx hb hts hown hKK hI hN dX12_looks_118 ?_
      refine lv_aload_n hx hb dX12_looks_121 rfl (lv_at hl 0 rfl) ?_
      refine gt_X12_413 hx hb hts hown hKK hI e30 (lc91 hN) (kc91 hk0) dX12_looks_122 ?_
      refine lv_iload hx hb dX12_looks_125 (lv_at hl 4 rfl) ?_
      obtain ⟨hin_, h⟩ := ck_e h
      obtain ⟨G30_127, qq, h⟩ := bn_e h
      refine sa_55 hx hb hKK hI e30 (lc126 hN) (kc126 hk0) hin_ dX12_looks_127 (fun σ H locs hI ew ho => ?_)
      have e30 := ew.trans qq.symm
      have e29 := (ho 29 (nn rfl)).trans e29
      have fr := frs fr ho (by decide)
      refine lv_aload_n hx hb dX12_looks_128 rfl (lv_at hl 0 rfl) ?_
      refine gf_X12_118 hx hb hts hown hKK hI hN dX12_looks_129 ?_
      refine lv_aload_n hx hb dX12_looks_132 rfl (lv_at hl 0 rfl) ?_
      refine gt_X12_413 hx hb hts hown hKK hI e30 (lc91 hN) (kc91 hk0) dX12_looks_133 ?_
      refine lv_iload_n hx hb dX12_looks_136 rfl (lv_at hl 1 rfl) ?_
      obtain ⟨hin_, h⟩ := ck_e h
      obtain ⟨G30_137, qq, h⟩ := bn_e h
      refine sa_55 hx hb hKK hI e30 (lc127 hN) (kc127 hk0) hin_ dX12_looks_137 (fun σ H locs hI ew ho => ?_)
      have e30 := ew.trans qq.symm
      have e29 := (ho 29 (nn rfl)).trans e29
      have fr := frs fr ho (by decide)
      refine lv_aload_n hx hb dX12_looks_138 rfl (lv_at hl 0 rfl) ?_
      refine lv_aload_n hx hb dX12_looks_139 rfl (lv_at hl 0 rfl) ?_
      refine gt_X12_413 hx hb hts hown hKK hI e30 (lc91 hN) (kc91 hk0) dX12_looks_140 ?_
      refine lv_iconst (v := 1) hx hb dX12_looks_143 (by decide) ?_
      refine lv_iadd hx hb dX12_looks_144 ?_
      obtain ⟨G30_145, qq, h⟩ := bn_e h
      refine pt_X12_413 hx hb hts hown hKK hI e30 (lc91 hN) (kc91 hk0) dX12_looks_145 (fun σ H locs hI ew ho => ?_)
      have e30 := ew.trans qq.symm
      have e29 := (ho 29 (nn rfl)).trans e29
      have fr := frs fr ho (by decide)
      exact b148 k46 hk46 σ H locs ls G29 G30_145 v1 v2 v4  hI e29 e30 fr (lv_sub hl [0, 1, 2, 4] rfl) h
  have b59 : ∀ (k46 : Grp → Grp → Int32 → Int32 → Option (Grp)) (hk46 : ∀ (σ : St) (H : Heap) (locs : List Loc) (ls : Array Slot) (G29 : Grp) (G30 : Grp) (v1 : Int32) (v2 : Int32) , IV HB D y n n κ σ locs H → σ 29 = G29 → σ 30 = G30 → (∀ j, j ∉ W_X12_looks → σ j = σ0 j) → lv_has ls 7 [(0, .ref (HB.size + 91)), (1, .int v1), (2, .int v2)] → k46 G29 G30 v1 v2 = some q → WX RM_X12_looks p l e s m args below meth c HB none (B_X12_looks HB D y n κ σ0 q) H locs (F0 m 46 ls [])) (fu : Nat) (σ : St) (H : Heap) (locs : List Loc) (ls : Array Slot) (G29 : Grp) (G30 : Grp) (v1 : Int32) (v2 : Int32) (v3 : Int32) (v4 : Int32) , IV HB D y n n κ σ locs H → σ 29 = G29 → σ 30 = G30 → (∀ j, j ∉ W_X12_looks → σ j = σ0 j) → lv_has ls 7 [(0, .ref (HB.size + 91)), (1, .int v1), (2, .int v2), (3, .int v3), (4, .int v4)] → f_X12_looks_l59 F k46 fu G29 G30 v1 v2 v3 v4 = some q → WX RM_X12_looks p l e s m args below meth c HB none (B_X12_looks HB D y n κ σ0 q) H locs (F0 m 59 ls []) := by
    intro k46 hk46 fu
    induction fu with
    | zero =>
      intro σ H locs ls G29 G30 v1 v2 v3 v4 hI e29 e30 fr hl h
      exact absurd h (by intro h; cases h)
    | succ fu hk59 =>
      intro σ H locs ls G29 G30 v1 v2 v3 v4 hI e29 e30 fr hl h
      have h : f_X12_looks_l59b F k46 (f_X12_looks_l59 F k46 fu) G29 G30 v1 v2 v3 v4 = some q := h
      generalize f_X12_looks_l59 F k46 fu = k59 at h hk59
      unfold f_X12_looks_l59b at h
      refine lv_iload_n hx hb dX12_looks_59 rfl (lv_at hl 3 rfl) ?_
      refine lv_aload_n hx hb dX12_looks_60 rfl (lv_at hl 0 rfl) ?_
      refine gt_X12_381 hx hb hts hown hKK hI e29 (lc91 hN) (kc91 hk0) dX12_looks_61 ?_
      refine lv_icmp_ge (tgt := 92) hx hb dX12_looks_64 (by decide) (fun hc => ?_) (fun hc => ?_)
      · replace h := ite_t hc h
        exact b92 k46 hk46 σ H locs ls G29 G30 v1 v2 v3 v4  hI e29 e30 fr (lv_sub hl [0, 1, 2, 3, 4] rfl) h
      · replace h := ite_f hc h
        refine lv_iload hx hb dX12_looks_67 (lv_at hl 4 rfl) ?_
        refine lv_if_ne (tgt := 92) hx hb dX12_looks_69 (by decide) (fun hc => ?_) (fun hc => ?_)
        · replace h := ite_f hc h
          exact b92 k46 hk46 σ H locs ls G29 G30 v1 v2 v3 v4  hI e29 e30 fr (lv_sub hl [0, 1, 2, 3, 4] rfl) h
        · replace h := ite_t hc h
          refine lv_aload_n hx hb dX12_looks_72 rfl (lv_at hl 0 rfl) ?_
          refine lv_iload_n hx hb dX12_looks_73 rfl (lv_at hl 3 rfl) ?_
          refine lv_iload_n hx hb dX12_looks_74 rfl (lv_at hl 2 rfl) ?_
          obtain ⟨q_75, hq_75, h⟩ := ob_e h
          refine r_callV (As := [.int v3, .int v2]) (rest := []) hx hb hml hts hown (c_X12_longest l HB D y F n κ σ hN v3 v2 G29 e29 G30 e30 q_75 hq_75) cal_X12_longest im_X12_longest se_X12_longest lm_X12_416 ⟨Nat.le_of_ble_eq_true rfl, Nat.le_of_ble_eq_true rfl⟩ hI.nil hKK (r_recv hKK hI (hE12 HB.size y) rfl (lc91 hN) (kc91 hk0)) rfl hl.1 hI.2.2 rfl (Nat.le_of_ble_eq_true rfl) dX12_looks_75 ⟨Nat.le_of_ble_eq_true rfl, Nat.le_of_ble_eq_true rfl⟩ rfl rfl rfl (fun H locs hB hlo => ?_)
          have hI := hB.re hlo
          refine lv_istore (lv' := [(4, .int q_75), (0, .ref (HB.size + 91)), (1, .int v1), (2, .int v2), (3, .int v3)]) hx hb dX12_looks_78 hl (by decide) rfl (fun ls hl => ?_)
          refine lv_iload hx hb dX12_looks_80 (lv_at hl 0 rfl) ?_
          refine lv_if_ne (tgt := 59) hx hb dX12_looks_82 (by decide) (fun hc => ?_) (fun hc => ?_)
          · replace h := ite_f hc h
            exact hk59 σ H locs ls G29 G30 v1 v2 v3 q_75  hI e29 e30 fr (lv_sub hl [1, 2, 3, 4, 0] rfl) h
          · replace h := ite_t hc h
            refine lv_iload_n hx hb dX12_looks_85 rfl (lv_at hl 4 rfl) ?_
            refine lv_iconst (v := 1) hx hb dX12_looks_86 (by decide) ?_
            refine lv_iadd hx hb dX12_looks_87 ?_
            obtain ⟨v3_88, qq, h⟩ := bn_e h
            refine topi qq ?_
            refine lv_istore_n (lv' := [(3, .int v3_88), (4, .int q_75), (0, .ref (HB.size + 91)), (1, .int v1), (2, .int v2)]) hx hb dX12_looks_88 rfl hl (by decide) rfl (fun ls hl => ?_)
            refine lv_goto (tgt := 59) hx hb dX12_looks_89 (by decide) ?_
            exact hk59 σ H locs ls G29 G30 v1 v2 v3_88 q_75  hI e29 e30 fr (lv_sub hl [2, 3, 4, 0, 1] rfl) h
  have b46 : ∀ (fu : Nat) (σ : St) (H : Heap) (locs : List Loc) (ls : Array Slot) (G29 : Grp) (G30 : Grp) (v1 : Int32) (v2 : Int32) , IV HB D y n n κ σ locs H → σ 29 = G29 → σ 30 = G30 → (∀ j, j ∉ W_X12_looks → σ j = σ0 j) → lv_has ls 7 [(0, .ref (HB.size + 91)), (1, .int v1), (2, .int v2)] → f_X12_looks_l46 F  fu G29 G30 v1 v2 = some q → WX RM_X12_looks p l e s m args below meth c HB none (B_X12_looks HB D y n κ σ0 q) H locs (F0 m 46 ls []) := by
    intro  fu
    induction fu with
    | zero =>
      intro σ H locs ls G29 G30 v1 v2 hI e29 e30 fr hl h
      exact absurd h (by intro h; cases h)
    | succ fu hk46 =>
      intro σ H locs ls G29 G30 v1 v2 hI e29 e30 fr hl h
      have h : f_X12_looks_l46b F  (f_X12_looks_l46 F  fu) G29 G30 v1 v2 = some q := h
      generalize f_X12_looks_l46 F  fu = k46 at h hk46
      unfold f_X12_looks_l46b at h
      refine lv_iload_n hx hb dX12_looks_46 rfl (lv_at hl 2 rfl) ?_
      refine lv_aload_n hx hb dX12_looks_47 rfl (lv_at hl 0 rfl) ?_
      refine gt_X12_384 hx hb hts hown hKK hI e30 (lc91 hN) (kc91 hk0) dX12_looks_48 ?_
      refine lv_icmp_ge (tgt := 207) hx hb dX12_looks_51 (by decide) (fun hc => ?_) (fun hc => ?_)
      · replace h := ite_t hc h
        have hq := Option.some.inj h
        exact W.vret hx hb hr (fun t ht hW => qc_mk (rfl) (by rw [ht]; exact ⟨σ, hI.nil, e30.trans (congrArg (fun z => z) hq), fr⟩)) hI.2.2 dX12_looks_207 hlocks
      · replace h := ite_f hc h
        refine lv_iconst (v := 0) hx hb dX12_looks_54 (by decide) ?_
        refine lv_istore_n (lv' := [(3, .int 0), (0, .ref (HB.size + 91)), (1, .int v1), (2, .int v2)]) hx hb dX12_looks_55 rfl hl (by decide) rfl (fun ls hl => ?_)
        refine lv_iconst (v := 0) hx hb dX12_looks_56 (by decide) ?_
        refine lv_istore (lv' := [(4, .int 0), (3, .int 0), (0, .ref (HB.size + 91)), (1, .int v1), (2, .int v2)]) hx hb dX12_looks_57 hl (by decide) rfl (fun ls hl => ?_)
        exact b59 k46 hk46 F σ H locs ls G29 G30 v1 v2 0 0  hI e29 e30 fr (lv_sub hl [2, 3, 4, 1, 0] rfl) h
  have b2 : ∀ (fu : Nat) (σ : St) (H : Heap) (locs : List Loc) (ls : Array Slot) (G29 : Grp) (G30 : Grp) (v1 : Int32) , IV HB D y n n κ σ locs H → σ 29 = G29 → σ 30 = G30 → (∀ j, j ∉ W_X12_looks → σ j = σ0 j) → lv_has ls 7 [(0, .ref (HB.size + 91)), (1, .int v1)] → f_X12_looks_l2 F  fu G29 G30 v1 = some q → WX RM_X12_looks p l e s m args below meth c HB none (B_X12_looks HB D y n κ σ0 q) H locs (F0 m 2 ls []) := by
    intro  fu
    induction fu with
    | zero =>
      intro σ H locs ls G29 G30 v1 hI e29 e30 fr hl h
      exact absurd h (by intro h; cases h)
    | succ fu hk2 =>
      intro σ H locs ls G29 G30 v1 hI e29 e30 fr hl h
      have h : f_X12_looks_l2b F  (f_X12_looks_l2 F  fu) G29 G30 v1 = some q := h
      generalize f_X12_looks_l2 F  fu = k2 at h hk2
      unfold f_X12_looks_l2b at h
      refine lv_iload_n hx hb dX12_looks_2 rfl (lv_at hl 1 rfl) ?_
      refine lv_aload_n hx hb dX12_looks_3 rfl (lv_at hl 0 rfl) ?_
      refine gt_X12_378 hx hb hts hown hKK hI e29 (lc91 hN) (kc91 hk0) dX12_looks_4 ?_
      refine lv_icmp_ge (tgt := 37) hx hb dX12_looks_7 (by decide) (fun hc => ?_) (fun hc => ?_)
      · replace h := ite_t hc h
        refine lv_aload_n hx hb dX12_looks_37 rfl (lv_at hl 0 rfl) ?_
        refine lv_iconst (v := 0) hx hb dX12_looks_38 (by decide) ?_
        obtain ⟨G30_39, qq, h⟩ := bn_e h
        refine pt_X12_413 hx hb hts hown hKK hI e30 (lc91 hN) (kc91 hk0) dX12_looks_39 (fun σ H locs hI ew ho => ?_)
        have e30 := ew.trans qq.symm
        have e29 := (ho 29 (nn rfl)).trans e29
        have fr := frs fr ho (by decide)
        refine lv_iconst (v := 0) hx hb dX12_looks_42 (by decide) ?_
        refine lv_istore_n (lv' := [(1, .int 0), (0, .ref (HB.size + 91))]) hx hb dX12_looks_43 rfl hl (by decide) rfl (fun ls hl => ?_)
        refine lv_iconst (v := 0) hx hb dX12_looks_44 (by decide) ?_
        refine lv_istore_n (lv' := [(2, .int 0), (1, .int 0), (0, .ref (HB.size + 91))]) hx hb dX12_looks_45 rfl hl (by decide) rfl (fun ls hl => ?_)
        exact b46  F σ H locs ls G29 G30_39 0 0  hI e29 e30 fr (lv_sub hl [2, 1, 0] rfl) h
      · replace h := ite_f hc h
        refine lv_aload_n hx hb dX12_looks_10 rfl (lv_at hl 0 rfl) ?_
        refine gt_X12_384 hx hb hts hown hKK hI e30 (lc91 hN) (kc91 hk0) dX12_looks_11 ?_
        obtain ⟨v2_14, qq, h⟩ := bn_e h
        refine topi qq ?_
        refine lv_istore_n (lv' := [(2, .int v2_14), (0, .ref (HB.size + 91)), (1, .int v1)]) hx hb dX12_looks_14 rfl hl (by decide) rfl (fun ls hl => ?_)
        exact b15 k2 hk2 F σ H locs ls G29 G30 v1 v2_14  hI e29 e30 fr (lv_sub hl [1, 2, 0] rfl) h
  obtain ⟨σ, hI, e29, e30, fr⟩ : ∃ σ : St, IV HB D y n n κ σ [] s.heap ∧ σ 29 = G29 ∧ σ 30 = G30 ∧ ∀ j, j ∉ W_X12_looks → σ j = σ0 j := ⟨σ0, hI, e29, e30, fun _ _ => rfl⟩
  show WX RM_X12_looks p l e s m args below meth c HB none (B_X12_looks HB D y n κ σ0 q) s.heap [] (F0 m 0 ls [])
  generalize s.heap = H at hI ⊢
  unfold f_X12_looks at h
  obtain ⟨locs, hlocs⟩ : ∃ x : List Loc, x = [] := ⟨_, rfl⟩
  rw [← hlocs] at hI ⊢
  refine lv_iconst (v := 0) hx hb dX12_looks_0 (by decide) ?_
  refine lv_istore_n (lv' := [(1, .int 0), (0, .ref (HB.size + 91))]) hx hb dX12_looks_1 rfl hl (by decide) rfl (fun ls hl => ?_)
  exact b2  F σ H locs ls G29 G30 0  hI e29 e30 fr (lv_sub hl [1, 0] rfl) h
noncomputable def f_X12_isSign (F : Nat)  (v0 : Int32) : Option (Int32) :=
  ob (f_X12_isLetter F v0) (fun q_1 => if q_1 = 0 then ob (f_X12_isDigit F v0) (fun q_8 => if q_8 = 0 then if v0 = 32 then some 1 else if v0 = 10 then some 1 else some 0 else some 1) else some 1)
def RM_X12_isSign : Room := { frames := 1, cells := 0, slots := 0, locals := 20 }
abbrev B_X12_isSign (HB : Heap) (D : va_G) (y : Nat → ClassId) (n : Nat) (κ : Nat → Nat) (σ : St) (q : Int32) : Heap → Prop := fun H => IV HB D y n n κ σ [] H
set_option maxRecDepth 100000 in
set_option maxHeartbeats 4000000 in
theorem c_X12_isSign (l : Launch) (HB : Heap) (D : va_G) (y : Nat → ClassId) (F n : Nat) (κ : Nat → Nat) (σ : St) (hN : N0 ≤ n) (v0 : Int32)   (q : Int32) (h : f_X12_isSign F v0 = some q) : MT l HB D y yX12_isSign cX12_isSign 1 (some .boolean) RM_X12_isSign [.int v0] (IV HB D y n n κ σ []) (some (.int q)) (B_X12_isSign HB D y n κ σ q) := by
  refine Met.ofW (cc := cX12_isSign) (maxL := 1) (ret := (some .boolean)) (by decide) rfl ?_
  intro p e s m args below meth c s₁ BL hml hv
  obtain ⟨rfl, hI, hKK⟩ := hv
  have hx := BL.exec
  have hb := BL.bytes
  have hr := BL.returns
  have hts : ∀ w ∈ gtb, w.before _ s = true := fun w hw => atoms_spec BL.pre w (List.mem_cons_of_mem _ hw)
  have hml : c.maxLocals = 1 := hml
  have hown : s.vm.findClass RX12 = some m.cls := findClass_of_methodNamed BL.named
  have hlocks := BL.notSynchronized
  have hk0 := hI.1.2.2.2.2
  have hl := lv_entry ([.int v0]) (n := 1) (Nat.le_of_ble_eq_true rfl)
  rw [lg_entry_eq]
  generalize (lg_sl ([.int v0]) ++ List.replicate (1 - (lg_sl ([.int v0])).length) Slot.unset).toArray = ls at hl ⊢
  have hl : lv_has ls 1 [(0, .int v0)] := hl
  generalize hargs : ([.int v0] : List Value).toArray = args at *
  show WX RM_X12_isSign p l e s m args below meth c HB (some (.int q)) (B_X12_isSign HB D y n κ σ q) s.heap [] (F0 m 0 ls [])
  generalize s.heap = H at hI ⊢
  unfold f_X12_isSign at h
  obtain ⟨locs, hlocs⟩ : ∃ x : List Loc, x = [] := ⟨_, rfl⟩
  rw [← hlocs] at hI ⊢
  refine lv_iload_n hx hb dX12_isSign_0 rfl (lv_at hl 0 rfl) ?_
  obtain ⟨q_1, hq_1, h⟩ := ob_e h
  refine r_callS (As := [.int v0]) (rest := []) hx hb hml hts hown (c_X12_isLetter l HB D y F n κ σ hN v0  q_1 hq_1) cal_X12_isLetter st_X12_isLetter lm_X12_340 ⟨Nat.le_of_ble_eq_true rfl, Nat.le_of_ble_eq_true rfl⟩ hI.nil hKK rfl hl.1 hI.2.2 rfl (Nat.le_of_ble_eq_true rfl) dX12_isSign_1 ⟨Nat.le_of_ble_eq_true rfl, Nat.le_of_ble_eq_true rfl⟩ rfl rfl rfl (fun H locs hB hlo => ?_)
  have hI := hB.re hlo
  refine lv_if_ne (tgt := 26) hx hb dX12_isSign_4 (by decide) (fun hc => ?_) (fun hc => ?_)
  · replace h := ite_f hc h
    refine lv_iconst (v := 1) hx hb dX12_isSign_26 (by decide) ?_
    refine lv_goto (tgt := 31) hx hb dX12_isSign_27 (by decide) ?_
    have hq := Option.some.inj h
    exact W.zret (v := 1) (ty := .boolean) hx hb hr rfl (fun t ht hW => qc_mk (congrArg (fun z => Outcome.returned (some (Value.int z))) hq) (by rw [ht]; exact hI.nil)) hI.2.2 dX12_isSign_31 hlocks
  · replace h := ite_t hc h
    refine lv_iload_n hx hb dX12_isSign_7 rfl (lv_at hl 0 rfl) ?_
    obtain ⟨q_8, hq_8, h⟩ := ob_e h
    refine r_callS (As := [.int v0]) (rest := []) hx hb hml hts hown (c_X12_isDigit l HB D y F n κ σ hN v0  q_8 hq_8) cal_X12_isDigit st_X12_isDigit lm_X12_343 ⟨Nat.le_of_ble_eq_true rfl, Nat.le_of_ble_eq_true rfl⟩ hI.nil hKK rfl hl.1 hI.2.2 rfl (Nat.le_of_ble_eq_true rfl) dX12_isSign_8 ⟨Nat.le_of_ble_eq_true rfl, Nat.le_of_ble_eq_true rfl⟩ rfl rfl rfl (fun H locs hB hlo => ?_)
    have hI := hB.re hlo
    refine lv_if_ne (tgt := 26) hx hb dX12_isSign_11 (by decide) (fun hc => ?_) (fun hc => ?_)
    · replace h := ite_f hc h
      refine lv_iconst (v := 1) hx hb dX12_isSign_26 (by decide) ?_
      refine lv_goto (tgt := 31) hx hb dX12_isSign_27 (by decide) ?_
      have hq := Option.some.inj h
      exact W.zret (v := 1) (ty := .boolean) hx hb hr rfl (fun t ht hW => qc_mk (congrArg (fun z => Outcome.returned (some (Value.int z))) hq) (by rw [ht]; exact hI.nil)) hI.2.2 dX12_isSign_31 hlocks
    · replace h := ite_t hc h
      refine lv_iload_n hx hb dX12_isSign_14 rfl (lv_at hl 0 rfl) ?_
      refine lv_bipush (v := 32) hx hb dX12_isSign_15 (by decide) ?_
      refine lv_icmp_eq (tgt := 26) hx hb dX12_isSign_17 (by decide) (fun hc => ?_) (fun hc => ?_)
      · replace h := ite_t hc h
        refine lv_iconst (v := 1) hx hb dX12_isSign_26 (by decide) ?_
        refine lv_goto (tgt := 31) hx hb dX12_isSign_27 (by decide) ?_
        have hq := Option.some.inj h
        exact W.zret (v := 1) (ty := .boolean) hx hb hr rfl (fun t ht hW => qc_mk (congrArg (fun z => Outcome.returned (some (Value.int z))) hq) (by rw [ht]; exact hI.nil)) hI.2.2 dX12_isSign_31 hlocks
      · replace h := ite_f hc h
        refine lv_iload_n hx hb dX12_isSign_20 rfl (lv_at hl 0 rfl) ?_
        refine lv_bipush (v := 10) hx hb dX12_isSign_21 (by decide) ?_
        refine lv_icmp_ne (tgt := 30) hx hb dX12_isSign_23 (by decide) (fun hc => ?_) (fun hc => ?_)
        · replace h := ite_f hc h
          refine lv_iconst (v := 0) hx hb dX12_isSign_30 (by decide) ?_
          have hq := Option.some.inj h
          exact W.zret (v := 0) (ty := .boolean) hx hb hr rfl (fun t ht hW => qc_mk (congrArg (fun z => Outcome.returned (some (Value.int z))) hq) (by rw [ht]; exact hI.nil)) hI.2.2 dX12_isSign_31 hlocks
        · replace h := ite_t hc h
          refine lv_iconst (v := 1) hx hb dX12_isSign_26 (by decide) ?_
          refine lv_goto (tgt := 31) hx hb dX12_isSign_27 (by decide) ?_
          have hq := Option.some.inj h
          exact W.zret (v := 1) (ty := .boolean) hx hb hr rfl (fun t ht hW => qc_mk (congrArg (fun z => Outcome.returned (some (Value.int z))) hq) (by rw [ht]; exact hI.nil)) hI.2.2 dX12_isSign_31 hlocks
noncomputable def f_X12_isText_l23b (F : Nat)  (k23 : Grp → Int32 → Int32 → Option (Int32)) (G27 : Grp) (v1 : Int32) (v2 : Int32) : Option (Int32) :=
  if v1 ≤ v2 then some 1 else ck v2 240 (ob (f_X12_isSign F (G27.1 106 v2.toNatClampNeg)) (fun q_34 => if q_34 = 0 then some 0 else bn (v2 + 1) (fun v2_42 => k23 G27 v1 v2_42)))
noncomputable def f_X12_isText_l23 (F : Nat)  (fu : Nat) : Grp → Int32 → Int32 → Option (Int32) := Nat.rec (motive := fun _ => Grp → Int32 → Int32 → Option (Int32)) (fun _ _ _ => none) (fun _ ih => f_X12_isText_l23b F  ih) fu
noncomputable def f_X12_isText (F : Nat) (G27 : Grp) (v1 : Int32) : Option (Int32) :=
  ob (f_X12_in F v1 1 160) (fun q_5 => if q_5 = 0 then some 0 else if v1 ≤ (G27.1 91 20) then f_X12_isText_l23 F  F G27 v1 0 else some 0)
def RM_X12_isText : Room := { frames := 2, cells := 0, slots := 0, locals := 40 }
abbrev B_X12_isText (HB : Heap) (D : va_G) (y : Nat → ClassId) (n : Nat) (κ : Nat → Nat) (σ : St) (q : Int32) : Heap → Prop := fun H => IV HB D y n n κ σ [] H
set_option maxRecDepth 100000 in
set_option maxHeartbeats 4000000 in
theorem c_X12_isText (l : Launch) (HB : Heap) (D : va_G) (y : Nat → ClassId) (F n : Nat) (κ : Nat → Nat) (σ : St) (hN : N0 ≤ n) (v1 : Int32)  (G27 : Grp) (e27 : σ 27 = G27) (q : Int32) (h : f_X12_isText F G27 v1 = some q) : MT l HB D y yX12_isText cX12_isText 3 (some .boolean) RM_X12_isText [.ref (HB.size + 91), .int v1] (IV HB D y n n κ σ []) (some (.int q)) (B_X12_isText HB D y n κ σ q) := by
  refine Met.ofW (cc := cX12_isText) (maxL := 3) (ret := (some .boolean)) (by decide) rfl ?_
  intro p e s m args below meth c s₁ BL hml hv
  obtain ⟨rfl, hI, hKK⟩ := hv
  have hx := BL.exec
  have hb := BL.bytes
  have hr := BL.returns
  have hts : ∀ w ∈ gtb, w.before _ s = true := fun w hw => atoms_spec BL.pre w (List.mem_cons_of_mem _ hw)
  have hml : c.maxLocals = 3 := hml
  have hown : s.vm.findClass RX12 = some m.cls := findClass_of_methodNamed BL.named
  have hlocks := BL.notSynchronized
  have hk0 := hI.1.2.2.2.2
  have hl := lv_entry ([.ref (HB.size + 91), .int v1]) (n := 3) (Nat.le_of_ble_eq_true rfl)
  rw [lg_entry_eq]
  generalize (lg_sl ([.ref (HB.size + 91), .int v1]) ++ List.replicate (3 - (lg_sl ([.ref (HB.size + 91), .int v1])).length) Slot.unset).toArray = ls at hl ⊢
  have hl : lv_has ls 3 [(0, .ref (HB.size + 91)), (1, .int v1)] := hl
  generalize hargs : ([.ref (HB.size + 91), .int v1] : List Value).toArray = args at *
  have b23 : ∀ (fu : Nat) (H : Heap) (locs : List Loc) (ls : Array Slot) (G27 : Grp) (v1 : Int32) (v2 : Int32) , IV HB D y n n κ σ locs H → σ 27 = G27 → lv_has ls 3 [(0, .ref (HB.size + 91)), (1, .int v1), (2, .int v2)] → f_X12_isText_l23 F  fu G27 v1 v2 = some q → WX RM_X12_isText p l e s m args below meth c HB (some (.int q)) (B_X12_isText HB D y n κ σ q) H locs (F0 m 23 ls []) := by
    intro  fu
    induction fu with
    | zero =>
      intro H locs ls G27 v1 v2 hI e27 hl h
      exact absurd h (by intro h; cases h)
    | succ fu hk23 =>
      intro H locs ls G27 v1 v2 hI e27 hl h
      have h : f_X12_isText_l23b F  (f_X12_isText_l23 F  fu) G27 v1 v2 = some q := h
      generalize f_X12_isText_l23 F  fu = k23 at h hk23
      unfold f_X12_isText_l23b at h
      refine lv_iload_n hx hb dX12_isText_23 rfl (lv_at hl 2 rfl) ?_
      refine lv_iload_n hx hb dX12_isText_24 rfl (lv_at hl 1 rfl) ?_
      refine lv_icmp_ge (tgt := 48) hx hb dX12_isText_25 (by decide) (fun hc => ?_) (fun hc => ?_)
      · replace h := ite_t hc h
        refine lv_iconst (v := 1) hx hb dX12_isText_48 (by decide) ?_
        have hq := Option.some.inj h
        exact W.zret (v := 1) (ty := .boolean) hx hb hr rfl (fun t ht hW => qc_mk (congrArg (fun z => Outcome.returned (some (Value.int z))) hq) (by rw [ht]; exact hI.nil)) hI.2.2 dX12_isText_49 hlocks
      · replace h := ite_f hc h
        refine lv_aload_n hx hb dX12_isText_28 rfl (lv_at hl 0 rfl) ?_
        refine gf_X12_52 hx hb hts hown hKK hI hN dX12_isText_29 ?_
        refine lv_iload_n hx hb dX12_isText_32 rfl (lv_at hl 2 rfl) ?_
        obtain ⟨hin_, h⟩ := ck_e h
        refine la_46 hx hb hKK hI e27 (lc106 hN) (kc106 hk0) hin_ dX12_isText_33 ?_
        obtain ⟨q_34, hq_34, h⟩ := ob_e h
        refine r_callS (As := [.int (G27.1 106 v2.toNatClampNeg)]) (rest := []) hx hb hml hts hown (c_X12_isSign l HB D y F n κ σ hN (G27.1 106 v2.toNatClampNeg)  q_34 hq_34) cal_X12_isSign st_X12_isSign lm_X12_419 ⟨Nat.le_of_ble_eq_true rfl, Nat.le_of_ble_eq_true rfl⟩ hI.nil hKK rfl hl.1 hI.2.2 rfl (Nat.le_of_ble_eq_true rfl) dX12_isText_34 ⟨Nat.le_of_ble_eq_true rfl, Nat.le_of_ble_eq_true rfl⟩ rfl rfl rfl (fun H locs hB hlo => ?_)
        have hI := hB.re hlo
        refine lv_if_ne (tgt := 42) hx hb dX12_isText_37 (by decide) (fun hc => ?_) (fun hc => ?_)
        · replace h := ite_f hc h
          obtain ⟨v2_42, qq, h⟩ := bn_e h
          refine lv_iinc (v := v2_42) (lv' := [(2, .int v2_42), (0, .ref (HB.size + 91)), (1, .int v1)]) hx hb dX12_isText_42 hl (k := 2) rfl (by rw [qq]; rfl) (by decide) rfl (fun ls hl => ?_)
          refine lv_goto (tgt := 23) hx hb dX12_isText_45 (by decide) ?_
          exact hk23 H locs ls G27 v1 v2_42  hI e27 (lv_sub hl [1, 2, 0] rfl) h
        · replace h := ite_t hc h
          refine lv_iconst (v := 0) hx hb dX12_isText_40 (by decide) ?_
          have hq := Option.some.inj h
          exact W.zret (v := 0) (ty := .boolean) hx hb hr rfl (fun t ht hW => qc_mk (congrArg (fun z => Outcome.returned (some (Value.int z))) hq) (by rw [ht]; exact hI.nil)) hI.2.2 dX12_isText_41 hlocks
  show WX RM_X12_isText p l e s m args below meth c HB (some (.int q)) (B_X12_isText HB D y n κ σ q) s.heap [] (F0 m 0 ls [])
  generalize s.heap = H at hI ⊢
  unfold f_X12_isText at h
  obtain ⟨locs, hlocs⟩ : ∃ x : List Loc, x = [] := ⟨_, rfl⟩
  rw [← hlocs] at hI ⊢
  refine lv_iload_n hx hb dX12_isText_0 rfl (lv_at hl 1 rfl) ?_
  refine lv_iconst (v := 1) hx hb dX12_isText_1 (by decide) ?_
  refine lv_sipush (v := 160) hx hb dX12_isText_2 (by decide) ?_
  obtain ⟨q_5, hq_5, h⟩ := ob_e h
  refine r_callS (As := [.int v1, .int 1, .int 160]) (rest := []) hx hb hml hts hown (c_X12_in l HB D y F n κ σ hN v1 1 160  q_5 hq_5) cal_X12_in st_X12_in lm_X12_260 ⟨Nat.le_of_ble_eq_true rfl, Nat.le_of_ble_eq_true rfl⟩ hI.nil hKK rfl hl.1 hI.2.2 rfl (Nat.le_of_ble_eq_true rfl) dX12_isText_5 ⟨Nat.le_of_ble_eq_true rfl, Nat.le_of_ble_eq_true rfl⟩ rfl rfl rfl (fun H locs hB hlo => ?_)
  have hI := hB.re hlo
  refine lv_if_eq (tgt := 19) hx hb dX12_isText_8 (by decide) (fun hc => ?_) (fun hc => ?_)
  · replace h := ite_t hc h
    refine lv_iconst (v := 0) hx hb dX12_isText_19 (by decide) ?_
    have hq := Option.some.inj h
    exact W.zret (v := 0) (ty := .boolean) hx hb hr rfl (fun t ht hW => qc_mk (congrArg (fun z => Outcome.returned (some (Value.int z))) hq) (by rw [ht]; exact hI.nil)) hI.2.2 dX12_isText_20 hlocks
  · replace h := ite_f hc h
    refine lv_iload_n hx hb dX12_isText_11 rfl (lv_at hl 1 rfl) ?_
    refine lv_aload_n hx hb dX12_isText_12 rfl (lv_at hl 0 rfl) ?_
    refine gt_X12_311 hx hb hts hown hKK hI e27 (lc91 hN) (kc91 hk0) dX12_isText_13 ?_
    refine lv_icmp_le (tgt := 21) hx hb dX12_isText_16 (by decide) (fun hc => ?_) (fun hc => ?_)
    · replace h := ite_t hc h
      refine lv_iconst (v := 0) hx hb dX12_isText_21 (by decide) ?_
      refine lv_istore_n (lv' := [(2, .int 0), (0, .ref (HB.size + 91)), (1, .int v1)]) hx hb dX12_isText_22 rfl hl (by decide) rfl (fun ls hl => ?_)
      exact b23  F H locs ls G27 v1 0  hI e27 (lv_sub hl [1, 2, 0] rfl) h
    · replace h := ite_f hc h
      refine lv_iconst (v := 0) hx hb dX12_isText_19 (by decide) ?_
      have hq := Option.some.inj h
      exact W.zret (v := 0) (ty := .boolean) hx hb hr rfl (fun t ht hW => qc_mk (congrArg (fun z => Outcome.returned (some (Value.int z))) hq) (by rw [ht]; exact hI.nil)) hI.2.2 dX12_isText_20 hlocks
noncomputable def f_X12_look_l54b (F : Nat)  (k54 : Grp → Grp → Grp → Grp → Int32 → Option (Int32 × Grp × Grp)) (G27 : Grp) (G29 : Grp) (G30 : Grp) (G31 : Grp) (v2 : Int32) : Option (Int32 × Grp × Grp) :=
  if (G30.1 91 51) ≤ v2 then some ((G30.1 91 51), G30, G31) else ck v2 160 (ck v2 160 (bn (gI G31 128 v2.toNatClampNeg (G30.1 124 v2.toNatClampNeg)) (fun G31_73 => ck v2 160 (ck v2 160 (bn (gI G31_73 129 v2.toNatClampNeg (G30.1 125 v2.toNatClampNeg)) (fun G31_85 => ck v2 160 (ck v2 160 (bn (gI G31_85 130 v2.toNatClampNeg (G30.1 126 v2.toNatClampNeg)) (fun G31_97 => ck v2 160 (ck v2 160 (bn (gI G31_97 131 v2.toNatClampNeg (G30.1 127 v2.toNatClampNeg)) (fun G31_109 => bn (v2 + 1) (fun v2_110 => k54 G27 G29 G30 G31_109 v2_110)))))))))))))
noncomputable def f_X12_look_l54 (F : Nat)  (fu : Nat) : Grp → Grp → Grp → Grp → Int32 → Option (Int32 × Grp × Grp) := Nat.rec (motive := fun _ => Grp → Grp → Grp → Grp → Int32 → Option (Int32 × Grp × Grp)) (fun _ _ _ _ _ => none) (fun _ ih => f_X12_look_l54b F  ih) fu
noncomputable def f_X12_look_l17b (F : Nat)  (k17 : Grp → Grp → Grp → Grp → Int32 → Int32 → Option (Int32 × Grp × Grp)) (G27 : Grp) (G29 : Grp) (G30 : Grp) (G31 : Grp) (v1 : Int32) (v2 : Int32) : Option (Int32 × Grp × Grp) :=
  if v1 ≤ v2 then ob (f_X12_looks F G29 G30) (fun q_41 => bn (gI G31 91 52 (q_41.1 91 51)) (fun G31_49 => f_X12_look_l54 F  F G27 G29 q_41 G31_49 0)) else ck v2 240 (ck v2 160 (bn (gI G30 123 v2.toNatClampNeg (vp_nar .byte (G27.1 106 v2.toNatClampNeg))) (fun G30_33 => bn (v2 + 1) (fun v2_34 => k17 G27 G29 G30_33 G31 v1 v2_34))))
noncomputable def f_X12_look_l17 (F : Nat)  (fu : Nat) : Grp → Grp → Grp → Grp → Int32 → Int32 → Option (Int32 × Grp × Grp) := Nat.rec (motive := fun _ => Grp → Grp → Grp → Grp → Int32 → Int32 → Option (Int32 × Grp × Grp)) (fun _ _ _ _ _ _ => none) (fun _ ih => f_X12_look_l17b F  ih) fu
noncomputable def f_X12_look (F : Nat) (G27 : Grp) (G29 : Grp) (G30 : Grp) (G31 : Grp) (v1 : Int32) : Option (Int32 × Grp × Grp) :=
  ob (f_X12_isText F G27 v1) (fun q_2 => if q_2 = 0 then some ((-1), G30, G31) else bn (gI G30 91 46 v1) (fun G30_12 => f_X12_look_l17 F  F G27 G29 G30_12 G31 v1 0))
def RM_X12_look : Room := { frames := 4, cells := 0, slots := 0, locals := 98 }
abbrev W_X12_look : List Nat := [30, 31]
abbrev B_X12_look (HB : Heap) (D : va_G) (y : Nat → ClassId) (n : Nat) (κ : Nat → Nat) (σ0 : St) (q : Int32 × Grp × Grp) : Heap → Prop := fun H => ∃ σ : St, IV HB D y n n κ σ [] H ∧ σ 30 = q.2.1 ∧ σ 31 = q.2.2 ∧ ∀ j, j ∉ W_X12_look → σ j = σ0 j
set_option maxRecDepth 100000 in
set_option maxHeartbeats 4000000 in
theorem c_X12_look (l : Launch) (HB : Heap) (D : va_G) (y : Nat → ClassId) (F n : Nat) (κ : Nat → Nat) (σ0 : St) (hN : N0 ≤ n) (v1 : Int32)  (G27 : Grp) (e27 : σ0 27 = G27) (G29 : Grp) (e29 : σ0 29 = G29) (G30 : Grp) (e30 : σ0 30 = G30) (G31 : Grp) (e31 : σ0 31 = G31) (q : Int32 × Grp × Grp) (h : f_X12_look F G27 G29 G30 G31 v1 = some q) : MT l HB D y yX12_look cX12_look 3 (some .int) RM_X12_look [.ref (HB.size + 91), .int v1] (IV HB D y n n κ σ0 []) (some (.int q.1)) (B_X12_look HB D y n κ σ0 q) := by
  refine Met.ofW (cc := cX12_look) (maxL := 3) (ret := (some .int)) (by decide) rfl ?_
  intro p e s m args below meth c s₁ BL hml hv
  obtain ⟨rfl, hI, hKK⟩ := hv
  have hx := BL.exec
  have hb := BL.bytes
  have hr := BL.returns
  have hts : ∀ w ∈ gtb, w.before _ s = true := fun w hw => atoms_spec BL.pre w (List.mem_cons_of_mem _ hw)
  have hml : c.maxLocals = 3 := hml
  have hown : s.vm.findClass RX12 = some m.cls := findClass_of_methodNamed BL.named
  have hlocks := BL.notSynchronized
  have hk0 := hI.1.2.2.2.2
  have hl := lv_entry ([.ref (HB.size + 91), .int v1]) (n := 3) (Nat.le_of_ble_eq_true rfl)
  rw [lg_entry_eq]
  generalize (lg_sl ([.ref (HB.size + 91), .int v1]) ++ List.replicate (3 - (lg_sl ([.ref (HB.size + 91), .int v1])).length) Slot.unset).toArray = ls at hl ⊢
  have hl : lv_has ls 3 [(0, .ref (HB.size + 91)), (1, .int v1)] := hl
  generalize hargs : ([.ref (HB.size + 91), .int v1] : List Value).toArray = args at *
  have b54 : ∀ (fu : Nat) (σ : St) (H : Heap) (locs : List Loc) (ls : Array Slot) (G27 : Grp) (G29 : Grp) (G30 : Grp) (G31 : Grp) (v2 : Int32) , IV HB D y n n κ σ locs H → σ 27 = G27 → σ 29 = G29 → σ 30 = G30 → σ 31 = G31 → (∀ j, j ∉ W_X12_look → σ j = σ0 j) → lv_has ls 3 [(0, .ref (HB.size + 91)), (2, .int v2)] → f_X12_look_l54 F  fu G27 G29 G30 G31 v2 = some q → WX RM_X12_look p l e s m args below meth c HB (some (.int q.1)) (B_X12_look HB D y n κ σ0 q) H locs (F0 m 54 ls []) := by
    intro  fu
    induction fu with
    | zero =>
      intro σ H locs ls G27 G29 G30 G31 v2 hI e27 e29 e30 e31 fr hl h
      exact absurd h (by intro h; cases h)
    | succ fu hk54 =>
      intro σ H locs ls G27 G29 G30 G31 v2 hI e27 e29 e30 e31 fr hl h
      have h : f_X12_look_l54b F  (f_X12_look_l54 F  fu) G27 G29 G30 G31 v2 = some q := h
      generalize f_X12_look_l54 F  fu = k54 at h hk54
      unfold f_X12_look_l54b at h
      refine lv_iload_n hx hb dX12_look_54 rfl (lv_at hl 1 rfl) ?_
      refine lv_aload_n hx hb dX12_look_55 rfl (lv_at hl 0 rfl) ?_
      refine gt_X12_413 hx hb hts hown hKK hI e30 (lc91 hN) (kc91 hk0) dX12_look_56 ?_
      refine lv_icmp_ge (tgt := 116) hx hb dX12_look_59 (by decide) (fun hc => ?_) (fun hc => ?_)
      · replace h := ite_t hc h
        refine lv_aload_n hx hb dX12_look_116 rfl (lv_at hl 0 rfl) ?_
        refine gt_X12_413 hx hb hts hown hKK hI e30 (lc91 hN) (kc91 hk0) dX12_look_117 ?_
        have hq := Option.some.inj h
        exact W.iret (v := (G30.1 91 51)) hx hb hr (fun t ht hW => qc_mk (congrArg (fun z => Outcome.returned (some (Value.int z.1))) hq) (by rw [ht]; exact ⟨σ, hI.nil, e30.trans (congrArg (fun z => z.2.1) hq), e31.trans (congrArg (fun z => z.2.2) hq), fr⟩)) hI.2.2 dX12_look_120 hlocks
      · replace h := ite_f hc h
        refine lv_aload_n hx hb dX12_look_62 rfl (lv_at hl 0 rfl) ?_
        refine gf_X12_121 hx hb hts hown hKK hI hN dX12_look_63 ?_
        refine lv_iload_n hx hb dX12_look_66 rfl (lv_at hl 1 rfl) ?_
        refine lv_aload_n hx hb dX12_look_67 rfl (lv_at hl 0 rfl) ?_
        refine gf_X12_109 hx hb hts hown hKK hI hN dX12_look_68 ?_
        refine lv_iload_n hx hb dX12_look_71 rfl (lv_at hl 1 rfl) ?_
        obtain ⟨hin_, h⟩ := ck_e h
        refine la_55 hx hb hKK hI e30 (lc124 hN) (kc124 hk0) hin_ dX12_look_72 ?_
        obtain ⟨hin_, h⟩ := ck_e h
        obtain ⟨G31_73, qq, h⟩ := bn_e h
        refine sa_56 hx hb hKK hI e31 (lc128 hN) (kc128 hk0) hin_ dX12_look_73 (fun σ H locs hI ew ho => ?_)
        have e31 := ew.trans qq.symm
        have e27 := (ho 27 (nn rfl)).trans e27
        have e29 := (ho 29 (nn rfl)).trans e29
        have e30 := (ho 30 (nn rfl)).trans e30
        have fr := frs fr ho (by decide)
        refine lv_aload_n hx hb dX12_look_74 rfl (lv_at hl 0 rfl) ?_
        refine gf_X12_124 hx hb hts hown hKK hI hN dX12_look_75 ?_
        refine lv_iload_n hx hb dX12_look_78 rfl (lv_at hl 1 rfl) ?_
        refine lv_aload_n hx hb dX12_look_79 rfl (lv_at hl 0 rfl) ?_
        refine gf_X12_112 hx hb hts hown hKK hI hN dX12_look_80 ?_
        refine lv_iload_n hx hb dX12_look_83 rfl (lv_at hl 1 rfl) ?_
        obtain ⟨hin_, h⟩ := ck_e h
        refine la_55 hx hb hKK hI e30 (lc125 hN) (kc125 hk0) hin_ dX12_look_84 ?_
        obtain ⟨hin_, h⟩ := ck_e h
        obtain ⟨G31_85, qq, h⟩ := bn_e h
        refine sa_56 hx hb hKK hI e31 (lc129 hN) (kc129 hk0) hin_ dX12_look_85 (fun σ H locs hI ew ho => ?_)
        have e31 := ew.trans qq.symm
        have e27 := (ho 27 (nn rfl)).trans e27
        have e29 := (ho 29 (nn rfl)).trans e29
        have e30 := (ho 30 (nn rfl)).trans e30
        have fr := frs fr ho (by decide)
        refine lv_aload_n hx hb dX12_look_86 rfl (lv_at hl 0 rfl) ?_
        refine gf_X12_127 hx hb hts hown hKK hI hN dX12_look_87 ?_
        refine lv_iload_n hx hb dX12_look_90 rfl (lv_at hl 1 rfl) ?_
        refine lv_aload_n hx hb dX12_look_91 rfl (lv_at hl 0 rfl) ?_
        refine gf_X12_115 hx hb hts hown hKK hI hN dX12_look_92 ?_
        refine lv_iload_n hx hb dX12_look_95 rfl (lv_at hl 1 rfl) ?_
        obtain ⟨hin_, h⟩ := ck_e h
        refine la_55 hx hb hKK hI e30 (lc126 hN) (kc126 hk0) hin_ dX12_look_96 ?_
        obtain ⟨hin_, h⟩ := ck_e h
        obtain ⟨G31_97, qq, h⟩ := bn_e h
        refine sa_56 hx hb hKK hI e31 (lc130 hN) (kc130 hk0) hin_ dX12_look_97 (fun σ H locs hI ew ho => ?_)
        have e31 := ew.trans qq.symm
        have e27 := (ho 27 (nn rfl)).trans e27
        have e29 := (ho 29 (nn rfl)).trans e29
        have e30 := (ho 30 (nn rfl)).trans e30
        have fr := frs fr ho (by decide)
        refine lv_aload_n hx hb dX12_look_98 rfl (lv_at hl 0 rfl) ?_
        refine gf_X12_130 hx hb hts hown hKK hI hN dX12_look_99 ?_
        refine lv_iload_n hx hb dX12_look_102 rfl (lv_at hl 1 rfl) ?_
        refine lv_aload_n hx hb dX12_look_103 rfl (lv_at hl 0 rfl) ?_
        refine gf_X12_118 hx hb hts hown hKK hI hN dX12_look_104 ?_
        refine lv_iload_n hx hb dX12_look_107 rfl (lv_at hl 1 rfl) ?_
        obtain ⟨hin_, h⟩ := ck_e h
        refine la_55 hx hb hKK hI e30 (lc127 hN) (kc127 hk0) hin_ dX12_look_108 ?_
        obtain ⟨hin_, h⟩ := ck_e h
        obtain ⟨G31_109, qq, h⟩ := bn_e h
        refine sa_56 hx hb hKK hI e31 (lc131 hN) (kc131 hk0) hin_ dX12_look_109 (fun σ H locs hI ew ho => ?_)
        have e31 := ew.trans qq.symm
        have e27 := (ho 27 (nn rfl)).trans e27
        have e29 := (ho 29 (nn rfl)).trans e29
        have e30 := (ho 30 (nn rfl)).trans e30
        have fr := frs fr ho (by decide)
        obtain ⟨v2_110, qq, h⟩ := bn_e h
        refine lv_iinc (v := v2_110) (lv' := [(2, .int v2_110), (0, .ref (HB.size + 91))]) hx hb dX12_look_110 hl (k := 1) rfl (by rw [qq]; rfl) (by decide) rfl (fun ls hl => ?_)
        refine lv_goto (tgt := 54) hx hb dX12_look_113 (by decide) ?_
        exact hk54 σ H locs ls G27 G29 G30 G31_109 v2_110  hI e27 e29 e30 e31 fr (lv_sub hl [1, 0] rfl) h
  have b17 : ∀ (fu : Nat) (σ : St) (H : Heap) (locs : List Loc) (ls : Array Slot) (G27 : Grp) (G29 : Grp) (G30 : Grp) (G31 : Grp) (v1 : Int32) (v2 : Int32) , IV HB D y n n κ σ locs H → σ 27 = G27 → σ 29 = G29 → σ 30 = G30 → σ 31 = G31 → (∀ j, j ∉ W_X12_look → σ j = σ0 j) → lv_has ls 3 [(0, .ref (HB.size + 91)), (1, .int v1), (2, .int v2)] → f_X12_look_l17 F  fu G27 G29 G30 G31 v1 v2 = some q → WX RM_X12_look p l e s m args below meth c HB (some (.int q.1)) (B_X12_look HB D y n κ σ0 q) H locs (F0 m 17 ls []) := by
    intro  fu
    induction fu with
    | zero =>
      intro σ H locs ls G27 G29 G30 G31 v1 v2 hI e27 e29 e30 e31 fr hl h
      exact absurd h (by intro h; cases h)
    | succ fu hk17 =>
      intro σ H locs ls G27 G29 G30 G31 v1 v2 hI e27 e29 e30 e31 fr hl h
      have h : f_X12_look_l17b F  (f_X12_look_l17 F  fu) G27 G29 G30 G31 v1 v2 = some q := h
      generalize f_X12_look_l17 F  fu = k17 at h hk17
      unfold f_X12_look_l17b at h
      refine lv_iload_n hx hb dX12_look_17 rfl (lv_at hl 2 rfl) ?_
      refine lv_iload_n hx hb dX12_look_18 rfl (lv_at hl 1 rfl) ?_
      refine lv_icmp_ge (tgt := 40) hx hb dX12_look_19 (by decide) (fun hc => ?_) (fun hc => ?_)
      · replace h := ite_t hc h
        refine lv_aload_n hx hb dX12_look_40 rfl (lv_at hl 0 rfl) ?_
        obtain ⟨q_41, hq_41, h⟩ := ob_e h
        refine r_callV (As := []) (rest := []) hx hb hml hts hown (c_X12_looks l HB D y F n κ σ hN  G29 e29 G30 e30 q_41 hq_41) cal_X12_looks im_X12_looks se_X12_looks lm_X12_425 ⟨Nat.le_of_ble_eq_true rfl, Nat.le_of_ble_eq_true rfl⟩ hI.nil hKK (r_recv hKK hI (hE12 HB.size y) rfl (lc91 hN) (kc91 hk0)) rfl hl.1 hI.2.2 rfl (Nat.le_of_ble_eq_true rfl) dX12_look_41 ⟨Nat.le_of_ble_eq_true rfl, Nat.le_of_ble_eq_true rfl⟩ rfl rfl rfl (fun H locs hB hlo => ?_)
        obtain ⟨σ, hB, en30, ho⟩ := hB
        have hI := hB.re hlo
        have e30 := en30
        have e27 := (ho 27 (ni rfl)).trans e27
        have e29 := (ho 29 (ni rfl)).trans e29
        have e31 := (ho 31 (ni rfl)).trans e31
        have fr := frc fr ho (by decide)
        refine lv_aload_n hx hb dX12_look_44 rfl (lv_at hl 0 rfl) ?_
        refine lv_aload_n hx hb dX12_look_45 rfl (lv_at hl 0 rfl) ?_
        refine gt_X12_413 hx hb hts hown hKK hI e30 (lc91 hN) (kc91 hk0) dX12_look_46 ?_
        obtain ⟨G31_49, qq, h⟩ := bn_e h
        refine pt_X12_428 hx hb hts hown hKK hI e31 (lc91 hN) (kc91 hk0) dX12_look_49 (fun σ H locs hI ew ho => ?_)
        have e31 := ew.trans qq.symm
        have e27 := (ho 27 (nn rfl)).trans e27
        have e29 := (ho 29 (nn rfl)).trans e29
        have e30 := (ho 30 (nn rfl)).trans e30
        have fr := frs fr ho (by decide)
        refine lv_iconst (v := 0) hx hb dX12_look_52 (by decide) ?_
        refine lv_istore_n (lv' := [(2, .int 0), (0, .ref (HB.size + 91)), (1, .int v1)]) hx hb dX12_look_53 rfl hl (by decide) rfl (fun ls hl => ?_)
        exact b54  F σ H locs ls G27 G29 q_41 G31_49 0  hI e27 e29 e30 e31 fr (lv_sub hl [1, 0] rfl) h
      · replace h := ite_f hc h
        refine lv_aload_n hx hb dX12_look_22 rfl (lv_at hl 0 rfl) ?_
        refine gf_X12_106 hx hb hts hown hKK hI hN dX12_look_23 ?_
        refine lv_iload_n hx hb dX12_look_26 rfl (lv_at hl 2 rfl) ?_
        refine lv_aload_n hx hb dX12_look_27 rfl (lv_at hl 0 rfl) ?_
        refine gf_X12_52 hx hb hts hown hKK hI hN dX12_look_28 ?_
        refine lv_iload_n hx hb dX12_look_31 rfl (lv_at hl 2 rfl) ?_
        obtain ⟨hin_, h⟩ := ck_e h
        refine la_46 hx hb hKK hI e27 (lc106 hN) (kc106 hk0) hin_ dX12_look_32 ?_
        obtain ⟨hin_, h⟩ := ck_e h
        obtain ⟨G30_33, qq, h⟩ := bn_e h
        refine sa_54 hx hb hKK hI e30 (lc123 hN) (kc123 hk0) hin_ dX12_look_33 (fun σ H locs hI ew ho => ?_)
        have e30 := ew.trans qq.symm
        have e27 := (ho 27 (nn rfl)).trans e27
        have e29 := (ho 29 (nn rfl)).trans e29
        have e31 := (ho 31 (nn rfl)).trans e31
        have fr := frs fr ho (by decide)
        obtain ⟨v2_34, qq, h⟩ := bn_e h
        refine lv_iinc (v := v2_34) (lv' := [(2, .int v2_34), (0, .ref (HB.size + 91)), (1, .int v1)]) hx hb dX12_look_34 hl (k := 2) rfl (by rw [qq]; rfl) (by decide) rfl (fun ls hl => ?_)
        refine lv_goto (tgt := 17) hx hb dX12_look_37 (by decide) ?_
        exact hk17 σ H locs ls G27 G29 G30_33 G31 v1 v2_34  hI e27 e29 e30 e31 fr (lv_sub hl [1, 2, 0] rfl) h
  obtain ⟨σ, hI, e27, e29, e30, e31, fr⟩ : ∃ σ : St, IV HB D y n n κ σ [] s.heap ∧ σ 27 = G27 ∧ σ 29 = G29 ∧ σ 30 = G30 ∧ σ 31 = G31 ∧ ∀ j, j ∉ W_X12_look → σ j = σ0 j := ⟨σ0, hI, e27, e29, e30, e31, fun _ _ => rfl⟩
  show WX RM_X12_look p l e s m args below meth c HB (some (.int q.1)) (B_X12_look HB D y n κ σ0 q) s.heap [] (F0 m 0 ls [])
  generalize s.heap = H at hI ⊢
  unfold f_X12_look at h
  obtain ⟨locs, hlocs⟩ : ∃ x : List Loc, x = [] := ⟨_, rfl⟩
  rw [← hlocs] at hI ⊢
  refine lv_aload_n hx hb dX12_look_0 rfl (lv_at hl 0 rfl) ?_
  refine lv_iload_n hx hb dX12_look_1 rfl (lv_at hl 1 rfl) ?_
  obtain ⟨q_2, hq_2, h⟩ := ob_e h
  refine r_callV (As := [.int v1]) (rest := []) hx hb hml hts hown (c_X12_isText l HB D y F n κ σ hN v1 G27 e27 q_2 hq_2) cal_X12_isText im_X12_isText se_X12_isText lm_X12_422 ⟨Nat.le_of_ble_eq_true rfl, Nat.le_of_ble_eq_true rfl⟩ hI.nil hKK (r_recv hKK hI (hE12 HB.size y) rfl (lc91 hN) (kc91 hk0)) rfl hl.1 hI.2.2 rfl (Nat.le_of_ble_eq_true rfl) dX12_look_2 ⟨Nat.le_of_ble_eq_true rfl, Nat.le_of_ble_eq_true rfl⟩ rfl rfl rfl (fun H locs hB hlo => ?_)
  have hI := hB.re hlo
  refine lv_if_ne (tgt := 10) hx hb dX12_look_5 (by decide) (fun hc => ?_) (fun hc => ?_)
  · replace h := ite_f hc h
    refine lv_aload_n hx hb dX12_look_10 rfl (lv_at hl 0 rfl) ?_
    refine lv_iload_n hx hb dX12_look_11 rfl (lv_at hl 1 rfl) ?_
    obtain ⟨G30_12, qq, h⟩ := bn_e h
    refine pt_X12_384 hx hb hts hown hKK hI e30 (lc91 hN) (kc91 hk0) dX12_look_12 (fun σ H locs hI ew ho => ?_)
    have e30 := ew.trans qq.symm
    have e27 := (ho 27 (nn rfl)).trans e27
    have e29 := (ho 29 (nn rfl)).trans e29
    have e31 := (ho 31 (nn rfl)).trans e31
    have fr := frs fr ho (by decide)
    refine lv_iconst (v := 0) hx hb dX12_look_15 (by decide) ?_
    refine lv_istore_n (lv' := [(2, .int 0), (0, .ref (HB.size + 91)), (1, .int v1)]) hx hb dX12_look_16 rfl hl (by decide) rfl (fun ls hl => ?_)
    exact b17  F σ H locs ls G27 G29 G30_12 G31 v1 0  hI e27 e29 e30 e31 fr (lv_sub hl [1, 2, 0] rfl) h
  · replace h := ite_t hc h
    refine lv_iconst (v := (-1)) hx hb dX12_look_8 (by decide) ?_
    have hq := Option.some.inj h
    exact W.iret (v := (-1)) hx hb hr (fun t ht hW => qc_mk (congrArg (fun z => Outcome.returned (some (Value.int z.1))) hq) (by rw [ht]; exact ⟨σ, hI.nil, e30.trans (congrArg (fun z => z.2.1) hq), e31.trans (congrArg (fun z => z.2.2) hq), fr⟩)) hI.2.2 dX12_look_9 hlocks
noncomputable def f_X12_found (F : Nat) (G31 : Grp) (v1 : Int32) (v2 : Int32) : Option (Int32) :=
  if v1 < 0 then some (-1) else if v1 < (G31.1 91 52) then if v2 = 0 then ck v1 160 (some (G31.1 128 v1.toNatClampNeg)) else if v2 = 1 then ck v1 160 (some (G31.1 129 v1.toNatClampNeg)) else if v2 = 2 then ck v1 160 (some (G31.1 130 v1.toNatClampNeg)) else if v2 = 3 then ck v1 160 (some (G31.1 131 v1.toNatClampNeg)) else some (-1) else some (-1)
def RM_X12_found : Room := { frames := 0, cells := 0, slots := 0, locals := 0 }
abbrev B_X12_found (HB : Heap) (D : va_G) (y : Nat → ClassId) (n : Nat) (κ : Nat → Nat) (σ : St) (q : Int32) : Heap → Prop := fun H => IV HB D y n n κ σ [] H
set_option maxRecDepth 100000 in
set_option maxHeartbeats 4000000 in
theorem c_X12_found (l : Launch) (HB : Heap) (D : va_G) (y : Nat → ClassId) (F n : Nat) (κ : Nat → Nat) (σ : St) (hN : N0 ≤ n) (v1 : Int32)  (v2 : Int32)  (G31 : Grp) (e31 : σ 31 = G31) (q : Int32) (h : f_X12_found F G31 v1 v2 = some q) : MT l HB D y yX12_found cX12_found 3 (some .int) RM_X12_found [.ref (HB.size + 91), .int v1, .int v2] (IV HB D y n n κ σ []) (some (.int q)) (B_X12_found HB D y n κ σ q) := by
  refine Met.ofW (cc := cX12_found) (maxL := 3) (ret := (some .int)) (by decide) rfl ?_
  intro p e s m args below meth c s₁ BL hml hv
  obtain ⟨rfl, hI, hKK⟩ := hv
  have hx := BL.exec
  have hb := BL.bytes
  have hr := BL.returns
  have hts : ∀ w ∈ gtb, w.before _ s = true := fun w hw => atoms_spec BL.pre w (List.mem_cons_of_mem _ hw)
  have hml : c.maxLocals = 3 := hml
  have hown : s.vm.findClass RX12 = some m.cls := findClass_of_methodNamed BL.named
  have hlocks := BL.notSynchronized
  have hk0 := hI.1.2.2.2.2
  have hl := lv_entry ([.ref (HB.size + 91), .int v1, .int v2]) (n := 3) (Nat.le_of_ble_eq_true rfl)
  rw [lg_entry_eq]
  generalize (lg_sl ([.ref (HB.size + 91), .int v1, .int v2]) ++ List.replicate (3 - (lg_sl ([.ref (HB.size + 91), .int v1, .int v2])).length) Slot.unset).toArray = ls at hl ⊢
  have hl : lv_has ls 3 [(0, .ref (HB.size + 91)), (1, .int v1), (2, .int v2)] := hl
  generalize hargs : ([.ref (HB.size + 91), .int v1, .int v2] : List Value).toArray = args at *
  show WX RM_X12_found p l e s m args below meth c HB (some (.int q)) (B_X12_found HB D y n κ σ q) s.heap [] (F0 m 0 ls [])
  generalize s.heap = H at hI ⊢
  unfold f_X12_found at h
  obtain ⟨locs, hlocs⟩ : ∃ x : List Loc, x = [] := ⟨_, rfl⟩
  rw [← hlocs] at hI ⊢
  refine lv_iload_n hx hb dX12_found_0 rfl (lv_at hl 1 rfl) ?_
  refine lv_if_lt (tgt := 12) hx hb dX12_found_1 (by decide) (fun hc => ?_) (fun hc => ?_)
  · replace h := ite_t hc h
    refine lv_iconst (v := (-1)) hx hb dX12_found_12 (by decide) ?_
    have hq := Option.some.inj h
    exact W.iret (v := (-1)) hx hb hr (fun t ht hW => qc_mk (congrArg (fun z => Outcome.returned (some (Value.int z))) hq) (by rw [ht]; exact hI.nil)) hI.2.2 dX12_found_13 hlocks
  · replace h := ite_f hc h
    refine lv_iload_n hx hb dX12_found_4 rfl (lv_at hl 1 rfl) ?_
    refine lv_aload_n hx hb dX12_found_5 rfl (lv_at hl 0 rfl) ?_
    refine gt_X12_428 hx hb hts hown hKK hI e31 (lc91 hN) (kc91 hk0) dX12_found_6 ?_
    refine lv_icmp_lt (tgt := 14) hx hb dX12_found_9 (by decide) (fun hc => ?_) (fun hc => ?_)
    · replace h := ite_t hc h
      refine lv_iload_n hx hb dX12_found_14 rfl (lv_at hl 2 rfl) ?_
      by_cases hc0 : v2 = 0
      · replace h := ite_t hc0 h
        refine lv_tableIn (off := 29) (tgt := 44) hx hb dX12_found_15 (by rw [hc0]; decide) (by rw [hc0]; decide) (by rw [hc0]; decide) (by decide) ?_
        refine lv_aload_n hx hb dX12_found_44 rfl (lv_at hl 0 rfl) ?_
        refine gf_X12_121 hx hb hts hown hKK hI hN dX12_found_45 ?_
        refine lv_iload_n hx hb dX12_found_48 rfl (lv_at hl 1 rfl) ?_
        obtain ⟨hin_, h⟩ := ck_e h
        refine la_56 hx hb hKK hI e31 (lc128 hN) (kc128 hk0) hin_ dX12_found_49 ?_
        have hq := Option.some.inj h
        exact W.iret (v := (G31.1 128 v1.toNatClampNeg)) hx hb hr (fun t ht hW => qc_mk (congrArg (fun z => Outcome.returned (some (Value.int z))) hq) (by rw [ht]; exact hI.nil)) hI.2.2 dX12_found_50 hlocks
      · replace h := ite_f hc0 h
        by_cases hc1 : v2 = 1
        · replace h := ite_t hc1 h
          refine lv_tableIn (off := 36) (tgt := 51) hx hb dX12_found_15 (by rw [hc1]; decide) (by rw [hc1]; decide) (by rw [hc1]; decide) (by decide) ?_
          refine lv_aload_n hx hb dX12_found_51 rfl (lv_at hl 0 rfl) ?_
          refine gf_X12_124 hx hb hts hown hKK hI hN dX12_found_52 ?_
          refine lv_iload_n hx hb dX12_found_55 rfl (lv_at hl 1 rfl) ?_
          obtain ⟨hin_, h⟩ := ck_e h
          refine la_56 hx hb hKK hI e31 (lc129 hN) (kc129 hk0) hin_ dX12_found_56 ?_
          have hq := Option.some.inj h
          exact W.iret (v := (G31.1 129 v1.toNatClampNeg)) hx hb hr (fun t ht hW => qc_mk (congrArg (fun z => Outcome.returned (some (Value.int z))) hq) (by rw [ht]; exact hI.nil)) hI.2.2 dX12_found_57 hlocks
        · replace h := ite_f hc1 h
          by_cases hc2 : v2 = 2
          · replace h := ite_t hc2 h
            refine lv_tableIn (off := 43) (tgt := 58) hx hb dX12_found_15 (by rw [hc2]; decide) (by rw [hc2]; decide) (by rw [hc2]; decide) (by decide) ?_
            refine lv_aload_n hx hb dX12_found_58 rfl (lv_at hl 0 rfl) ?_
            refine gf_X12_127 hx hb hts hown hKK hI hN dX12_found_59 ?_
            refine lv_iload_n hx hb dX12_found_62 rfl (lv_at hl 1 rfl) ?_
            obtain ⟨hin_, h⟩ := ck_e h
            refine la_56 hx hb hKK hI e31 (lc130 hN) (kc130 hk0) hin_ dX12_found_63 ?_
            have hq := Option.some.inj h
            exact W.iret (v := (G31.1 130 v1.toNatClampNeg)) hx hb hr (fun t ht hW => qc_mk (congrArg (fun z => Outcome.returned (some (Value.int z))) hq) (by rw [ht]; exact hI.nil)) hI.2.2 dX12_found_64 hlocks
          · replace h := ite_f hc2 h
            by_cases hc3 : v2 = 3
            · replace h := ite_t hc3 h
              refine lv_tableIn (off := 50) (tgt := 65) hx hb dX12_found_15 (by rw [hc3]; decide) (by rw [hc3]; decide) (by rw [hc3]; decide) (by decide) ?_
              refine lv_aload_n hx hb dX12_found_65 rfl (lv_at hl 0 rfl) ?_
              refine gf_X12_130 hx hb hts hown hKK hI hN dX12_found_66 ?_
              refine lv_iload_n hx hb dX12_found_69 rfl (lv_at hl 1 rfl) ?_
              obtain ⟨hin_, h⟩ := ck_e h
              refine la_56 hx hb hKK hI e31 (lc131 hN) (kc131 hk0) hin_ dX12_found_70 ?_
              have hq := Option.some.inj h
              exact W.iret (v := (G31.1 131 v1.toNatClampNeg)) hx hb hr (fun t ht hW => qc_mk (congrArg (fun z => Outcome.returned (some (Value.int z))) hq) (by rw [ht]; exact hI.nil)) hI.2.2 dX12_found_71 hlocks
            · replace h := ite_f hc3 h
              refine lv_tableOut (tgt := 72) hx hb dX12_found_15 (swo (fun j h1 h2 => ?_)) (by decide) ?_
              · have hj : j = 0 ∨ j = 1 ∨ j = 2 ∨ j = 3 := by omega
                rcases hj with rfl | rfl | rfl | rfl
                · exact lv_neT hc0 (by decide)
                · exact lv_neT hc1 (by decide)
                · exact lv_neT hc2 (by decide)
                · exact lv_neT hc3 (by decide)
              · refine lv_iconst (v := (-1)) hx hb dX12_found_72 (by decide) ?_
                have hq := Option.some.inj h
                exact W.iret (v := (-1)) hx hb hr (fun t ht hW => qc_mk (congrArg (fun z => Outcome.returned (some (Value.int z))) hq) (by rw [ht]; exact hI.nil)) hI.2.2 dX12_found_73 hlocks
    · replace h := ite_f hc h
      refine lv_iconst (v := (-1)) hx hb dX12_found_12 (by decide) ?_
      have hq := Option.some.inj h
      exact W.iret (v := (-1)) hx hb hr (fun t ht hW => qc_mk (congrArg (fun z => Outcome.returned (some (Value.int z))) hq) (by rw [ht]; exact hI.nil)) hI.2.2 dX12_found_13 hlocks
noncomputable def f_X12_isLetterThere (F : Nat) (G32 : Grp) (v1 : Int32) : Option (Int32) :=
  if v1 < 0 then some 0 else if (G32.1 91 57) ≤ v1 then some 0 else some 1
def RM_X12_isLetterThere : Room := { frames := 0, cells := 0, slots := 0, locals := 0 }
abbrev B_X12_isLetterThere (HB : Heap) (D : va_G) (y : Nat → ClassId) (n : Nat) (κ : Nat → Nat) (σ : St) (q : Int32) : Heap → Prop := fun H => IV HB D y n n κ σ [] H
set_option maxRecDepth 100000 in
set_option maxHeartbeats 4000000 in
theorem c_X12_isLetterThere (l : Launch) (HB : Heap) (D : va_G) (y : Nat → ClassId) (F n : Nat) (κ : Nat → Nat) (σ : St) (hN : N0 ≤ n) (v1 : Int32)  (G32 : Grp) (e32 : σ 32 = G32) (q : Int32) (h : f_X12_isLetterThere F G32 v1 = some q) : MT l HB D y yX12_isLetterThere cX12_isLetterThere 2 (some .boolean) RM_X12_isLetterThere [.ref (HB.size + 91), .int v1] (IV HB D y n n κ σ []) (some (.int q)) (B_X12_isLetterThere HB D y n κ σ q) := by
  refine Met.ofW (cc := cX12_isLetterThere) (maxL := 2) (ret := (some .boolean)) (by decide) rfl ?_
  intro p e s m args below meth c s₁ BL hml hv
  obtain ⟨rfl, hI, hKK⟩ := hv
  have hx := BL.exec
  have hb := BL.bytes
  have hr := BL.returns
  have hts : ∀ w ∈ gtb, w.before _ s = true := fun w hw => atoms_spec BL.pre w (List.mem_cons_of_mem _ hw)
  have hml : c.maxLocals = 2 := hml
  have hown : s.vm.findClass RX12 = some m.cls := findClass_of_methodNamed BL.named
  have hlocks := BL.notSynchronized
  have hk0 := hI.1.2.2.2.2
  have hl := lv_entry ([.ref (HB.size + 91), .int v1]) (n := 2) (Nat.le_of_ble_eq_true rfl)
  rw [lg_entry_eq]
  generalize (lg_sl ([.ref (HB.size + 91), .int v1]) ++ List.replicate (2 - (lg_sl ([.ref (HB.size + 91), .int v1])).length) Slot.unset).toArray = ls at hl ⊢
  have hl : lv_has ls 2 [(0, .ref (HB.size + 91)), (1, .int v1)] := hl
  generalize hargs : ([.ref (HB.size + 91), .int v1] : List Value).toArray = args at *
  show WX RM_X12_isLetterThere p l e s m args below meth c HB (some (.int q)) (B_X12_isLetterThere HB D y n κ σ q) s.heap [] (F0 m 0 ls [])
  generalize s.heap = H at hI ⊢
  unfold f_X12_isLetterThere at h
  obtain ⟨locs, hlocs⟩ : ∃ x : List Loc, x = [] := ⟨_, rfl⟩
  rw [← hlocs] at hI ⊢
  refine lv_iload_n hx hb dX12_isLetterThere_0 rfl (lv_at hl 1 rfl) ?_
  refine lv_if_lt (tgt := 16) hx hb dX12_isLetterThere_1 (by decide) (fun hc => ?_) (fun hc => ?_)
  · replace h := ite_t hc h
    refine lv_iconst (v := 0) hx hb dX12_isLetterThere_16 (by decide) ?_
    have hq := Option.some.inj h
    exact W.zret (v := 0) (ty := .boolean) hx hb hr rfl (fun t ht hW => qc_mk (congrArg (fun z => Outcome.returned (some (Value.int z))) hq) (by rw [ht]; exact hI.nil)) hI.2.2 dX12_isLetterThere_17 hlocks
  · replace h := ite_f hc h
    refine lv_iload_n hx hb dX12_isLetterThere_4 rfl (lv_at hl 1 rfl) ?_
    refine lv_aload_n hx hb dX12_isLetterThere_5 rfl (lv_at hl 0 rfl) ?_
    refine gt_X12_431 hx hb hts hown hKK hI e32 (lc91 hN) (kc91 hk0) dX12_isLetterThere_6 ?_
    refine lv_icmp_ge (tgt := 16) hx hb dX12_isLetterThere_9 (by decide) (fun hc => ?_) (fun hc => ?_)
    · replace h := ite_t hc h
      refine lv_iconst (v := 0) hx hb dX12_isLetterThere_16 (by decide) ?_
      have hq := Option.some.inj h
      exact W.zret (v := 0) (ty := .boolean) hx hb hr rfl (fun t ht hW => qc_mk (congrArg (fun z => Outcome.returned (some (Value.int z))) hq) (by rw [ht]; exact hI.nil)) hI.2.2 dX12_isLetterThere_17 hlocks
    · replace h := ite_f hc h
      refine lv_iconst (v := 1) hx hb dX12_isLetterThere_12 (by decide) ?_
      refine lv_goto (tgt := 17) hx hb dX12_isLetterThere_13 (by decide) ?_
      have hq := Option.some.inj h
      exact W.zret (v := 1) (ty := .boolean) hx hb hr rfl (fun t ht hW => qc_mk (congrArg (fun z => Outcome.returned (some (Value.int z))) hq) (by rw [ht]; exact hI.nil)) hI.2.2 dX12_isLetterThere_17 hlocks
noncomputable def f_X12_isMark (F : Nat)  (v0 : Int32) : Option (Int32) :=
  if v0 < 0 then some 0 else if 99 < v0 then some 0 else some 1
def RM_X12_isMark : Room := { frames := 0, cells := 0, slots := 0, locals := 0 }
abbrev B_X12_isMark (HB : Heap) (D : va_G) (y : Nat → ClassId) (n : Nat) (κ : Nat → Nat) (σ : St) (q : Int32) : Heap → Prop := fun H => IV HB D y n n κ σ [] H
set_option maxRecDepth 100000 in
set_option maxHeartbeats 4000000 in
theorem c_X12_isMark (l : Launch) (HB : Heap) (D : va_G) (y : Nat → ClassId) (F n : Nat) (κ : Nat → Nat) (σ : St) (hN : N0 ≤ n) (v0 : Int32)   (q : Int32) (h : f_X12_isMark F v0 = some q) : MT l HB D y yX12_isMark cX12_isMark 1 (some .boolean) RM_X12_isMark [.int v0] (IV HB D y n n κ σ []) (some (.int q)) (B_X12_isMark HB D y n κ σ q) := by
  refine Met.ofW (cc := cX12_isMark) (maxL := 1) (ret := (some .boolean)) (by decide) rfl ?_
  intro p e s m args below meth c s₁ BL hml hv
  obtain ⟨rfl, hI, hKK⟩ := hv
  have hx := BL.exec
  have hb := BL.bytes
  have hr := BL.returns
  have hts : ∀ w ∈ gtb, w.before _ s = true := fun w hw => atoms_spec BL.pre w (List.mem_cons_of_mem _ hw)
  have hml : c.maxLocals = 1 := hml
  have hown : s.vm.findClass RX12 = some m.cls := findClass_of_methodNamed BL.named
  have hlocks := BL.notSynchronized
  have hk0 := hI.1.2.2.2.2
  have hl := lv_entry ([.int v0]) (n := 1) (Nat.le_of_ble_eq_true rfl)
  rw [lg_entry_eq]
  generalize (lg_sl ([.int v0]) ++ List.replicate (1 - (lg_sl ([.int v0])).length) Slot.unset).toArray = ls at hl ⊢
  have hl : lv_has ls 1 [(0, .int v0)] := hl
  generalize hargs : ([.int v0] : List Value).toArray = args at *
  show WX RM_X12_isMark p l e s m args below meth c HB (some (.int q)) (B_X12_isMark HB D y n κ σ q) s.heap [] (F0 m 0 ls [])
  generalize s.heap = H at hI ⊢
  unfold f_X12_isMark at h
  obtain ⟨locs, hlocs⟩ : ∃ x : List Loc, x = [] := ⟨_, rfl⟩
  rw [← hlocs] at hI ⊢
  refine lv_iload_n hx hb dX12_isMark_0 rfl (lv_at hl 0 rfl) ?_
  refine lv_if_lt (tgt := 14) hx hb dX12_isMark_1 (by decide) (fun hc => ?_) (fun hc => ?_)
  · replace h := ite_t hc h
    refine lv_iconst (v := 0) hx hb dX12_isMark_14 (by decide) ?_
    have hq := Option.some.inj h
    exact W.zret (v := 0) (ty := .boolean) hx hb hr rfl (fun t ht hW => qc_mk (congrArg (fun z => Outcome.returned (some (Value.int z))) hq) (by rw [ht]; exact hI.nil)) hI.2.2 dX12_isMark_15 hlocks
  · replace h := ite_f hc h
    refine lv_iload_n hx hb dX12_isMark_4 rfl (lv_at hl 0 rfl) ?_
    refine lv_bipush (v := 99) hx hb dX12_isMark_5 (by decide) ?_
    refine lv_icmp_gt (tgt := 14) hx hb dX12_isMark_7 (by decide) (fun hc => ?_) (fun hc => ?_)
    · replace h := ite_t hc h
      refine lv_iconst (v := 0) hx hb dX12_isMark_14 (by decide) ?_
      have hq := Option.some.inj h
      exact W.zret (v := 0) (ty := .boolean) hx hb hr rfl (fun t ht hW => qc_mk (congrArg (fun z => Outcome.returned (some (Value.int z))) hq) (by rw [ht]; exact hI.nil)) hI.2.2 dX12_isMark_15 hlocks
    · replace h := ite_f hc h
      refine lv_iconst (v := 1) hx hb dX12_isMark_10 (by decide) ?_
      refine lv_goto (tgt := 15) hx hb dX12_isMark_11 (by decide) ?_
      have hq := Option.some.inj h
      exact W.zret (v := 1) (ty := .boolean) hx hb hr rfl (fun t ht hW => qc_mk (congrArg (fun z => Outcome.returned (some (Value.int z))) hq) (by rw [ht]; exact hI.nil)) hI.2.2 dX12_isMark_15 hlocks
