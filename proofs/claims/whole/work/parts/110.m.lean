noncomputable def f_X12_readsPattern_b56 (F : Nat) (k21 : Grp → Grp → Int32 → Option (Int32 × Grp)) (G27 : Grp) (G28 : Grp) (v1 : Int32) (v2 : Int32) (s2 : Int32) : Option (Int32 × Grp) :=
  ob (f_X12_part F G28 s2 v2 (-1) (-1)) (fun q_59 => ob (f_X12_pushes F (q_59.2) (q_59.1)) (fun q_62 => ob (f_X12_repeats F G27 q_62) (fun q_66 => ob (f_X12_comes F q_66 v1) (fun q_71 => k21 G27 q_71 v1))))
noncomputable def f_X12_readsPattern_b267 (F : Nat)  (G27 : Grp) (G28 : Grp)  : Option (Int32 × Grp) :=
  ob (f_X12_wrong F G28 1) (fun q_269 => cb (q_269.1) (some (q_269.1, q_269.2)))
noncomputable def f_X12_readsPattern_b273 (F : Nat)  (G27 : Grp) (G28 : Grp)  : Option (Int32 × Grp) :=
  ob (f_X12_closesRows F G28 0) (fun q_275 => some (1, q_275))
noncomputable def f_X12_readsPattern_b237 (F : Nat)  (G27 : Grp) (G28 : Grp) (v1 : Int32) (v2 : Int32) : Option (Int32 × Grp) :=
  if 0 < v1 then f_X12_readsPattern_b267 F  G27 G28 else ck 0 8 (if (G28.1 120 (0 : Int32).toNatClampNeg) = 0 then f_X12_readsPattern_b267 F  G27 G28 else if (G28.1 91 22) ≤ (G28.1 91 21) then f_X12_readsPattern_b273 F  G27 G28 else if v2 = 59 then f_X12_readsPattern_b273 F  G27 G28 else f_X12_readsPattern_b267 F  G27 G28)
noncomputable def f_X12_readsPattern_l21b (F : Nat)  (k21 : Grp → Grp → Int32 → Option (Int32 × Grp)) (G27 : Grp) (G28 : Grp) (v1 : Int32) : Option (Int32 × Grp) :=
  ob (f_X12_sign F G27 G28) (fun q_22 => ob (f_X12_isAtom F q_22) (fun q_27 => if q_27 = 0 then if q_22 = 40 then if v1 = 6 then ob (f_X12_wrong F G28 3) (fun q_91 => cb (q_91.1) (some (q_91.1, q_91.2))) else bn ((v1 + 1)) (fun v1_98 => ck v1_98 8 (bn (gI G28 120 v1_98.toNatClampNeg 0) (fun G28_105 => ck v1_98 8 (bn (gI G28_105 121 v1_98.toNatClampNeg 0) (fun G28_112 => bn (gI G28_112 91 21 ((G28_112.1 91 21) + 1)) (fun G28_120 => k21 G27 G28_120 v1_98)))))) else if q_22 = 124 then ck v1 8 (if (G28.1 120 v1.toNatClampNeg) = 0 then ob (f_X12_wrong F G28 1) (fun q_143 => cb (q_143.1) (some (q_143.1, q_143.2))) else ck v1 8 (ck v1 8 (bn (gI G28 121 v1.toNatClampNeg ((G28.1 121 v1.toNatClampNeg) + 1)) (fun G28_160 => ck v1 8 (bn (gI G28_160 120 v1.toNatClampNeg 0) (fun G28_167 => bn (gI G28_167 91 21 ((G28_167.1 91 21) + 1)) (fun G28_175 => k21 G27 G28_175 v1))))))) else if q_22 = 41 then if v1 ≤ 0 then f_X12_readsPattern_b237 F  G27 G28 v1 q_22 else ck v1 8 (if (G28.1 120 v1.toNatClampNeg) = 0 then ob (f_X12_wrong F G28 1) (fun q_202 => cb (q_202.1) (some (q_202.1, q_202.2))) else ob (f_X12_closesRows F G28 v1) (fun q_208 => bn ((v1 - 1)) (fun v1_214 => bn (gI q_208 91 21 ((q_208.1 91 21) + 1)) (fun G28_222 => ob (f_X12_repeats F G27 G28_222) (fun q_226 => ob (f_X12_comes F q_226 v1_214) (fun q_231 => k21 G27 q_231 v1_214)))))) else f_X12_readsPattern_b237 F  G27 G28 v1 q_22 else bn (gI G28 91 21 ((G28.1 91 21) + 1)) (fun G28_40 => if q_22 = 94 then f_X12_readsPattern_b56 F k21 G27 G28_40 v1 q_22 1 else f_X12_readsPattern_b56 F k21 G27 G28_40 v1 q_22 0)))
noncomputable def f_X12_readsPattern_l21 (F : Nat)  (fu : Nat) : Grp → Grp → Int32 → Option (Int32 × Grp) := Nat.rec (motive := fun _ => Grp → Grp → Int32 → Option (Int32 × Grp)) (fun _ _ _ => none) (fun _ ih => f_X12_readsPattern_l21b F  ih) fu
noncomputable def f_X12_readsPattern (F : Nat) (G27 : Grp) (G28 : Grp)  : Option (Int32 × Grp) :=
  bn (gI G28 91 41 0) (fun G28_4 => ck 0 8 (bn (gI G28_4 120 (0 : Int32).toNatClampNeg 0) (fun G28_13 => ck 0 8 (bn (gI G28_13 121 (0 : Int32).toNatClampNeg 0) (fun G28_20 => f_X12_readsPattern_l21 F  F G27 G28_20 0)))))
def RM_X12_readsPattern : Room := { frames := 3, cells := 0, slots := 0, locals := 69 }
abbrev W_X12_readsPattern : List Nat := [28]
abbrev B_X12_readsPattern (HB : Heap) (D : va_G) (y : Nat → ClassId) (n : Nat) (κ : Nat → Nat) (σ0 : St) (q : Int32 × Grp) : Heap → Prop := fun H => ∃ σ : St, IV HB D y n n κ σ [] H ∧ σ 28 = q.2 ∧ ∀ j, j ∉ W_X12_readsPattern → σ j = σ0 j
set_option maxRecDepth 100000 in
set_option maxHeartbeats 4000000 in
theorem c_X12_readsPattern (l : Launch) (HB : Heap) (D : va_G) (y : Nat → ClassId) (F n : Nat) (κ : Nat → Nat) (σ0 : St) (hN : N0 ≤ n)  (G27 : Grp) (e27 : σ0 27 = G27) (G28 : Grp) (e28 : σ0 28 = G28) (q : Int32 × Grp) (h : f_X12_readsPattern F G27 G28 = some q) : MT l HB D y yX12_readsPattern cX12_readsPattern 3 (some .boolean) RM_X12_readsPattern [.ref (HB.size + 91)] (IV HB D y n n κ σ0 []) (some (.int q.1)) (B_X12_readsPattern HB D y n κ σ0 q) := by
  refine Met.ofW (cc := cX12_readsPattern) (maxL := 3) (ret := (some .boolean)) (by decide) rfl ?_
  intro p e s m args below meth c s₁ BL hml hv
  obtain ⟨rfl, hI, hKK⟩ := hv
  have hx := BL.exec
  have hb := BL.bytes
  have hr := BL.returns
  have hts : ∀ w ∈ gtb, w.before _ s = true := fun w hw => atoms_spec BL.pre w (List.mem_cons_of_mem _ hw)
  have hml : c.maxLocals = 3 := hml
  have hown : s.vm.findClass RX12 = some m.cls := findClass_of_methodNamed BL.named
  have hlocks := BL.notSynchronized
  have hk0 := hI.1.2.2.2.2
  have hl := lv_entry ([.ref (HB.size + 91)]) (n := 3) (Nat.le_of_ble_eq_true rfl)
  rw [lg_entry_eq]
  generalize (lg_sl ([.ref (HB.size + 91)]) ++ List.replicate (3 - (lg_sl ([.ref (HB.size + 91)])).length) Slot.unset).toArray = ls at hl ⊢
  have hl : lv_has ls 3 [(0, .ref (HB.size + 91))] := hl
  generalize hargs : ([.ref (HB.size + 91)] : List Value).toArray = args at *
  have b56 : ∀ (k21 : Grp → Grp → Int32 → Option (Int32 × Grp)) (hk21 : ∀ (σ : St) (H : Heap) (locs : List Loc) (ls : Array Slot) (G27 : Grp) (G28 : Grp) (v1 : Int32) , IV HB D y n n κ σ locs H → σ 27 = G27 → σ 28 = G28 → (∀ j, j ∉ W_X12_readsPattern → σ j = σ0 j) → lv_has ls 3 [(0, .ref (HB.size + 91)), (1, .int v1)] → k21 G27 G28 v1 = some q → WX RM_X12_readsPattern p l e s m args below meth c HB (some (.int q.1)) (B_X12_readsPattern HB D y n κ σ0 q) H locs (F0 m 21 ls [])) (σ : St) (H : Heap) (locs : List Loc) (ls : Array Slot) (G27 : Grp) (G28 : Grp) (v1 : Int32) (v2 : Int32) (s2 : Int32) , IV HB D y n n κ σ locs H → σ 27 = G27 → σ 28 = G28 → (∀ j, j ∉ W_X12_readsPattern → σ j = σ0 j) → lv_has ls 3 [(0, .ref (HB.size + 91)), (1, .int v1), (2, .int v2)] → f_X12_readsPattern_b56 F k21 G27 G28 v1 v2 s2 = some q → WX RM_X12_readsPattern p l e s m args below meth c HB (some (.int q.1)) (B_X12_readsPattern HB D y n κ σ0 q) H locs (F0 m 56 ls [.int s2, .ref (HB.size + 91), .ref (HB.size + 91)]) := by
    intro k21 hk21 σ H locs ls G27 G28 v1 v2 s2 hI e27 e28 fr hl h
    unfold f_X12_readsPattern_b56 at h
    refine lv_iload_n hx hb dX12_readsPattern_56 rfl (lv_at hl 2 rfl) ?_
    refine lv_iconst (v := (-1)) hx hb dX12_readsPattern_57 (by decide) ?_
    refine lv_iconst (v := (-1)) hx hb dX12_readsPattern_58 (by decide) ?_
    obtain ⟨q_59, hq_59, h⟩ := ob_e h
    refine r_callV (As := [.int s2, .int v2, .int (-1), .int (-1)]) (rest := [.ref (HB.size + 91)]) hx hb hml hts hown (c_X12_part l HB D y F n κ σ hN s2 v2 (-1) (-1) G28 e28 q_59 hq_59) cal_X12_part im_X12_part se_X12_part lm_X12_333 ⟨Nat.le_of_ble_eq_true rfl, Nat.le_of_ble_eq_true rfl⟩ hI.nil hKK (r_recv hKK hI (hE12 HB.size y) rfl (lc91 hN) (kc91 hk0)) rfl hl.1 hI.2.2 rfl (Nat.le_of_ble_eq_true rfl) dX12_readsPattern_59 ⟨Nat.le_of_ble_eq_true rfl, Nat.le_of_ble_eq_true rfl⟩ rfl rfl rfl (fun H locs hB hlo => ?_)
    obtain ⟨σ, hB, en28, ho⟩ := hB
    have hI := hB.re hlo
    have e28 := en28
    have e27 := (ho 27 (ni rfl)).trans e27
    have fr := frc fr ho (by decide)
    obtain ⟨q_62, hq_62, h⟩ := ob_e h
    refine r_callV (As := [.int (q_59.1)]) (rest := []) hx hb hml hts hown (c_X12_pushes l HB D y F n κ σ hN (q_59.1) (q_59.2) e28 q_62 hq_62) cal_X12_pushes im_X12_pushes se_X12_pushes lm_X12_337 ⟨Nat.le_of_ble_eq_true rfl, Nat.le_of_ble_eq_true rfl⟩ hI.nil hKK (r_recv hKK hI (hE12 HB.size y) rfl (lc91 hN) (kc91 hk0)) rfl hl.1 hI.2.2 rfl (Nat.le_of_ble_eq_true rfl) dX12_readsPattern_62 ⟨Nat.le_of_ble_eq_true rfl, Nat.le_of_ble_eq_true rfl⟩ rfl rfl rfl (fun H locs hB hlo => ?_)
    obtain ⟨σ, hB, en28, ho⟩ := hB
    have hI := hB.re hlo
    have e28 := en28
    have e27 := (ho 27 (ni rfl)).trans e27
    have fr := frc fr ho (by decide)
    refine lv_aload_n hx hb dX12_readsPattern_65 rfl (lv_at hl 0 rfl) ?_
    obtain ⟨q_66, hq_66, h⟩ := ob_e h
    refine r_callV (As := []) (rest := []) hx hb hml hts hown (c_X12_repeats l HB D y F n κ σ hN  G27 e27 q_62 e28 q_66 hq_66) cal_X12_repeats im_X12_repeats se_X12_repeats lm_X12_356 ⟨Nat.le_of_ble_eq_true rfl, Nat.le_of_ble_eq_true rfl⟩ hI.nil hKK (r_recv hKK hI (hE12 HB.size y) rfl (lc91 hN) (kc91 hk0)) rfl hl.1 hI.2.2 rfl (Nat.le_of_ble_eq_true rfl) dX12_readsPattern_66 ⟨Nat.le_of_ble_eq_true rfl, Nat.le_of_ble_eq_true rfl⟩ rfl rfl rfl (fun H locs hB hlo => ?_)
    obtain ⟨σ, hB, en28, ho⟩ := hB
    have hI := hB.re hlo
    have e28 := en28
    have e27 := (ho 27 (ni rfl)).trans e27
    have fr := frc fr ho (by decide)
    refine lv_aload_n hx hb dX12_readsPattern_69 rfl (lv_at hl 0 rfl) ?_
    refine lv_iload_n hx hb dX12_readsPattern_70 rfl (lv_at hl 1 rfl) ?_
    obtain ⟨q_71, hq_71, h⟩ := ob_e h
    refine r_callV (As := [.int v1]) (rest := []) hx hb hml hts hown (c_X12_comes l HB D y F n κ σ hN v1 q_66 e28 q_71 hq_71) cal_X12_comes im_X12_comes se_X12_comes lm_X12_359 ⟨Nat.le_of_ble_eq_true rfl, Nat.le_of_ble_eq_true rfl⟩ hI.nil hKK (r_recv hKK hI (hE12 HB.size y) rfl (lc91 hN) (kc91 hk0)) rfl hl.1 hI.2.2 rfl (Nat.le_of_ble_eq_true rfl) dX12_readsPattern_71 ⟨Nat.le_of_ble_eq_true rfl, Nat.le_of_ble_eq_true rfl⟩ rfl rfl rfl (fun H locs hB hlo => ?_)
    obtain ⟨σ, hB, en28, ho⟩ := hB
    have hI := hB.re hlo
    have e28 := en28
    have e27 := (ho 27 (ni rfl)).trans e27
    have fr := frc fr ho (by decide)
    refine lv_goto (tgt := 280) hx hb dX12_readsPattern_74 (by decide) ?_
    refine lv_goto (tgt := 21) hx hb dX12_readsPattern_280 (by decide) ?_
    exact hk21 σ H locs ls G27 q_71 v1  hI e27 e28 fr (lv_sub hl [0, 1] rfl) h
  have b267 : ∀ (σ : St) (H : Heap) (locs : List Loc) (ls : Array Slot) (G27 : Grp) (G28 : Grp)  , IV HB D y n n κ σ locs H → σ 27 = G27 → σ 28 = G28 → (∀ j, j ∉ W_X12_readsPattern → σ j = σ0 j) → lv_has ls 3 [(0, .ref (HB.size + 91))] → f_X12_readsPattern_b267 F  G27 G28 = some q → WX RM_X12_readsPattern p l e s m args below meth c HB (some (.int q.1)) (B_X12_readsPattern HB D y n κ σ0 q) H locs (F0 m 267 ls []) := by
    intro  σ H locs ls G27 G28 hI e27 e28 fr hl h
    unfold f_X12_readsPattern_b267 at h
    refine lv_aload_n hx hb dX12_readsPattern_267 rfl (lv_at hl 0 rfl) ?_
    refine lv_iconst (v := 1) hx hb dX12_readsPattern_268 (by decide) ?_
    obtain ⟨q_269, hq_269, h⟩ := ob_e h
    refine r_callV (As := [.int 1]) (rest := []) hx hb hml hts hown (c_X12_wrong l HB D y F n κ σ hN 1 G28 e28 q_269 hq_269) cal_X12_wrong im_X12_wrong se_X12_wrong lm_X12_362 ⟨Nat.le_of_ble_eq_true rfl, Nat.le_of_ble_eq_true rfl⟩ hI.nil hKK (r_recv hKK hI (hE12 HB.size y) rfl (lc91 hN) (kc91 hk0)) rfl hl.1 hI.2.2 rfl (Nat.le_of_ble_eq_true rfl) dX12_readsPattern_269 ⟨Nat.le_of_ble_eq_true rfl, Nat.le_of_ble_eq_true rfl⟩ rfl rfl rfl (fun H locs hB hlo => ?_)
    obtain ⟨σ, hB, en28, ho⟩ := hB
    have hI := hB.re hlo
    have e28 := en28
    have e27 := (ho 27 (ni rfl)).trans e27
    have fr := frc fr ho (by decide)
    obtain ⟨hz, h⟩ := cb_e h
    have hq := Option.some.inj h
    exact W.zret (v := q_269.1) (ty := .boolean) hx hb hr hz (fun t ht hW => qc_mk (congrArg (fun z => Outcome.returned (some (Value.int z.1))) hq) (by rw [ht]; exact ⟨σ, hI.nil, e28.trans (congrArg (fun z => z.2) hq), fr⟩)) hI.2.2 dX12_readsPattern_272 hlocks
  have b273 : ∀ (σ : St) (H : Heap) (locs : List Loc) (ls : Array Slot) (G27 : Grp) (G28 : Grp)  , IV HB D y n n κ σ locs H → σ 27 = G27 → σ 28 = G28 → (∀ j, j ∉ W_X12_readsPattern → σ j = σ0 j) → lv_has ls 3 [(0, .ref (HB.size + 91))] → f_X12_readsPattern_b273 F  G27 G28 = some q → WX RM_X12_readsPattern p l e s m args below meth c HB (some (.int q.1)) (B_X12_readsPattern HB D y n κ σ0 q) H locs (F0 m 273 ls []) := by
    intro  σ H locs ls G27 G28 hI e27 e28 fr hl h
    unfold f_X12_readsPattern_b273 at h
    refine lv_aload_n hx hb dX12_readsPattern_273 rfl (lv_at hl 0 rfl) ?_
    refine lv_iconst (v := 0) hx hb dX12_readsPattern_274 (by decide) ?_
    obtain ⟨q_275, hq_275, h⟩ := ob_e h
    refine r_callV (As := [.int 0]) (rest := []) hx hb hml hts hown (c_X12_closesRows l HB D y F n κ σ hN 0 G28 e28 q_275 hq_275) cal_X12_closesRows im_X12_closesRows se_X12_closesRows lm_X12_365 ⟨Nat.le_of_ble_eq_true rfl, Nat.le_of_ble_eq_true rfl⟩ hI.nil hKK (r_recv hKK hI (hE12 HB.size y) rfl (lc91 hN) (kc91 hk0)) rfl hl.1 hI.2.2 rfl (Nat.le_of_ble_eq_true rfl) dX12_readsPattern_275 ⟨Nat.le_of_ble_eq_true rfl, Nat.le_of_ble_eq_true rfl⟩ rfl rfl rfl (fun H locs hB hlo => ?_)
    obtain ⟨σ, hB, en28, ho⟩ := hB
    have hI := hB.re hlo
    have e28 := en28
    have e27 := (ho 27 (ni rfl)).trans e27
    have fr := frc fr ho (by decide)
    refine lv_iconst (v := 1) hx hb dX12_readsPattern_278 (by decide) ?_
    have hq := Option.some.inj h
    exact W.zret (v := 1) (ty := .boolean) hx hb hr rfl (fun t ht hW => qc_mk (congrArg (fun z => Outcome.returned (some (Value.int z.1))) hq) (by rw [ht]; exact ⟨σ, hI.nil, e28.trans (congrArg (fun z => z.2) hq), fr⟩)) hI.2.2 dX12_readsPattern_279 hlocks
  have b237 : ∀ (σ : St) (H : Heap) (locs : List Loc) (ls : Array Slot) (G27 : Grp) (G28 : Grp) (v1 : Int32) (v2 : Int32) , IV HB D y n n κ σ locs H → σ 27 = G27 → σ 28 = G28 → (∀ j, j ∉ W_X12_readsPattern → σ j = σ0 j) → lv_has ls 3 [(0, .ref (HB.size + 91)), (1, .int v1), (2, .int v2)] → f_X12_readsPattern_b237 F  G27 G28 v1 v2 = some q → WX RM_X12_readsPattern p l e s m args below meth c HB (some (.int q.1)) (B_X12_readsPattern HB D y n κ σ0 q) H locs (F0 m 237 ls []) := by
    intro  σ H locs ls G27 G28 v1 v2 hI e27 e28 fr hl h
    unfold f_X12_readsPattern_b237 at h
    refine lv_iload_n hx hb dX12_readsPattern_237 rfl (lv_at hl 1 rfl) ?_
    refine lv_if_gt (tgt := 267) hx hb dX12_readsPattern_238 (by decide) (fun hc => ?_) (fun hc => ?_)
    · replace h := ite_t hc h
      exact b267  σ H locs ls G27 G28  hI e27 e28 fr (lv_sub hl [0] rfl) h
    · replace h := ite_f hc h
      refine lv_aload_n hx hb dX12_readsPattern_241 rfl (lv_at hl 0 rfl) ?_
      refine gf_X12_95 hx hb hts hown hKK hI hN dX12_readsPattern_242 ?_
      refine lv_iconst (v := 0) hx hb dX12_readsPattern_245 (by decide) ?_
      obtain ⟨hin_, h⟩ := ck_e h
      refine la_52 hx hb hKK hI e28 (lc120 hN) (kc120 hk0) hin_ dX12_readsPattern_246 ?_
      refine lv_if_eq (tgt := 267) hx hb dX12_readsPattern_247 (by decide) (fun hc => ?_) (fun hc => ?_)
      · replace h := ite_t hc h
        exact b267  σ H locs ls G27 G28  hI e27 e28 fr (lv_sub hl [0] rfl) h
      · replace h := ite_f hc h
        refine lv_aload_n hx hb dX12_readsPattern_250 rfl (lv_at hl 0 rfl) ?_
        refine gt_X12_318 hx hb hts hown hKK hI e28 (lc91 hN) (kc91 hk0) dX12_readsPattern_251 ?_
        refine lv_aload_n hx hb dX12_readsPattern_254 rfl (lv_at hl 0 rfl) ?_
        refine gt_X12_321 hx hb hts hown hKK hI e28 (lc91 hN) (kc91 hk0) dX12_readsPattern_255 ?_
        refine lv_icmp_ge (tgt := 273) hx hb dX12_readsPattern_258 (by decide) (fun hc => ?_) (fun hc => ?_)
        · replace h := ite_t hc h
          exact b273  σ H locs ls G27 G28  hI e27 e28 fr (lv_sub hl [0] rfl) h
        · replace h := ite_f hc h
          refine lv_iload_n hx hb dX12_readsPattern_261 rfl (lv_at hl 2 rfl) ?_
          refine lv_bipush (v := 59) hx hb dX12_readsPattern_262 (by decide) ?_
          refine lv_icmp_eq (tgt := 273) hx hb dX12_readsPattern_264 (by decide) (fun hc => ?_) (fun hc => ?_)
          · replace h := ite_t hc h
            exact b273  σ H locs ls G27 G28  hI e27 e28 fr (lv_sub hl [0] rfl) h
          · replace h := ite_f hc h
            exact b267  σ H locs ls G27 G28  hI e27 e28 fr (lv_sub hl [0] rfl) h
  have b21 : ∀ (fu : Nat) (σ : St) (H : Heap) (locs : List Loc) (ls : Array Slot) (G27 : Grp) (G28 : Grp) (v1 : Int32) , IV HB D y n n κ σ locs H → σ 27 = G27 → σ 28 = G28 → (∀ j, j ∉ W_X12_readsPattern → σ j = σ0 j) → lv_has ls 3 [(0, .ref (HB.size + 91)), (1, .int v1)] → f_X12_readsPattern_l21 F  fu G27 G28 v1 = some q → WX RM_X12_readsPattern p l e s m args below meth c HB (some (.int q.1)) (B_X12_readsPattern HB D y n κ σ0 q) H locs (F0 m 21 ls []) := by
    intro  fu
    induction fu with
    | zero =>
      intro σ H locs ls G27 G28 v1 hI e27 e28 fr hl h
      exact absurd h (by intro h; cases h)
    | succ fu hk21 =>
      intro σ H locs ls G27 G28 v1 hI e27 e28 fr hl h
      have h : f_X12_readsPattern_l21b F  (f_X12_readsPattern_l21 F  fu) G27 G28 v1 = some q := h
      generalize f_X12_readsPattern_l21 F  fu = k21 at h hk21
      unfold f_X12_readsPattern_l21b at h
      refine lv_aload_n hx hb dX12_readsPattern_21 rfl (lv_at hl 0 rfl) ?_
      obtain ⟨q_22, hq_22, h⟩ := ob_e h
      refine r_callV (As := []) (rest := []) hx hb hml hts hown (c_X12_sign l HB D y F n κ σ hN  G27 e27 G28 e28 q_22 hq_22) cal_X12_sign im_X12_sign se_X12_sign lm_X12_349 ⟨Nat.le_of_ble_eq_true rfl, Nat.le_of_ble_eq_true rfl⟩ hI.nil hKK (r_recv hKK hI (hE12 HB.size y) rfl (lc91 hN) (kc91 hk0)) rfl hl.1 hI.2.2 rfl (Nat.le_of_ble_eq_true rfl) dX12_readsPattern_22 ⟨Nat.le_of_ble_eq_true rfl, Nat.le_of_ble_eq_true rfl⟩ rfl rfl rfl (fun H locs hB hlo => ?_)
      have hI := hB.re hlo
      refine lv_istore_n (lv' := [(2, .int q_22), (0, .ref (HB.size + 91)), (1, .int v1)]) hx hb dX12_readsPattern_25 rfl hl (by decide) rfl (fun ls hl => ?_)
      refine lv_iload_n hx hb dX12_readsPattern_26 rfl (lv_at hl 0 rfl) ?_
      obtain ⟨q_27, hq_27, h⟩ := ob_e h
      refine r_callS (As := [.int q_22]) (rest := []) hx hb hml hts hown (c_X12_isAtom l HB D y F n κ σ hN q_22  q_27 hq_27) cal_X12_isAtom st_X12_isAtom lm_X12_353 ⟨Nat.le_of_ble_eq_true rfl, Nat.le_of_ble_eq_true rfl⟩ hI.nil hKK rfl hl.1 hI.2.2 rfl (Nat.le_of_ble_eq_true rfl) dX12_readsPattern_27 ⟨Nat.le_of_ble_eq_true rfl, Nat.le_of_ble_eq_true rfl⟩ rfl rfl rfl (fun H locs hB hlo => ?_)
      have hI := hB.re hlo
      refine lv_if_eq (tgt := 77) hx hb dX12_readsPattern_30 (by decide) (fun hc => ?_) (fun hc => ?_)
      · replace h := ite_t hc h
        refine lv_iload_n hx hb dX12_readsPattern_77 rfl (lv_at hl 0 rfl) ?_
        refine lv_bipush (v := 40) hx hb dX12_readsPattern_78 (by decide) ?_
        refine lv_icmp_ne (tgt := 126) hx hb dX12_readsPattern_80 (by decide) (fun hc => ?_) (fun hc => ?_)
        · replace h := ite_f hc h
          refine lv_iload_n hx hb dX12_readsPattern_126 rfl (lv_at hl 0 rfl) ?_
          refine lv_bipush (v := 124) hx hb dX12_readsPattern_127 (by decide) ?_
          refine lv_icmp_ne (tgt := 181) hx hb dX12_readsPattern_129 (by decide) (fun hc => ?_) (fun hc => ?_)
          · replace h := ite_f hc h
            refine lv_iload_n hx hb dX12_readsPattern_181 rfl (lv_at hl 0 rfl) ?_
            refine lv_bipush (v := 41) hx hb dX12_readsPattern_182 (by decide) ?_
            refine lv_icmp_ne (tgt := 237) hx hb dX12_readsPattern_184 (by decide) (fun hc => ?_) (fun hc => ?_)
            · replace h := ite_f hc h
              exact b237  σ H locs ls G27 G28 v1 q_22  hI e27 e28 fr (lv_sub hl [1, 2, 0] rfl) h
            · replace h := ite_t hc h
              refine lv_iload_n hx hb dX12_readsPattern_187 rfl (lv_at hl 2 rfl) ?_
              refine lv_if_le (tgt := 237) hx hb dX12_readsPattern_188 (by decide) (fun hc => ?_) (fun hc => ?_)
              · replace h := ite_t hc h
                exact b237  σ H locs ls G27 G28 v1 q_22  hI e27 e28 fr (lv_sub hl [1, 2, 0] rfl) h
              · replace h := ite_f hc h
                refine lv_aload_n hx hb dX12_readsPattern_191 rfl (lv_at hl 1 rfl) ?_
                refine gf_X12_95 hx hb hts hown hKK hI hN dX12_readsPattern_192 ?_
                refine lv_iload_n hx hb dX12_readsPattern_195 rfl (lv_at hl 2 rfl) ?_
                obtain ⟨hin_, h⟩ := ck_e h
                refine la_52 hx hb hKK hI e28 (lc120 hN) (kc120 hk0) hin_ dX12_readsPattern_196 ?_
                refine lv_if_ne (tgt := 206) hx hb dX12_readsPattern_197 (by decide) (fun hc => ?_) (fun hc => ?_)
                · replace h := ite_f hc h
                  refine lv_aload_n hx hb dX12_readsPattern_206 rfl (lv_at hl 1 rfl) ?_
                  refine lv_iload_n hx hb dX12_readsPattern_207 rfl (lv_at hl 2 rfl) ?_
                  obtain ⟨q_208, hq_208, h⟩ := ob_e h
                  refine r_callV (As := [.int v1]) (rest := []) hx hb hml hts hown (c_X12_closesRows l HB D y F n κ σ hN v1 G28 e28 q_208 hq_208) cal_X12_closesRows im_X12_closesRows se_X12_closesRows lm_X12_365 ⟨Nat.le_of_ble_eq_true rfl, Nat.le_of_ble_eq_true rfl⟩ hI.nil hKK (r_recv hKK hI (hE12 HB.size y) rfl (lc91 hN) (kc91 hk0)) rfl hl.1 hI.2.2 rfl (Nat.le_of_ble_eq_true rfl) dX12_readsPattern_208 ⟨Nat.le_of_ble_eq_true rfl, Nat.le_of_ble_eq_true rfl⟩ rfl rfl rfl (fun H locs hB hlo => ?_)
                  obtain ⟨σ, hB, en28, ho⟩ := hB
                  have hI := hB.re hlo
                  have e28 := en28
                  have e27 := (ho 27 (ni rfl)).trans e27
                  have fr := frc fr ho (by decide)
                  refine lv_iload_n hx hb dX12_readsPattern_211 rfl (lv_at hl 2 rfl) ?_
                  refine lv_iconst (v := 1) hx hb dX12_readsPattern_212 (by decide) ?_
                  refine lv_isub hx hb dX12_readsPattern_213 ?_
                  obtain ⟨v1_214, qq, h⟩ := bn_e h
                  refine topi qq ?_
                  refine lv_istore_n (lv' := [(1, .int v1_214), (2, .int q_22), (0, .ref (HB.size + 91))]) hx hb dX12_readsPattern_214 rfl hl (by decide) rfl (fun ls hl => ?_)
                  refine lv_aload_n hx hb dX12_readsPattern_215 rfl (lv_at hl 2 rfl) ?_
                  refine lv_aload_n hx hb dX12_readsPattern_216 rfl (lv_at hl 2 rfl) ?_
                  refine gt_X12_318 hx hb hts hown hKK hI e28 (lc91 hN) (kc91 hk0) dX12_readsPattern_217 ?_
                  refine lv_iconst (v := 1) hx hb dX12_readsPattern_220 (by decide) ?_
                  refine lv_iadd hx hb dX12_readsPattern_221 ?_
                  obtain ⟨G28_222, qq, h⟩ := bn_e h
                  refine pt_X12_318 hx hb hts hown hKK hI e28 (lc91 hN) (kc91 hk0) dX12_readsPattern_222 (fun σ H locs hI ew ho => ?_)
                  have e28 := ew.trans qq.symm
                  have e27 := (ho 27 (nn rfl)).trans e27
                  have fr := frs fr ho (by decide)
                  refine lv_aload_n hx hb dX12_readsPattern_225 rfl (lv_at hl 2 rfl) ?_
                  obtain ⟨q_226, hq_226, h⟩ := ob_e h
                  refine r_callV (As := []) (rest := []) hx hb hml hts hown (c_X12_repeats l HB D y F n κ σ hN  G27 e27 G28_222 e28 q_226 hq_226) cal_X12_repeats im_X12_repeats se_X12_repeats lm_X12_356 ⟨Nat.le_of_ble_eq_true rfl, Nat.le_of_ble_eq_true rfl⟩ hI.nil hKK (r_recv hKK hI (hE12 HB.size y) rfl (lc91 hN) (kc91 hk0)) rfl hl.1 hI.2.2 rfl (Nat.le_of_ble_eq_true rfl) dX12_readsPattern_226 ⟨Nat.le_of_ble_eq_true rfl, Nat.le_of_ble_eq_true rfl⟩ rfl rfl rfl (fun H locs hB hlo => ?_)
                  obtain ⟨σ, hB, en28, ho⟩ := hB
                  have hI := hB.re hlo
                  have e28 := en28
                  have e27 := (ho 27 (ni rfl)).trans e27
                  have fr := frc fr ho (by decide)
                  refine lv_aload_n hx hb dX12_readsPattern_229 rfl (lv_at hl 2 rfl) ?_
                  refine lv_iload_n hx hb dX12_readsPattern_230 rfl (lv_at hl 0 rfl) ?_
                  obtain ⟨q_231, hq_231, h⟩ := ob_e h
                  refine r_callV (As := [.int v1_214]) (rest := []) hx hb hml hts hown (c_X12_comes l HB D y F n κ σ hN v1_214 q_226 e28 q_231 hq_231) cal_X12_comes im_X12_comes se_X12_comes lm_X12_359 ⟨Nat.le_of_ble_eq_true rfl, Nat.le_of_ble_eq_true rfl⟩ hI.nil hKK (r_recv hKK hI (hE12 HB.size y) rfl (lc91 hN) (kc91 hk0)) rfl hl.1 hI.2.2 rfl (Nat.le_of_ble_eq_true rfl) dX12_readsPattern_231 ⟨Nat.le_of_ble_eq_true rfl, Nat.le_of_ble_eq_true rfl⟩ rfl rfl rfl (fun H locs hB hlo => ?_)
                  obtain ⟨σ, hB, en28, ho⟩ := hB
                  have hI := hB.re hlo
                  have e28 := en28
                  have e27 := (ho 27 (ni rfl)).trans e27
                  have fr := frc fr ho (by decide)
                  refine lv_goto (tgt := 280) hx hb dX12_readsPattern_234 (by decide) ?_
                  refine lv_goto (tgt := 21) hx hb dX12_readsPattern_280 (by decide) ?_
                  exact hk21 σ H locs ls G27 q_231 v1_214  hI e27 e28 fr (lv_sub hl [2, 0] rfl) h
                · replace h := ite_t hc h
                  refine lv_aload_n hx hb dX12_readsPattern_200 rfl (lv_at hl 1 rfl) ?_
                  refine lv_iconst (v := 1) hx hb dX12_readsPattern_201 (by decide) ?_
                  obtain ⟨q_202, hq_202, h⟩ := ob_e h
                  refine r_callV (As := [.int 1]) (rest := []) hx hb hml hts hown (c_X12_wrong l HB D y F n κ σ hN 1 G28 e28 q_202 hq_202) cal_X12_wrong im_X12_wrong se_X12_wrong lm_X12_362 ⟨Nat.le_of_ble_eq_true rfl, Nat.le_of_ble_eq_true rfl⟩ hI.nil hKK (r_recv hKK hI (hE12 HB.size y) rfl (lc91 hN) (kc91 hk0)) rfl hl.1 hI.2.2 rfl (Nat.le_of_ble_eq_true rfl) dX12_readsPattern_202 ⟨Nat.le_of_ble_eq_true rfl, Nat.le_of_ble_eq_true rfl⟩ rfl rfl rfl (fun H locs hB hlo => ?_)
                  obtain ⟨σ, hB, en28, ho⟩ := hB
                  have hI := hB.re hlo
                  have e28 := en28
                  have e27 := (ho 27 (ni rfl)).trans e27
                  have fr := frc fr ho (by decide)
                  obtain ⟨hz, h⟩ := cb_e h
                  have hq := Option.some.inj h
                  exact W.zret (v := q_202.1) (ty := .boolean) hx hb hr hz (fun t ht hW => qc_mk (congrArg (fun z => Outcome.returned (some (Value.int z.1))) hq) (by rw [ht]; exact ⟨σ, hI.nil, e28.trans (congrArg (fun z => z.2) hq), fr⟩)) hI.2.2 dX12_readsPattern_205 hlocks
          · replace h := ite_t hc h
            refine lv_aload_n hx hb dX12_readsPattern_132 rfl (lv_at hl 1 rfl) ?_
            refine gf_X12_95 hx hb hts hown hKK hI hN dX12_readsPattern_133 ?_
            refine lv_iload_n hx hb dX12_readsPattern_136 rfl (lv_at hl 2 rfl) ?_
            obtain ⟨hin_, h⟩ := ck_e h
            refine la_52 hx hb hKK hI e28 (lc120 hN) (kc120 hk0) hin_ dX12_readsPattern_137 ?_
            refine lv_if_ne (tgt := 147) hx hb dX12_readsPattern_138 (by decide) (fun hc => ?_) (fun hc => ?_)
            · replace h := ite_f hc h
              refine lv_aload_n hx hb dX12_readsPattern_147 rfl (lv_at hl 1 rfl) ?_
              refine gf_X12_98 hx hb hts hown hKK hI hN dX12_readsPattern_148 ?_
              refine lv_iload_n hx hb dX12_readsPattern_151 rfl (lv_at hl 2 rfl) ?_
              refine lv_aload_n hx hb dX12_readsPattern_152 rfl (lv_at hl 1 rfl) ?_
              refine gf_X12_98 hx hb hts hown hKK hI hN dX12_readsPattern_153 ?_
              refine lv_iload_n hx hb dX12_readsPattern_156 rfl (lv_at hl 2 rfl) ?_
              obtain ⟨hin_, h⟩ := ck_e h
              refine la_52 hx hb hKK hI e28 (lc121 hN) (kc121 hk0) hin_ dX12_readsPattern_157 ?_
              refine lv_iconst (v := 1) hx hb dX12_readsPattern_158 (by decide) ?_
              refine lv_iadd hx hb dX12_readsPattern_159 ?_
              obtain ⟨hin_, h⟩ := ck_e h
              obtain ⟨G28_160, qq, h⟩ := bn_e h
              refine sa_52 hx hb hKK hI e28 (lc121 hN) (kc121 hk0) hin_ dX12_readsPattern_160 (fun σ H locs hI ew ho => ?_)
              have e28 := ew.trans qq.symm
              have e27 := (ho 27 (nn rfl)).trans e27
              have fr := frs fr ho (by decide)
              refine lv_aload_n hx hb dX12_readsPattern_161 rfl (lv_at hl 1 rfl) ?_
              refine gf_X12_95 hx hb hts hown hKK hI hN dX12_readsPattern_162 ?_
              refine lv_iload_n hx hb dX12_readsPattern_165 rfl (lv_at hl 2 rfl) ?_
              refine lv_iconst (v := 0) hx hb dX12_readsPattern_166 (by decide) ?_
              obtain ⟨hin_, h⟩ := ck_e h
              obtain ⟨G28_167, qq, h⟩ := bn_e h
              refine sa_52 hx hb hKK hI e28 (lc120 hN) (kc120 hk0) hin_ dX12_readsPattern_167 (fun σ H locs hI ew ho => ?_)
              have e28 := ew.trans qq.symm
              have e27 := (ho 27 (nn rfl)).trans e27
              have fr := frs fr ho (by decide)
              refine lv_aload_n hx hb dX12_readsPattern_168 rfl (lv_at hl 1 rfl) ?_
              refine lv_aload_n hx hb dX12_readsPattern_169 rfl (lv_at hl 1 rfl) ?_
              refine gt_X12_318 hx hb hts hown hKK hI e28 (lc91 hN) (kc91 hk0) dX12_readsPattern_170 ?_
              refine lv_iconst (v := 1) hx hb dX12_readsPattern_173 (by decide) ?_
              refine lv_iadd hx hb dX12_readsPattern_174 ?_
              obtain ⟨G28_175, qq, h⟩ := bn_e h
              refine pt_X12_318 hx hb hts hown hKK hI e28 (lc91 hN) (kc91 hk0) dX12_readsPattern_175 (fun σ H locs hI ew ho => ?_)
              have e28 := ew.trans qq.symm
              have e27 := (ho 27 (nn rfl)).trans e27
              have fr := frs fr ho (by decide)
              refine lv_goto (tgt := 280) hx hb dX12_readsPattern_178 (by decide) ?_
              refine lv_goto (tgt := 21) hx hb dX12_readsPattern_280 (by decide) ?_
              exact hk21 σ H locs ls G27 G28_175 v1  hI e27 e28 fr (lv_sub hl [1, 2] rfl) h
            · replace h := ite_t hc h
              refine lv_aload_n hx hb dX12_readsPattern_141 rfl (lv_at hl 1 rfl) ?_
              refine lv_iconst (v := 1) hx hb dX12_readsPattern_142 (by decide) ?_
              obtain ⟨q_143, hq_143, h⟩ := ob_e h
              refine r_callV (As := [.int 1]) (rest := []) hx hb hml hts hown (c_X12_wrong l HB D y F n κ σ hN 1 G28 e28 q_143 hq_143) cal_X12_wrong im_X12_wrong se_X12_wrong lm_X12_362 ⟨Nat.le_of_ble_eq_true rfl, Nat.le_of_ble_eq_true rfl⟩ hI.nil hKK (r_recv hKK hI (hE12 HB.size y) rfl (lc91 hN) (kc91 hk0)) rfl hl.1 hI.2.2 rfl (Nat.le_of_ble_eq_true rfl) dX12_readsPattern_143 ⟨Nat.le_of_ble_eq_true rfl, Nat.le_of_ble_eq_true rfl⟩ rfl rfl rfl (fun H locs hB hlo => ?_)
              obtain ⟨σ, hB, en28, ho⟩ := hB
              have hI := hB.re hlo
              have e28 := en28
              have e27 := (ho 27 (ni rfl)).trans e27
              have fr := frc fr ho (by decide)
              obtain ⟨hz, h⟩ := cb_e h
              have hq := Option.some.inj h
              exact W.zret (v := q_143.1) (ty := .boolean) hx hb hr hz (fun t ht hW => qc_mk (congrArg (fun z => Outcome.returned (some (Value.int z.1))) hq) (by rw [ht]; exact ⟨σ, hI.nil, e28.trans (congrArg (fun z => z.2) hq), fr⟩)) hI.2.2 dX12_readsPattern_146 hlocks
        · replace h := ite_t hc h
          refine lv_iload_n hx hb dX12_readsPattern_83 rfl (lv_at hl 2 rfl) ?_
          refine lv_bipush (v := 6) hx hb dX12_readsPattern_84 (by decide) ?_
          refine lv_icmp_ne (tgt := 95) hx hb dX12_readsPattern_86 (by decide) (fun hc => ?_) (fun hc => ?_)
          · replace h := ite_f hc h
            refine lv_iload_n hx hb dX12_readsPattern_95 rfl (lv_at hl 2 rfl) ?_
            refine lv_iconst (v := 1) hx hb dX12_readsPattern_96 (by decide) ?_
            refine lv_iadd hx hb dX12_readsPattern_97 ?_
            obtain ⟨v1_98, qq, h⟩ := bn_e h
            refine topi qq ?_
            refine lv_istore_n (lv' := [(1, .int v1_98), (2, .int q_22), (0, .ref (HB.size + 91))]) hx hb dX12_readsPattern_98 rfl hl (by decide) rfl (fun ls hl => ?_)
            refine lv_aload_n hx hb dX12_readsPattern_99 rfl (lv_at hl 2 rfl) ?_
            refine gf_X12_95 hx hb hts hown hKK hI hN dX12_readsPattern_100 ?_
            refine lv_iload_n hx hb dX12_readsPattern_103 rfl (lv_at hl 0 rfl) ?_
            refine lv_iconst (v := 0) hx hb dX12_readsPattern_104 (by decide) ?_
            obtain ⟨hin_, h⟩ := ck_e h
            obtain ⟨G28_105, qq, h⟩ := bn_e h
            refine sa_52 hx hb hKK hI e28 (lc120 hN) (kc120 hk0) hin_ dX12_readsPattern_105 (fun σ H locs hI ew ho => ?_)
            have e28 := ew.trans qq.symm
            have e27 := (ho 27 (nn rfl)).trans e27
            have fr := frs fr ho (by decide)
            refine lv_aload_n hx hb dX12_readsPattern_106 rfl (lv_at hl 2 rfl) ?_
            refine gf_X12_98 hx hb hts hown hKK hI hN dX12_readsPattern_107 ?_
            refine lv_iload_n hx hb dX12_readsPattern_110 rfl (lv_at hl 0 rfl) ?_
            refine lv_iconst (v := 0) hx hb dX12_readsPattern_111 (by decide) ?_
            obtain ⟨hin_, h⟩ := ck_e h
            obtain ⟨G28_112, qq, h⟩ := bn_e h
            refine sa_52 hx hb hKK hI e28 (lc121 hN) (kc121 hk0) hin_ dX12_readsPattern_112 (fun σ H locs hI ew ho => ?_)
            have e28 := ew.trans qq.symm
            have e27 := (ho 27 (nn rfl)).trans e27
            have fr := frs fr ho (by decide)
            refine lv_aload_n hx hb dX12_readsPattern_113 rfl (lv_at hl 2 rfl) ?_
            refine lv_aload_n hx hb dX12_readsPattern_114 rfl (lv_at hl 2 rfl) ?_
            refine gt_X12_318 hx hb hts hown hKK hI e28 (lc91 hN) (kc91 hk0) dX12_readsPattern_115 ?_
            refine lv_iconst (v := 1) hx hb dX12_readsPattern_118 (by decide) ?_
            refine lv_iadd hx hb dX12_readsPattern_119 ?_
            obtain ⟨G28_120, qq, h⟩ := bn_e h
            refine pt_X12_318 hx hb hts hown hKK hI e28 (lc91 hN) (kc91 hk0) dX12_readsPattern_120 (fun σ H locs hI ew ho => ?_)
            have e28 := ew.trans qq.symm
            have e27 := (ho 27 (nn rfl)).trans e27
            have fr := frs fr ho (by decide)
            refine lv_goto (tgt := 280) hx hb dX12_readsPattern_123 (by decide) ?_
            refine lv_goto (tgt := 21) hx hb dX12_readsPattern_280 (by decide) ?_
            exact hk21 σ H locs ls G27 G28_120 v1_98  hI e27 e28 fr (lv_sub hl [2, 0] rfl) h
          · replace h := ite_t hc h
            refine lv_aload_n hx hb dX12_readsPattern_89 rfl (lv_at hl 1 rfl) ?_
            refine lv_iconst (v := 3) hx hb dX12_readsPattern_90 (by decide) ?_
            obtain ⟨q_91, hq_91, h⟩ := ob_e h
            refine r_callV (As := [.int 3]) (rest := []) hx hb hml hts hown (c_X12_wrong l HB D y F n κ σ hN 3 G28 e28 q_91 hq_91) cal_X12_wrong im_X12_wrong se_X12_wrong lm_X12_362 ⟨Nat.le_of_ble_eq_true rfl, Nat.le_of_ble_eq_true rfl⟩ hI.nil hKK (r_recv hKK hI (hE12 HB.size y) rfl (lc91 hN) (kc91 hk0)) rfl hl.1 hI.2.2 rfl (Nat.le_of_ble_eq_true rfl) dX12_readsPattern_91 ⟨Nat.le_of_ble_eq_true rfl, Nat.le_of_ble_eq_true rfl⟩ rfl rfl rfl (fun H locs hB hlo => ?_)
            obtain ⟨σ, hB, en28, ho⟩ := hB
            have hI := hB.re hlo
            have e28 := en28
            have e27 := (ho 27 (ni rfl)).trans e27
            have fr := frc fr ho (by decide)
            obtain ⟨hz, h⟩ := cb_e h
            have hq := Option.some.inj h
            exact W.zret (v := q_91.1) (ty := .boolean) hx hb hr hz (fun t ht hW => qc_mk (congrArg (fun z => Outcome.returned (some (Value.int z.1))) hq) (by rw [ht]; exact ⟨σ, hI.nil, e28.trans (congrArg (fun z => z.2) hq), fr⟩)) hI.2.2 dX12_readsPattern_94 hlocks
      · replace h := ite_f hc h
        refine lv_aload_n hx hb dX12_readsPattern_33 rfl (lv_at hl 1 rfl) ?_
        refine lv_aload_n hx hb dX12_readsPattern_34 rfl (lv_at hl 1 rfl) ?_
        refine gt_X12_318 hx hb hts hown hKK hI e28 (lc91 hN) (kc91 hk0) dX12_readsPattern_35 ?_
        refine lv_iconst (v := 1) hx hb dX12_readsPattern_38 (by decide) ?_
        refine lv_iadd hx hb dX12_readsPattern_39 ?_
        obtain ⟨G28_40, qq, h⟩ := bn_e h
        refine pt_X12_318 hx hb hts hown hKK hI e28 (lc91 hN) (kc91 hk0) dX12_readsPattern_40 (fun σ H locs hI ew ho => ?_)
        have e28 := ew.trans qq.symm
        have e27 := (ho 27 (nn rfl)).trans e27
        have fr := frs fr ho (by decide)
        refine lv_aload_n hx hb dX12_readsPattern_43 rfl (lv_at hl 1 rfl) ?_
        refine lv_aload_n hx hb dX12_readsPattern_44 rfl (lv_at hl 1 rfl) ?_
        refine lv_iload_n hx hb dX12_readsPattern_45 rfl (lv_at hl 0 rfl) ?_
        refine lv_bipush (v := 94) hx hb dX12_readsPattern_46 (by decide) ?_
        refine lv_icmp_ne (tgt := 55) hx hb dX12_readsPattern_48 (by decide) (fun hc => ?_) (fun hc => ?_)
        · replace h := ite_f hc h
          refine lv_iconst (v := 0) hx hb dX12_readsPattern_55 (by decide) ?_
          exact b56 k21 hk21 σ H locs ls G27 G28_40 v1 q_22 0  hI e27 e28 fr (lv_sub hl [1, 2, 0] rfl) h
        · replace h := ite_t hc h
          refine lv_iconst (v := 1) hx hb dX12_readsPattern_51 (by decide) ?_
          refine lv_goto (tgt := 56) hx hb dX12_readsPattern_52 (by decide) ?_
          exact b56 k21 hk21 σ H locs ls G27 G28_40 v1 q_22 1  hI e27 e28 fr (lv_sub hl [1, 2, 0] rfl) h
  obtain ⟨σ, hI, e27, e28, fr⟩ : ∃ σ : St, IV HB D y n n κ σ [] s.heap ∧ σ 27 = G27 ∧ σ 28 = G28 ∧ ∀ j, j ∉ W_X12_readsPattern → σ j = σ0 j := ⟨σ0, hI, e27, e28, fun _ _ => rfl⟩
  show WX RM_X12_readsPattern p l e s m args below meth c HB (some (.int q.1)) (B_X12_readsPattern HB D y n κ σ0 q) s.heap [] (F0 m 0 ls [])
  generalize s.heap = H at hI ⊢
  unfold f_X12_readsPattern at h
  obtain ⟨locs, hlocs⟩ : ∃ x : List Loc, x = [] := ⟨_, rfl⟩
  rw [← hlocs] at hI ⊢
  refine lv_iconst (v := 0) hx hb dX12_readsPattern_0 (by decide) ?_
  refine lv_istore_n (lv' := [(1, .int 0), (0, .ref (HB.size + 91))]) hx hb dX12_readsPattern_1 rfl hl (by decide) rfl (fun ls hl => ?_)
  refine lv_aload_n hx hb dX12_readsPattern_2 rfl (lv_at hl 1 rfl) ?_
  refine lv_iconst (v := 0) hx hb dX12_readsPattern_3 (by decide) ?_
  obtain ⟨G28_4, qq, h⟩ := bn_e h
  refine pt_X12_330 hx hb hts hown hKK hI e28 (lc91 hN) (kc91 hk0) dX12_readsPattern_4 (fun σ H locs hI ew ho => ?_)
  have e28 := ew.trans qq.symm
  have e27 := (ho 27 (nn rfl)).trans e27
  have fr := frs fr ho (by decide)
  refine lv_aload_n hx hb dX12_readsPattern_7 rfl (lv_at hl 1 rfl) ?_
  refine gf_X12_95 hx hb hts hown hKK hI hN dX12_readsPattern_8 ?_
  refine lv_iconst (v := 0) hx hb dX12_readsPattern_11 (by decide) ?_
  refine lv_iconst (v := 0) hx hb dX12_readsPattern_12 (by decide) ?_
  obtain ⟨hin_, h⟩ := ck_e h
  obtain ⟨G28_13, qq, h⟩ := bn_e h
  refine sa_52 hx hb hKK hI e28 (lc120 hN) (kc120 hk0) hin_ dX12_readsPattern_13 (fun σ H locs hI ew ho => ?_)
  have e28 := ew.trans qq.symm
  have e27 := (ho 27 (nn rfl)).trans e27
  have fr := frs fr ho (by decide)
  refine lv_aload_n hx hb dX12_readsPattern_14 rfl (lv_at hl 1 rfl) ?_
  refine gf_X12_98 hx hb hts hown hKK hI hN dX12_readsPattern_15 ?_
  refine lv_iconst (v := 0) hx hb dX12_readsPattern_18 (by decide) ?_
  refine lv_iconst (v := 0) hx hb dX12_readsPattern_19 (by decide) ?_
  obtain ⟨hin_, h⟩ := ck_e h
  obtain ⟨G28_20, qq, h⟩ := bn_e h
  refine sa_52 hx hb hKK hI e28 (lc121 hN) (kc121 hk0) hin_ dX12_readsPattern_20 (fun σ H locs hI ew ho => ?_)
  have e28 := ew.trans qq.symm
  have e27 := (ho 27 (nn rfl)).trans e27
  have fr := frs fr ho (by decide)
  exact b21  F σ H locs ls G27 G28_20 0  hI e27 e28 fr (lv_sub hl [1, 0] rfl) h
noncomputable def f_X12_readsRule_b86 (F : Nat)  (G27 : Grp) (G28 : Grp)  : Option (Int32 × Grp) :=
  ob (f_X12_wrong F G28 1) (fun q_88 => cb (q_88.1) (some (q_88.1, q_88.2)))
noncomputable def f_X12_readsRule_b110 (F : Nat)  (G27 : Grp) (G28 : Grp) (v2 : Int32) : Option (Int32 × Grp) :=
  ob (f_X12_sign F G27 G28) (fun q_111 => if q_111 = 58 then bn (gI G28 91 21 ((G28.1 91 21) + 1)) (fun G28_132 => ob (f_X12_readsPattern F G27 G28_132) (fun q_136 => if q_136.1 = 0 then some (0, q_136.2) else ck (q_136.2.1 91 40) 12 (bn (gI (q_136.2) 117 (q_136.2.1 91 40).toNatClampNeg v2) (fun G28_153 => ck 0 220 (ck (G28_153.1 91 40) 12 (bn (gI G28_153 118 (G28_153.1 91 40).toNatClampNeg (G28_153.1 119 (0 : Int32).toNatClampNeg)) (fun G28_168 => bn (gI G28_168 91 40 ((G28_168.1 91 40) + 1)) (fun G28_176 => some (1, G28_176))))))))) else ob (f_X12_wrong F G28 1) (fun q_121 => cb (q_121.1) (some (q_121.1, q_121.2))))
noncomputable def f_X12_readsRule_b35 (F : Nat)  (G27 : Grp) (G28 : Grp) (v1 : Int32) : Option (Int32 × Grp) :=
  if (G28.1 91 40) = 12 then ob (f_X12_wrong F G28 2) (fun q_46 => cb (q_46.1) (some (q_46.1, q_46.2))) else bn (gI G28 91 21 ((G28.1 91 21) + 1)) (fun G28_57 => if v1 = 110 then ob (f_X12_sign F G27 G28_57) (fun q_69 => if q_69 < 48 then f_X12_readsRule_b86 F  G27 G28_57 else ob (f_X12_sign F G27 G28_57) (fun q_78 => if q_78 ≤ 55 then ob (f_X12_sign F G27 G28_57) (fun q_93 => bn ((q_93 - 48)) (fun v2_99 => bn (gI G28_57 91 21 ((G28_57.1 91 21) + 1)) (fun G28_107 => f_X12_readsRule_b110 F  G27 G28_107 v2_99))) else f_X12_readsRule_b86 F  G27 G28_57)) else f_X12_readsRule_b110 F  G27 G28_57 v1)
noncomputable def f_X12_readsRule (F : Nat) (G27 : Grp) (G28 : Grp)  : Option (Int32 × Grp) :=
  ob (f_X12_sign F G27 G28) (fun q_1 => if q_1 = 99 then f_X12_readsRule_b35 F  G27 G28 q_1 else if q_1 = 104 then f_X12_readsRule_b35 F  G27 G28 q_1 else if q_1 = 114 then f_X12_readsRule_b35 F  G27 G28 q_1 else if q_1 = 110 then f_X12_readsRule_b35 F  G27 G28 q_1 else ob (f_X12_wrong F G28 1) (fun q_31 => cb (q_31.1) (some (q_31.1, q_31.2))))
def RM_X12_readsRule : Room := { frames := 4, cells := 0, slots := 0, locals := 91 }
abbrev W_X12_readsRule : List Nat := [28]
abbrev B_X12_readsRule (HB : Heap) (D : va_G) (y : Nat → ClassId) (n : Nat) (κ : Nat → Nat) (σ0 : St) (q : Int32 × Grp) : Heap → Prop := fun H => ∃ σ : St, IV HB D y n n κ σ [] H ∧ σ 28 = q.2 ∧ ∀ j, j ∉ W_X12_readsRule → σ j = σ0 j
set_option maxRecDepth 100000 in
set_option maxHeartbeats 4000000 in
theorem c_X12_readsRule (l : Launch) (HB : Heap) (D : va_G) (y : Nat → ClassId) (F n : Nat) (κ : Nat → Nat) (σ0 : St) (hN : N0 ≤ n)  (G27 : Grp) (e27 : σ0 27 = G27) (G28 : Grp) (e28 : σ0 28 = G28) (q : Int32 × Grp) (h : f_X12_readsRule F G27 G28 = some q) : MT l HB D y yX12_readsRule cX12_readsRule 3 (some .boolean) RM_X12_readsRule [.ref (HB.size + 91)] (IV HB D y n n κ σ0 []) (some (.int q.1)) (B_X12_readsRule HB D y n κ σ0 q) := by
  refine Met.ofW (cc := cX12_readsRule) (maxL := 3) (ret := (some .boolean)) (by decide) rfl ?_
  intro p e s m args below meth c s₁ BL hml hv
  obtain ⟨rfl, hI, hKK⟩ := hv
  have hx := BL.exec
  have hb := BL.bytes
  have hr := BL.returns
  have hts : ∀ w ∈ gtb, w.before _ s = true := fun w hw => atoms_spec BL.pre w (List.mem_cons_of_mem _ hw)
  have hml : c.maxLocals = 3 := hml
  have hown : s.vm.findClass RX12 = some m.cls := findClass_of_methodNamed BL.named
  have hlocks := BL.notSynchronized
  have hk0 := hI.1.2.2.2.2
  have hl := lv_entry ([.ref (HB.size + 91)]) (n := 3) (Nat.le_of_ble_eq_true rfl)
  rw [lg_entry_eq]
  generalize (lg_sl ([.ref (HB.size + 91)]) ++ List.replicate (3 - (lg_sl ([.ref (HB.size + 91)])).length) Slot.unset).toArray = ls at hl ⊢
  have hl : lv_has ls 3 [(0, .ref (HB.size + 91))] := hl
  generalize hargs : ([.ref (HB.size + 91)] : List Value).toArray = args at *
  have b86 : ∀ (σ : St) (H : Heap) (locs : List Loc) (ls : Array Slot) (G27 : Grp) (G28 : Grp)  , IV HB D y n n κ σ locs H → σ 27 = G27 → σ 28 = G28 → (∀ j, j ∉ W_X12_readsRule → σ j = σ0 j) → lv_has ls 3 [(0, .ref (HB.size + 91))] → f_X12_readsRule_b86 F  G27 G28 = some q → WX RM_X12_readsRule p l e s m args below meth c HB (some (.int q.1)) (B_X12_readsRule HB D y n κ σ0 q) H locs (F0 m 86 ls []) := by
    intro  σ H locs ls G27 G28 hI e27 e28 fr hl h
    unfold f_X12_readsRule_b86 at h
    refine lv_aload_n hx hb dX12_readsRule_86 rfl (lv_at hl 0 rfl) ?_
    refine lv_iconst (v := 1) hx hb dX12_readsRule_87 (by decide) ?_
    obtain ⟨q_88, hq_88, h⟩ := ob_e h
    refine r_callV (As := [.int 1]) (rest := []) hx hb hml hts hown (c_X12_wrong l HB D y F n κ σ hN 1 G28 e28 q_88 hq_88) cal_X12_wrong im_X12_wrong se_X12_wrong lm_X12_362 ⟨Nat.le_of_ble_eq_true rfl, Nat.le_of_ble_eq_true rfl⟩ hI.nil hKK (r_recv hKK hI (hE12 HB.size y) rfl (lc91 hN) (kc91 hk0)) rfl hl.1 hI.2.2 rfl (Nat.le_of_ble_eq_true rfl) dX12_readsRule_88 ⟨Nat.le_of_ble_eq_true rfl, Nat.le_of_ble_eq_true rfl⟩ rfl rfl rfl (fun H locs hB hlo => ?_)
    obtain ⟨σ, hB, en28, ho⟩ := hB
    have hI := hB.re hlo
    have e28 := en28
    have e27 := (ho 27 (ni rfl)).trans e27
    have fr := frc fr ho (by decide)
    obtain ⟨hz, h⟩ := cb_e h
    have hq := Option.some.inj h
    exact W.zret (v := q_88.1) (ty := .boolean) hx hb hr hz (fun t ht hW => qc_mk (congrArg (fun z => Outcome.returned (some (Value.int z.1))) hq) (by rw [ht]; exact ⟨σ, hI.nil, e28.trans (congrArg (fun z => z.2) hq), fr⟩)) hI.2.2 dX12_readsRule_91 hlocks
  have b110 : ∀ (σ : St) (H : Heap) (locs : List Loc) (ls : Array Slot) (G27 : Grp) (G28 : Grp) (v2 : Int32) , IV HB D y n n κ σ locs H → σ 27 = G27 → σ 28 = G28 → (∀ j, j ∉ W_X12_readsRule → σ j = σ0 j) → lv_has ls 3 [(0, .ref (HB.size + 91)), (2, .int v2)] → f_X12_readsRule_b110 F  G27 G28 v2 = some q → WX RM_X12_readsRule p l e s m args below meth c HB (some (.int q.1)) (B_X12_readsRule HB D y n κ σ0 q) H locs (F0 m 110 ls []) := by
    intro  σ H locs ls G27 G28 v2 hI e27 e28 fr hl h
    unfold f_X12_readsRule_b110 at h
    refine lv_aload_n hx hb dX12_readsRule_110 rfl (lv_at hl 0 rfl) ?_
    obtain ⟨q_111, hq_111, h⟩ := ob_e h
    refine r_callV (As := []) (rest := []) hx hb hml hts hown (c_X12_sign l HB D y F n κ σ hN  G27 e27 G28 e28 q_111 hq_111) cal_X12_sign im_X12_sign se_X12_sign lm_X12_349 ⟨Nat.le_of_ble_eq_true rfl, Nat.le_of_ble_eq_true rfl⟩ hI.nil hKK (r_recv hKK hI (hE12 HB.size y) rfl (lc91 hN) (kc91 hk0)) rfl hl.1 hI.2.2 rfl (Nat.le_of_ble_eq_true rfl) dX12_readsRule_111 ⟨Nat.le_of_ble_eq_true rfl, Nat.le_of_ble_eq_true rfl⟩ rfl rfl rfl (fun H locs hB hlo => ?_)
    have hI := hB.re hlo
    refine lv_bipush (v := 58) hx hb dX12_readsRule_114 (by decide) ?_
    refine lv_icmp_eq (tgt := 125) hx hb dX12_readsRule_116 (by decide) (fun hc => ?_) (fun hc => ?_)
    · replace h := ite_t hc h
      refine lv_aload_n hx hb dX12_readsRule_125 rfl (lv_at hl 0 rfl) ?_
      refine lv_aload_n hx hb dX12_readsRule_126 rfl (lv_at hl 0 rfl) ?_
      refine gt_X12_318 hx hb hts hown hKK hI e28 (lc91 hN) (kc91 hk0) dX12_readsRule_127 ?_
      refine lv_iconst (v := 1) hx hb dX12_readsRule_130 (by decide) ?_
      refine lv_iadd hx hb dX12_readsRule_131 ?_
      obtain ⟨G28_132, qq, h⟩ := bn_e h
      refine pt_X12_318 hx hb hts hown hKK hI e28 (lc91 hN) (kc91 hk0) dX12_readsRule_132 (fun σ H locs hI ew ho => ?_)
      have e28 := ew.trans qq.symm
      have e27 := (ho 27 (nn rfl)).trans e27
      have fr := frs fr ho (by decide)
      refine lv_aload_n hx hb dX12_readsRule_135 rfl (lv_at hl 0 rfl) ?_
      obtain ⟨q_136, hq_136, h⟩ := ob_e h
      refine r_callV (As := []) (rest := []) hx hb hml hts hown (c_X12_readsPattern l HB D y F n κ σ hN  G27 e27 G28_132 e28 q_136 hq_136) cal_X12_readsPattern im_X12_readsPattern se_X12_readsPattern lm_X12_371 ⟨Nat.le_of_ble_eq_true rfl, Nat.le_of_ble_eq_true rfl⟩ hI.nil hKK (r_recv hKK hI (hE12 HB.size y) rfl (lc91 hN) (kc91 hk0)) rfl hl.1 hI.2.2 rfl (Nat.le_of_ble_eq_true rfl) dX12_readsRule_136 ⟨Nat.le_of_ble_eq_true rfl, Nat.le_of_ble_eq_true rfl⟩ rfl rfl rfl (fun H locs hB hlo => ?_)
      obtain ⟨σ, hB, en28, ho⟩ := hB
      have hI := hB.re hlo
      have e28 := en28
      have e27 := (ho 27 (ni rfl)).trans e27
      have fr := frc fr ho (by decide)
      refine lv_if_ne (tgt := 144) hx hb dX12_readsRule_139 (by decide) (fun hc => ?_) (fun hc => ?_)
      · replace h := ite_f hc h
        refine lv_aload_n hx hb dX12_readsRule_144 rfl (lv_at hl 0 rfl) ?_
        refine gf_X12_86 hx hb hts hown hKK hI hN dX12_readsRule_145 ?_
        refine lv_aload_n hx hb dX12_readsRule_148 rfl (lv_at hl 0 rfl) ?_
        refine gt_X12_368 hx hb hts hown hKK hI e28 (lc91 hN) (kc91 hk0) dX12_readsRule_149 ?_
        refine lv_iload_n hx hb dX12_readsRule_152 rfl (lv_at hl 1 rfl) ?_
        obtain ⟨hin_, h⟩ := ck_e h
        obtain ⟨G28_153, qq, h⟩ := bn_e h
        refine sa_50 hx hb hKK hI e28 (lc117 hN) (kc117 hk0) hin_ dX12_readsRule_153 (fun σ H locs hI ew ho => ?_)
        have e28 := ew.trans qq.symm
        have e27 := (ho 27 (nn rfl)).trans e27
        have fr := frs fr ho (by decide)
        refine lv_aload_n hx hb dX12_readsRule_154 rfl (lv_at hl 0 rfl) ?_
        refine gf_X12_89 hx hb hts hown hKK hI hN dX12_readsRule_155 ?_
        refine lv_aload_n hx hb dX12_readsRule_158 rfl (lv_at hl 0 rfl) ?_
        refine gt_X12_368 hx hb hts hown hKK hI e28 (lc91 hN) (kc91 hk0) dX12_readsRule_159 ?_
        refine lv_aload_n hx hb dX12_readsRule_162 rfl (lv_at hl 0 rfl) ?_
        refine gf_X12_92 hx hb hts hown hKK hI hN dX12_readsRule_163 ?_
        refine lv_iconst (v := 0) hx hb dX12_readsRule_166 (by decide) ?_
        obtain ⟨hin_, h⟩ := ck_e h
        refine la_51 hx hb hKK hI e28 (lc119 hN) (kc119 hk0) hin_ dX12_readsRule_167 ?_
        obtain ⟨hin_, h⟩ := ck_e h
        obtain ⟨G28_168, qq, h⟩ := bn_e h
        refine sa_50 hx hb hKK hI e28 (lc118 hN) (kc118 hk0) hin_ dX12_readsRule_168 (fun σ H locs hI ew ho => ?_)
        have e28 := ew.trans qq.symm
        have e27 := (ho 27 (nn rfl)).trans e27
        have fr := frs fr ho (by decide)
        refine lv_aload_n hx hb dX12_readsRule_169 rfl (lv_at hl 0 rfl) ?_
        refine lv_aload_n hx hb dX12_readsRule_170 rfl (lv_at hl 0 rfl) ?_
        refine gt_X12_368 hx hb hts hown hKK hI e28 (lc91 hN) (kc91 hk0) dX12_readsRule_171 ?_
        refine lv_iconst (v := 1) hx hb dX12_readsRule_174 (by decide) ?_
        refine lv_iadd hx hb dX12_readsRule_175 ?_
        obtain ⟨G28_176, qq, h⟩ := bn_e h
        refine pt_X12_368 hx hb hts hown hKK hI e28 (lc91 hN) (kc91 hk0) dX12_readsRule_176 (fun σ H locs hI ew ho => ?_)
        have e28 := ew.trans qq.symm
        have e27 := (ho 27 (nn rfl)).trans e27
        have fr := frs fr ho (by decide)
        refine lv_iconst (v := 1) hx hb dX12_readsRule_179 (by decide) ?_
        have hq := Option.some.inj h
        exact W.zret (v := 1) (ty := .boolean) hx hb hr rfl (fun t ht hW => qc_mk (congrArg (fun z => Outcome.returned (some (Value.int z.1))) hq) (by rw [ht]; exact ⟨σ, hI.nil, e28.trans (congrArg (fun z => z.2) hq), fr⟩)) hI.2.2 dX12_readsRule_180 hlocks
      · replace h := ite_t hc h
        refine lv_iconst (v := 0) hx hb dX12_readsRule_142 (by decide) ?_
        have hq := Option.some.inj h
        exact W.zret (v := 0) (ty := .boolean) hx hb hr rfl (fun t ht hW => qc_mk (congrArg (fun z => Outcome.returned (some (Value.int z.1))) hq) (by rw [ht]; exact ⟨σ, hI.nil, e28.trans (congrArg (fun z => z.2) hq), fr⟩)) hI.2.2 dX12_readsRule_143 hlocks
    · replace h := ite_f hc h
      refine lv_aload_n hx hb dX12_readsRule_119 rfl (lv_at hl 0 rfl) ?_
      refine lv_iconst (v := 1) hx hb dX12_readsRule_120 (by decide) ?_
      obtain ⟨q_121, hq_121, h⟩ := ob_e h
      refine r_callV (As := [.int 1]) (rest := []) hx hb hml hts hown (c_X12_wrong l HB D y F n κ σ hN 1 G28 e28 q_121 hq_121) cal_X12_wrong im_X12_wrong se_X12_wrong lm_X12_362 ⟨Nat.le_of_ble_eq_true rfl, Nat.le_of_ble_eq_true rfl⟩ hI.nil hKK (r_recv hKK hI (hE12 HB.size y) rfl (lc91 hN) (kc91 hk0)) rfl hl.1 hI.2.2 rfl (Nat.le_of_ble_eq_true rfl) dX12_readsRule_121 ⟨Nat.le_of_ble_eq_true rfl, Nat.le_of_ble_eq_true rfl⟩ rfl rfl rfl (fun H locs hB hlo => ?_)
      obtain ⟨σ, hB, en28, ho⟩ := hB
      have hI := hB.re hlo
      have e28 := en28
      have e27 := (ho 27 (ni rfl)).trans e27
      have fr := frc fr ho (by decide)
      obtain ⟨hz, h⟩ := cb_e h
      have hq := Option.some.inj h
      exact W.zret (v := q_121.1) (ty := .boolean) hx hb hr hz (fun t ht hW => qc_mk (congrArg (fun z => Outcome.returned (some (Value.int z.1))) hq) (by rw [ht]; exact ⟨σ, hI.nil, e28.trans (congrArg (fun z => z.2) hq), fr⟩)) hI.2.2 dX12_readsRule_124 hlocks
  have b35 : ∀ (σ : St) (H : Heap) (locs : List Loc) (ls : Array Slot) (G27 : Grp) (G28 : Grp) (v1 : Int32) , IV HB D y n n κ σ locs H → σ 27 = G27 → σ 28 = G28 → (∀ j, j ∉ W_X12_readsRule → σ j = σ0 j) → lv_has ls 3 [(0, .ref (HB.size + 91)), (1, .int v1)] → f_X12_readsRule_b35 F  G27 G28 v1 = some q → WX RM_X12_readsRule p l e s m args below meth c HB (some (.int q.1)) (B_X12_readsRule HB D y n κ σ0 q) H locs (F0 m 35 ls []) := by
    intro  σ H locs ls G27 G28 v1 hI e27 e28 fr hl h
    unfold f_X12_readsRule_b35 at h
    refine lv_aload_n hx hb dX12_readsRule_35 rfl (lv_at hl 0 rfl) ?_
    refine gt_X12_368 hx hb hts hown hKK hI e28 (lc91 hN) (kc91 hk0) dX12_readsRule_36 ?_
    refine lv_bipush (v := 12) hx hb dX12_readsRule_39 (by decide) ?_
    refine lv_icmp_ne (tgt := 50) hx hb dX12_readsRule_41 (by decide) (fun hc => ?_) (fun hc => ?_)
    · replace h := ite_f hc h
      refine lv_aload_n hx hb dX12_readsRule_50 rfl (lv_at hl 0 rfl) ?_
      refine lv_aload_n hx hb dX12_readsRule_51 rfl (lv_at hl 0 rfl) ?_
      refine gt_X12_318 hx hb hts hown hKK hI e28 (lc91 hN) (kc91 hk0) dX12_readsRule_52 ?_
      refine lv_iconst (v := 1) hx hb dX12_readsRule_55 (by decide) ?_
      refine lv_iadd hx hb dX12_readsRule_56 ?_
      obtain ⟨G28_57, qq, h⟩ := bn_e h
      refine pt_X12_318 hx hb hts hown hKK hI e28 (lc91 hN) (kc91 hk0) dX12_readsRule_57 (fun σ H locs hI ew ho => ?_)
      have e28 := ew.trans qq.symm
      have e27 := (ho 27 (nn rfl)).trans e27
      have fr := frs fr ho (by decide)
      refine lv_iload_n hx hb dX12_readsRule_60 rfl (lv_at hl 1 rfl) ?_
      refine lv_istore_n (lv' := [(2, .int v1), (0, .ref (HB.size + 91)), (1, .int v1)]) hx hb dX12_readsRule_61 rfl hl (by decide) rfl (fun ls hl => ?_)
      refine lv_iload_n hx hb dX12_readsRule_62 rfl (lv_at hl 2 rfl) ?_
      refine lv_bipush (v := 110) hx hb dX12_readsRule_63 (by decide) ?_
      refine lv_icmp_ne (tgt := 110) hx hb dX12_readsRule_65 (by decide) (fun hc => ?_) (fun hc => ?_)
      · replace h := ite_f hc h
        exact b110  σ H locs ls G27 G28_57 v1  hI e27 e28 fr (lv_sub hl [1, 0] rfl) h
      · replace h := ite_t hc h
        refine lv_aload_n hx hb dX12_readsRule_68 rfl (lv_at hl 1 rfl) ?_
        obtain ⟨q_69, hq_69, h⟩ := ob_e h
        refine r_callV (As := []) (rest := []) hx hb hml hts hown (c_X12_sign l HB D y F n κ σ hN  G27 e27 G28_57 e28 q_69 hq_69) cal_X12_sign im_X12_sign se_X12_sign lm_X12_349 ⟨Nat.le_of_ble_eq_true rfl, Nat.le_of_ble_eq_true rfl⟩ hI.nil hKK (r_recv hKK hI (hE12 HB.size y) rfl (lc91 hN) (kc91 hk0)) rfl hl.1 hI.2.2 rfl (Nat.le_of_ble_eq_true rfl) dX12_readsRule_69 ⟨Nat.le_of_ble_eq_true rfl, Nat.le_of_ble_eq_true rfl⟩ rfl rfl rfl (fun H locs hB hlo => ?_)
        have hI := hB.re hlo
        refine lv_bipush (v := 48) hx hb dX12_readsRule_72 (by decide) ?_
        refine lv_icmp_lt (tgt := 86) hx hb dX12_readsRule_74 (by decide) (fun hc => ?_) (fun hc => ?_)
        · replace h := ite_t hc h
          exact b86  σ H locs ls G27 G28_57  hI e27 e28 fr (lv_sub hl [1] rfl) h
        · replace h := ite_f hc h
          refine lv_aload_n hx hb dX12_readsRule_77 rfl (lv_at hl 1 rfl) ?_
          obtain ⟨q_78, hq_78, h⟩ := ob_e h
          refine r_callV (As := []) (rest := []) hx hb hml hts hown (c_X12_sign l HB D y F n κ σ hN  G27 e27 G28_57 e28 q_78 hq_78) cal_X12_sign im_X12_sign se_X12_sign lm_X12_349 ⟨Nat.le_of_ble_eq_true rfl, Nat.le_of_ble_eq_true rfl⟩ hI.nil hKK (r_recv hKK hI (hE12 HB.size y) rfl (lc91 hN) (kc91 hk0)) rfl hl.1 hI.2.2 rfl (Nat.le_of_ble_eq_true rfl) dX12_readsRule_78 ⟨Nat.le_of_ble_eq_true rfl, Nat.le_of_ble_eq_true rfl⟩ rfl rfl rfl (fun H locs hB hlo => ?_)
          have hI := hB.re hlo
          refine lv_bipush (v := 55) hx hb dX12_readsRule_81 (by decide) ?_
          refine lv_icmp_le (tgt := 92) hx hb dX12_readsRule_83 (by decide) (fun hc => ?_) (fun hc => ?_)
          · replace h := ite_t hc h
            refine lv_aload_n hx hb dX12_readsRule_92 rfl (lv_at hl 1 rfl) ?_
            obtain ⟨q_93, hq_93, h⟩ := ob_e h
            refine r_callV (As := []) (rest := []) hx hb hml hts hown (c_X12_sign l HB D y F n κ σ hN  G27 e27 G28_57 e28 q_93 hq_93) cal_X12_sign im_X12_sign se_X12_sign lm_X12_349 ⟨Nat.le_of_ble_eq_true rfl, Nat.le_of_ble_eq_true rfl⟩ hI.nil hKK (r_recv hKK hI (hE12 HB.size y) rfl (lc91 hN) (kc91 hk0)) rfl hl.1 hI.2.2 rfl (Nat.le_of_ble_eq_true rfl) dX12_readsRule_93 ⟨Nat.le_of_ble_eq_true rfl, Nat.le_of_ble_eq_true rfl⟩ rfl rfl rfl (fun H locs hB hlo => ?_)
            have hI := hB.re hlo
            refine lv_bipush (v := 48) hx hb dX12_readsRule_96 (by decide) ?_
            refine lv_isub hx hb dX12_readsRule_98 ?_
            obtain ⟨v2_99, qq, h⟩ := bn_e h
            refine topi qq ?_
            refine lv_istore_n (lv' := [(2, .int v2_99), (0, .ref (HB.size + 91)), (1, .int v1)]) hx hb dX12_readsRule_99 rfl hl (by decide) rfl (fun ls hl => ?_)
            refine lv_aload_n hx hb dX12_readsRule_100 rfl (lv_at hl 1 rfl) ?_
            refine lv_aload_n hx hb dX12_readsRule_101 rfl (lv_at hl 1 rfl) ?_
            refine gt_X12_318 hx hb hts hown hKK hI e28 (lc91 hN) (kc91 hk0) dX12_readsRule_102 ?_
            refine lv_iconst (v := 1) hx hb dX12_readsRule_105 (by decide) ?_
            refine lv_iadd hx hb dX12_readsRule_106 ?_
            obtain ⟨G28_107, qq, h⟩ := bn_e h
            refine pt_X12_318 hx hb hts hown hKK hI e28 (lc91 hN) (kc91 hk0) dX12_readsRule_107 (fun σ H locs hI ew ho => ?_)
            have e28 := ew.trans qq.symm
            have e27 := (ho 27 (nn rfl)).trans e27
            have fr := frs fr ho (by decide)
            exact b110  σ H locs ls G27 G28_107 v2_99  hI e27 e28 fr (lv_sub hl [1, 0] rfl) h
          · replace h := ite_f hc h
            exact b86  σ H locs ls G27 G28_57  hI e27 e28 fr (lv_sub hl [1] rfl) h
    · replace h := ite_t hc h
      refine lv_aload_n hx hb dX12_readsRule_44 rfl (lv_at hl 0 rfl) ?_
      refine lv_iconst (v := 2) hx hb dX12_readsRule_45 (by decide) ?_
      obtain ⟨q_46, hq_46, h⟩ := ob_e h
      refine r_callV (As := [.int 2]) (rest := []) hx hb hml hts hown (c_X12_wrong l HB D y F n κ σ hN 2 G28 e28 q_46 hq_46) cal_X12_wrong im_X12_wrong se_X12_wrong lm_X12_362 ⟨Nat.le_of_ble_eq_true rfl, Nat.le_of_ble_eq_true rfl⟩ hI.nil hKK (r_recv hKK hI (hE12 HB.size y) rfl (lc91 hN) (kc91 hk0)) rfl hl.1 hI.2.2 rfl (Nat.le_of_ble_eq_true rfl) dX12_readsRule_46 ⟨Nat.le_of_ble_eq_true rfl, Nat.le_of_ble_eq_true rfl⟩ rfl rfl rfl (fun H locs hB hlo => ?_)
      obtain ⟨σ, hB, en28, ho⟩ := hB
      have hI := hB.re hlo
      have e28 := en28
      have e27 := (ho 27 (ni rfl)).trans e27
      have fr := frc fr ho (by decide)
      obtain ⟨hz, h⟩ := cb_e h
      have hq := Option.some.inj h
      exact W.zret (v := q_46.1) (ty := .boolean) hx hb hr hz (fun t ht hW => qc_mk (congrArg (fun z => Outcome.returned (some (Value.int z.1))) hq) (by rw [ht]; exact ⟨σ, hI.nil, e28.trans (congrArg (fun z => z.2) hq), fr⟩)) hI.2.2 dX12_readsRule_49 hlocks
  obtain ⟨σ, hI, e27, e28, fr⟩ : ∃ σ : St, IV HB D y n n κ σ [] s.heap ∧ σ 27 = G27 ∧ σ 28 = G28 ∧ ∀ j, j ∉ W_X12_readsRule → σ j = σ0 j := ⟨σ0, hI, e27, e28, fun _ _ => rfl⟩
  show WX RM_X12_readsRule p l e s m args below meth c HB (some (.int q.1)) (B_X12_readsRule HB D y n κ σ0 q) s.heap [] (F0 m 0 ls [])
  generalize s.heap = H at hI ⊢
  unfold f_X12_readsRule at h
  obtain ⟨locs, hlocs⟩ : ∃ x : List Loc, x = [] := ⟨_, rfl⟩
  rw [← hlocs] at hI ⊢
  refine lv_aload_n hx hb dX12_readsRule_0 rfl (lv_at hl 0 rfl) ?_
  obtain ⟨q_1, hq_1, h⟩ := ob_e h
  refine r_callV (As := []) (rest := []) hx hb hml hts hown (c_X12_sign l HB D y F n κ σ hN  G27 e27 G28 e28 q_1 hq_1) cal_X12_sign im_X12_sign se_X12_sign lm_X12_349 ⟨Nat.le_of_ble_eq_true rfl, Nat.le_of_ble_eq_true rfl⟩ hI.nil hKK (r_recv hKK hI (hE12 HB.size y) rfl (lc91 hN) (kc91 hk0)) rfl hl.1 hI.2.2 rfl (Nat.le_of_ble_eq_true rfl) dX12_readsRule_1 ⟨Nat.le_of_ble_eq_true rfl, Nat.le_of_ble_eq_true rfl⟩ rfl rfl rfl (fun H locs hB hlo => ?_)
  have hI := hB.re hlo
  refine lv_istore_n (lv' := [(1, .int q_1), (0, .ref (HB.size + 91))]) hx hb dX12_readsRule_4 rfl hl (by decide) rfl (fun ls hl => ?_)
  refine lv_iload_n hx hb dX12_readsRule_5 rfl (lv_at hl 0 rfl) ?_
  refine lv_bipush (v := 99) hx hb dX12_readsRule_6 (by decide) ?_
  refine lv_icmp_eq (tgt := 35) hx hb dX12_readsRule_8 (by decide) (fun hc => ?_) (fun hc => ?_)
  · replace h := ite_t hc h
    exact b35  σ H locs ls G27 G28 q_1  hI e27 e28 fr (lv_sub hl [1, 0] rfl) h
  · replace h := ite_f hc h
    refine lv_iload_n hx hb dX12_readsRule_11 rfl (lv_at hl 0 rfl) ?_
    refine lv_bipush (v := 104) hx hb dX12_readsRule_12 (by decide) ?_
    refine lv_icmp_eq (tgt := 35) hx hb dX12_readsRule_14 (by decide) (fun hc => ?_) (fun hc => ?_)
    · replace h := ite_t hc h
      exact b35  σ H locs ls G27 G28 q_1  hI e27 e28 fr (lv_sub hl [1, 0] rfl) h
    · replace h := ite_f hc h
      refine lv_iload_n hx hb dX12_readsRule_17 rfl (lv_at hl 0 rfl) ?_
      refine lv_bipush (v := 114) hx hb dX12_readsRule_18 (by decide) ?_
      refine lv_icmp_eq (tgt := 35) hx hb dX12_readsRule_20 (by decide) (fun hc => ?_) (fun hc => ?_)
      · replace h := ite_t hc h
        exact b35  σ H locs ls G27 G28 q_1  hI e27 e28 fr (lv_sub hl [1, 0] rfl) h
      · replace h := ite_f hc h
        refine lv_iload_n hx hb dX12_readsRule_23 rfl (lv_at hl 0 rfl) ?_
        refine lv_bipush (v := 110) hx hb dX12_readsRule_24 (by decide) ?_
        refine lv_icmp_eq (tgt := 35) hx hb dX12_readsRule_26 (by decide) (fun hc => ?_) (fun hc => ?_)
        · replace h := ite_t hc h
          exact b35  σ H locs ls G27 G28 q_1  hI e27 e28 fr (lv_sub hl [1, 0] rfl) h
        · replace h := ite_f hc h
          refine lv_aload_n hx hb dX12_readsRule_29 rfl (lv_at hl 1 rfl) ?_
          refine lv_iconst (v := 1) hx hb dX12_readsRule_30 (by decide) ?_
          obtain ⟨q_31, hq_31, h⟩ := ob_e h
          refine r_callV (As := [.int 1]) (rest := []) hx hb hml hts hown (c_X12_wrong l HB D y F n κ σ hN 1 G28 e28 q_31 hq_31) cal_X12_wrong im_X12_wrong se_X12_wrong lm_X12_362 ⟨Nat.le_of_ble_eq_true rfl, Nat.le_of_ble_eq_true rfl⟩ hI.nil hKK (r_recv hKK hI (hE12 HB.size y) rfl (lc91 hN) (kc91 hk0)) rfl hl.1 hI.2.2 rfl (Nat.le_of_ble_eq_true rfl) dX12_readsRule_31 ⟨Nat.le_of_ble_eq_true rfl, Nat.le_of_ble_eq_true rfl⟩ rfl rfl rfl (fun H locs hB hlo => ?_)
          obtain ⟨σ, hB, en28, ho⟩ := hB
          have hI := hB.re hlo
          have e28 := en28
          have e27 := (ho 27 (ni rfl)).trans e27
          have fr := frc fr ho (by decide)
          obtain ⟨hz, h⟩ := cb_e h
          have hq := Option.some.inj h
          exact W.zret (v := q_31.1) (ty := .boolean) hx hb hr hz (fun t ht hW => qc_mk (congrArg (fun z => Outcome.returned (some (Value.int z.1))) hq) (by rw [ht]; exact ⟨σ, hI.nil, e28.trans (congrArg (fun z => z.2) hq), fr⟩)) hI.2.2 dX12_readsRule_34 hlocks
noncomputable def f_X12_rules_b86 (F : Nat) (k53 : Grp → Grp → Grp → Int32 → Int32 → Option (Int32 × Grp × Grp × Grp)) (G27 : Grp) (G28 : Grp) (G29 : Grp) (v2 : Int32) (s0 : Int32) : Option (Int32 × Grp × Grp × Grp) :=
  if s0 = 0 then k53 G27 G28 G29 v2 s0 else bn (gI G28 91 21 ((G28.1 91 21) + 1)) (fun G28_98 => k53 G27 G28_98 G29 v2 s0)
noncomputable def f_X12_rules_b85 (F : Nat) (k53 : Grp → Grp → Grp → Int32 → Int32 → Option (Int32 × Grp × Grp × Grp)) (G27 : Grp) (G28 : Grp) (G29 : Grp) (v2 : Int32) : Option (Int32 × Grp × Grp × Grp) :=
  f_X12_rules_b86 F k53 G27 G28 G29 v2 0
noncomputable def f_X12_rules_l211b (F : Nat)  (k211 : Grp → Grp → Grp → Int32 → Option (Int32 × Grp × Grp × Grp)) (G27 : Grp) (G28 : Grp) (G29 : Grp) (v4 : Int32) : Option (Int32 × Grp × Grp × Grp) :=
  if (G29.1 91 38) ≤ v4 then some (0, G27, G28, G29) else ck v4 12 (ck v4 12 (bn (gI G29 115 v4.toNatClampNeg (G28.1 117 v4.toNatClampNeg)) (fun G29_233 => ck v4 12 (ck v4 12 (bn (gI G29_233 116 v4.toNatClampNeg (G28.1 118 v4.toNatClampNeg)) (fun G29_247 => bn (v4 + 1) (fun v4_248 => k211 G27 G28 G29_247 v4_248)))))))
noncomputable def f_X12_rules_l211 (F : Nat)  (fu : Nat) : Grp → Grp → Grp → Int32 → Option (Int32 × Grp × Grp × Grp) := Nat.rec (motive := fun _ => Grp → Grp → Grp → Int32 → Option (Int32 × Grp × Grp × Grp)) (fun _ _ _ _ => none) (fun _ ih => f_X12_rules_l211b F  ih) fu
noncomputable def f_X12_rules_l137b (F : Nat)  (k137 : Grp → Grp → Grp → Int32 → Option (Int32 × Grp × Grp × Grp)) (G27 : Grp) (G28 : Grp) (G29 : Grp) (v4 : Int32) : Option (Int32 × Grp × Grp × Grp) :=
  if (G29.1 91 37) ≤ v4 then f_X12_rules_l211 F  F G27 G28 G29 0 else ck v4 420 (ck v4 420 (bn (gI G29 107 v4.toNatClampNeg (G28.1 111 v4.toNatClampNeg)) (fun G29_159 => ck v4 420 (ck v4 420 (bn (gI G29_159 108 v4.toNatClampNeg (G28.1 112 v4.toNatClampNeg)) (fun G29_173 => ck v4 420 (ck v4 420 (bn (gI G29_173 109 v4.toNatClampNeg (G28.1 113 v4.toNatClampNeg)) (fun G29_187 => ck v4 420 (ck v4 420 (bn (gI G29_187 110 v4.toNatClampNeg (G28.1 114 v4.toNatClampNeg)) (fun G29_201 => bn (v4 + 1) (fun v4_202 => k137 G27 G28 G29_201 v4_202)))))))))))))
noncomputable def f_X12_rules_l137 (F : Nat)  (fu : Nat) : Grp → Grp → Grp → Int32 → Option (Int32 × Grp × Grp × Grp) := Nat.rec (motive := fun _ => Grp → Grp → Grp → Int32 → Option (Int32 × Grp × Grp × Grp)) (fun _ _ _ _ => none) (fun _ ih => f_X12_rules_l137b F  ih) fu
noncomputable def f_X12_rules_b104 (F : Nat)  (G27 : Grp) (G28 : Grp) (G29 : Grp) (v2 : Int32) : Option (Int32 × Grp × Grp × Grp) :=
  bn (gI G27 91 20 0) (fun G27_106 => if v2 = 0 then some ((G28.1 91 23), G27_106, G28, G29) else bn (gI G29 91 37 (G28.1 91 39)) (fun G29_123 => bn (gI G29_123 91 38 (G28.1 91 40)) (fun G29_131 => f_X12_rules_l137 F  F G27_106 G28 G29_131 0)))
noncomputable def f_X12_rules_l53b (F : Nat)  (k53 : Grp → Grp → Grp → Int32 → Int32 → Option (Int32 × Grp × Grp × Grp)) (G27 : Grp) (G28 : Grp) (G29 : Grp) (v2 : Int32) (v3 : Int32) : Option (Int32 × Grp × Grp × Grp) :=
  if v2 = 0 then f_X12_rules_b104 F  G27 G28 G29 v2 else if v3 = 0 then f_X12_rules_b104 F  G27 G28 G29 v2 else ob (f_X12_readsRule F G27 G28) (fun q_62 => bn (q_62.1) (fun v2_65 => if v2_65 = 0 then f_X12_rules_b85 F k53 G27 (q_62.2) G29 v2_65 else if (q_62.2.1 91 22) ≤ (q_62.2.1 91 21) then f_X12_rules_b85 F k53 G27 (q_62.2) G29 v2_65 else f_X12_rules_b86 F k53 G27 (q_62.2) G29 v2_65 1))
noncomputable def f_X12_rules_l53 (F : Nat)  (fu : Nat) : Grp → Grp → Grp → Int32 → Int32 → Option (Int32 × Grp × Grp × Grp) := Nat.rec (motive := fun _ => Grp → Grp → Grp → Int32 → Int32 → Option (Int32 × Grp × Grp × Grp)) (fun _ _ _ _ _ => none) (fun _ ih => f_X12_rules_l53b F  ih) fu
noncomputable def f_X12_rules (F : Nat) (G27 : Grp) (G28 : Grp) (G29 : Grp) (v1 : Int32) : Option (Int32 × Grp × Grp × Grp) :=
  ob (f_X12_in F v1 0 200) (fun q_5 => if q_5 = 0 then some ((-1), G27, G28, G29) else if v1 ≤ (G27.1 91 20) then bn (gI G28 91 21 0) (fun G28_23 => bn (gI G28_23 91 22 v1) (fun G28_28 => bn (gI G28_28 91 39 0) (fun G28_33 => bn (gI G28_33 91 40 0) (fun G28_38 => if v1 ≤ 0 then f_X12_rules_l53 F  F G27 G28_38 G29 1 0 else f_X12_rules_l53 F  F G27 G28_38 G29 1 1)))) else some ((-1), G27, G28, G29))
def RM_X12_rules : Room := { frames := 5, cells := 0, slots := 0, locals := 113 }
abbrev W_X12_rules : List Nat := [27, 28, 29]
abbrev B_X12_rules (HB : Heap) (D : va_G) (y : Nat → ClassId) (n : Nat) (κ : Nat → Nat) (σ0 : St) (q : Int32 × Grp × Grp × Grp) : Heap → Prop := fun H => ∃ σ : St, IV HB D y n n κ σ [] H ∧ σ 27 = q.2.1 ∧ σ 28 = q.2.2.1 ∧ σ 29 = q.2.2.2 ∧ ∀ j, j ∉ W_X12_rules → σ j = σ0 j
set_option maxRecDepth 100000 in
set_option maxHeartbeats 4000000 in
theorem c_X12_rules (l : Launch) (HB : Heap) (D : va_G) (y : Nat → ClassId) (F n : Nat) (κ : Nat → Nat) (σ0 : St) (hN : N0 ≤ n) (v1 : Int32)  (G27 : Grp) (e27 : σ0 27 = G27) (G28 : Grp) (e28 : σ0 28 = G28) (G29 : Grp) (e29 : σ0 29 = G29) (q : Int32 × Grp × Grp × Grp) (h : f_X12_rules F G27 G28 G29 v1 = some q) : MT l HB D y yX12_rules cX12_rules 5 (some .int) RM_X12_rules [.ref (HB.size + 91), .int v1] (IV HB D y n n κ σ0 []) (some (.int q.1)) (B_X12_rules HB D y n κ σ0 q) := by
  refine Met.ofW (cc := cX12_rules) (maxL := 5) (ret := (some .int)) (by decide) rfl ?_
  intro p e s m args below meth c s₁ BL hml hv
  obtain ⟨rfl, hI, hKK⟩ := hv
  have hx := BL.exec
  have hb := BL.bytes
  have hr := BL.returns
  have hts : ∀ w ∈ gtb, w.before _ s = true := fun w hw => atoms_spec BL.pre w (List.mem_cons_of_mem _ hw)
  have hml : c.maxLocals = 5 := hml
  have hown : s.vm.findClass RX12 = some m.cls := findClass_of_methodNamed BL.named
  have hlocks := BL.notSynchronized
  have hk0 := hI.1.2.2.2.2
  have hl := lv_entry ([.ref (HB.size + 91), .int v1]) (n := 5) (Nat.le_of_ble_eq_true rfl)
  rw [lg_entry_eq]
  generalize (lg_sl ([.ref (HB.size + 91), .int v1]) ++ List.replicate (5 - (lg_sl ([.ref (HB.size + 91), .int v1])).length) Slot.unset).toArray = ls at hl ⊢
  have hl : lv_has ls 5 [(0, .ref (HB.size + 91)), (1, .int v1)] := hl
  generalize hargs : ([.ref (HB.size + 91), .int v1] : List Value).toArray = args at *
  have b86 : ∀ (k53 : Grp → Grp → Grp → Int32 → Int32 → Option (Int32 × Grp × Grp × Grp)) (hk53 : ∀ (σ : St) (H : Heap) (locs : List Loc) (ls : Array Slot) (G27 : Grp) (G28 : Grp) (G29 : Grp) (v2 : Int32) (v3 : Int32) , IV HB D y n n κ σ locs H → σ 27 = G27 → σ 28 = G28 → σ 29 = G29 → (∀ j, j ∉ W_X12_rules → σ j = σ0 j) → lv_has ls 5 [(0, .ref (HB.size + 91)), (2, .int v2), (3, .int v3)] → k53 G27 G28 G29 v2 v3 = some q → WX RM_X12_rules p l e s m args below meth c HB (some (.int q.1)) (B_X12_rules HB D y n κ σ0 q) H locs (F0 m 53 ls [])) (σ : St) (H : Heap) (locs : List Loc) (ls : Array Slot) (G27 : Grp) (G28 : Grp) (G29 : Grp) (v2 : Int32) (s0 : Int32) , IV HB D y n n κ σ locs H → σ 27 = G27 → σ 28 = G28 → σ 29 = G29 → (∀ j, j ∉ W_X12_rules → σ j = σ0 j) → lv_has ls 5 [(0, .ref (HB.size + 91)), (2, .int v2)] → f_X12_rules_b86 F k53 G27 G28 G29 v2 s0 = some q → WX RM_X12_rules p l e s m args below meth c HB (some (.int q.1)) (B_X12_rules HB D y n κ σ0 q) H locs (F0 m 86 ls [.int s0]) := by
    intro k53 hk53 σ H locs ls G27 G28 G29 v2 s0 hI e27 e28 e29 fr hl h
    unfold f_X12_rules_b86 at h
    refine lv_istore_n (lv' := [(3, .int s0), (0, .ref (HB.size + 91)), (2, .int v2)]) hx hb dX12_rules_86 rfl hl (by decide) rfl (fun ls hl => ?_)
    refine lv_iload_n hx hb dX12_rules_87 rfl (lv_at hl 0 rfl) ?_
    refine lv_if_eq (tgt := 53) hx hb dX12_rules_88 (by decide) (fun hc => ?_) (fun hc => ?_)
    · replace h := ite_t hc h
      exact hk53 σ H locs ls G27 G28 G29 v2 s0  hI e27 e28 e29 fr (lv_sub hl [1, 2, 0] rfl) h
    · replace h := ite_f hc h
      refine lv_aload_n hx hb dX12_rules_91 rfl (lv_at hl 1 rfl) ?_
      refine lv_aload_n hx hb dX12_rules_92 rfl (lv_at hl 1 rfl) ?_
      refine gt_X12_318 hx hb hts hown hKK hI e28 (lc91 hN) (kc91 hk0) dX12_rules_93 ?_
      refine lv_iconst (v := 1) hx hb dX12_rules_96 (by decide) ?_
      refine lv_iadd hx hb dX12_rules_97 ?_
      obtain ⟨G28_98, qq, h⟩ := bn_e h
      refine pt_X12_318 hx hb hts hown hKK hI e28 (lc91 hN) (kc91 hk0) dX12_rules_98 (fun σ H locs hI ew ho => ?_)
      have e28 := ew.trans qq.symm
      have e27 := (ho 27 (nn rfl)).trans e27
      have e29 := (ho 29 (nn rfl)).trans e29
      have fr := frs fr ho (by decide)
      refine lv_goto (tgt := 53) hx hb dX12_rules_101 (by decide) ?_
      exact hk53 σ H locs ls G27 G28_98 G29 v2 s0  hI e27 e28 e29 fr (lv_sub hl [1, 2, 0] rfl) h
  have b85 : ∀ (k53 : Grp → Grp → Grp → Int32 → Int32 → Option (Int32 × Grp × Grp × Grp)) (hk53 : ∀ (σ : St) (H : Heap) (locs : List Loc) (ls : Array Slot) (G27 : Grp) (G28 : Grp) (G29 : Grp) (v2 : Int32) (v3 : Int32) , IV HB D y n n κ σ locs H → σ 27 = G27 → σ 28 = G28 → σ 29 = G29 → (∀ j, j ∉ W_X12_rules → σ j = σ0 j) → lv_has ls 5 [(0, .ref (HB.size + 91)), (2, .int v2), (3, .int v3)] → k53 G27 G28 G29 v2 v3 = some q → WX RM_X12_rules p l e s m args below meth c HB (some (.int q.1)) (B_X12_rules HB D y n κ σ0 q) H locs (F0 m 53 ls [])) (σ : St) (H : Heap) (locs : List Loc) (ls : Array Slot) (G27 : Grp) (G28 : Grp) (G29 : Grp) (v2 : Int32) , IV HB D y n n κ σ locs H → σ 27 = G27 → σ 28 = G28 → σ 29 = G29 → (∀ j, j ∉ W_X12_rules → σ j = σ0 j) → lv_has ls 5 [(0, .ref (HB.size + 91)), (2, .int v2)] → f_X12_rules_b85 F k53 G27 G28 G29 v2 = some q → WX RM_X12_rules p l e s m args below meth c HB (some (.int q.1)) (B_X12_rules HB D y n κ σ0 q) H locs (F0 m 85 ls []) := by
    intro k53 hk53 σ H locs ls G27 G28 G29 v2 hI e27 e28 e29 fr hl h
    unfold f_X12_rules_b85 at h
    refine lv_iconst (v := 0) hx hb dX12_rules_85 (by decide) ?_
    exact b86 k53 hk53 σ H locs ls G27 G28 G29 v2 0  hI e27 e28 e29 fr (lv_sub hl [0, 1] rfl) h
  have b211 : ∀ (fu : Nat) (σ : St) (H : Heap) (locs : List Loc) (ls : Array Slot) (G27 : Grp) (G28 : Grp) (G29 : Grp) (v4 : Int32) , IV HB D y n n κ σ locs H → σ 27 = G27 → σ 28 = G28 → σ 29 = G29 → (∀ j, j ∉ W_X12_rules → σ j = σ0 j) → lv_has ls 5 [(0, .ref (HB.size + 91)), (4, .int v4)] → f_X12_rules_l211 F  fu G27 G28 G29 v4 = some q → WX RM_X12_rules p l e s m args below meth c HB (some (.int q.1)) (B_X12_rules HB D y n κ σ0 q) H locs (F0 m 211 ls []) := by
    intro  fu
    induction fu with
    | zero =>
      intro σ H locs ls G27 G28 G29 v4 hI e27 e28 e29 fr hl h
      exact absurd h (by intro h; cases h)
    | succ fu hk211 =>
      intro σ H locs ls G27 G28 G29 v4 hI e27 e28 e29 fr hl h
      have h : f_X12_rules_l211b F  (f_X12_rules_l211 F  fu) G27 G28 G29 v4 = some q := h
      generalize f_X12_rules_l211 F  fu = k211 at h hk211
      unfold f_X12_rules_l211b at h
      refine lv_iload hx hb dX12_rules_211 (lv_at hl 1 rfl) ?_
      refine lv_aload_n hx hb dX12_rules_213 rfl (lv_at hl 0 rfl) ?_
      refine gt_X12_381 hx hb hts hown hKK hI e29 (lc91 hN) (kc91 hk0) dX12_rules_214 ?_
      refine lv_icmp_ge (tgt := 254) hx hb dX12_rules_217 (by decide) (fun hc => ?_) (fun hc => ?_)
      · replace h := ite_t hc h
        refine lv_iconst (v := 0) hx hb dX12_rules_254 (by decide) ?_
        have hq := Option.some.inj h
        exact W.iret (v := 0) hx hb hr (fun t ht hW => qc_mk (congrArg (fun z => Outcome.returned (some (Value.int z.1))) hq) (by rw [ht]; exact ⟨σ, hI.nil, e27.trans (congrArg (fun z => z.2.1) hq), e28.trans (congrArg (fun z => z.2.2.1) hq), e29.trans (congrArg (fun z => z.2.2.2) hq), fr⟩)) hI.2.2 dX12_rules_255 hlocks
      · replace h := ite_f hc h
        refine lv_aload_n hx hb dX12_rules_220 rfl (lv_at hl 0 rfl) ?_
        refine gf_X12_80 hx hb hts hown hKK hI hN dX12_rules_221 ?_
        refine lv_iload hx hb dX12_rules_224 (lv_at hl 1 rfl) ?_
        refine lv_aload_n hx hb dX12_rules_226 rfl (lv_at hl 0 rfl) ?_
        refine gf_X12_86 hx hb hts hown hKK hI hN dX12_rules_227 ?_
        refine lv_iload hx hb dX12_rules_230 (lv_at hl 1 rfl) ?_
        obtain ⟨hin_, h⟩ := ck_e h
        refine la_50 hx hb hKK hI e28 (lc117 hN) (kc117 hk0) hin_ dX12_rules_232 ?_
        obtain ⟨hin_, h⟩ := ck_e h
        obtain ⟨G29_233, qq, h⟩ := bn_e h
        refine sa_49 hx hb hKK hI e29 (lc115 hN) (kc115 hk0) hin_ dX12_rules_233 (fun σ H locs hI ew ho => ?_)
        have e29 := ew.trans qq.symm
        have e27 := (ho 27 (nn rfl)).trans e27
        have e28 := (ho 28 (nn rfl)).trans e28
        have fr := frs fr ho (by decide)
        refine lv_aload_n hx hb dX12_rules_234 rfl (lv_at hl 0 rfl) ?_
        refine gf_X12_83 hx hb hts hown hKK hI hN dX12_rules_235 ?_
        refine lv_iload hx hb dX12_rules_238 (lv_at hl 1 rfl) ?_
        refine lv_aload_n hx hb dX12_rules_240 rfl (lv_at hl 0 rfl) ?_
        refine gf_X12_89 hx hb hts hown hKK hI hN dX12_rules_241 ?_
        refine lv_iload hx hb dX12_rules_244 (lv_at hl 1 rfl) ?_
        obtain ⟨hin_, h⟩ := ck_e h
        refine la_50 hx hb hKK hI e28 (lc118 hN) (kc118 hk0) hin_ dX12_rules_246 ?_
        obtain ⟨hin_, h⟩ := ck_e h
        obtain ⟨G29_247, qq, h⟩ := bn_e h
        refine sa_49 hx hb hKK hI e29 (lc116 hN) (kc116 hk0) hin_ dX12_rules_247 (fun σ H locs hI ew ho => ?_)
        have e29 := ew.trans qq.symm
        have e27 := (ho 27 (nn rfl)).trans e27
        have e28 := (ho 28 (nn rfl)).trans e28
        have fr := frs fr ho (by decide)
        obtain ⟨v4_248, qq, h⟩ := bn_e h
        refine lv_iinc (v := v4_248) (lv' := [(4, .int v4_248), (0, .ref (HB.size + 91))]) hx hb dX12_rules_248 hl (k := 1) rfl (by rw [qq]; rfl) (by decide) rfl (fun ls hl => ?_)
        refine lv_goto (tgt := 211) hx hb dX12_rules_251 (by decide) ?_
        exact hk211 σ H locs ls G27 G28 G29_247 v4_248  hI e27 e28 e29 fr (lv_sub hl [1, 0] rfl) h
  have b137 : ∀ (fu : Nat) (σ : St) (H : Heap) (locs : List Loc) (ls : Array Slot) (G27 : Grp) (G28 : Grp) (G29 : Grp) (v4 : Int32) , IV HB D y n n κ σ locs H → σ 27 = G27 → σ 28 = G28 → σ 29 = G29 → (∀ j, j ∉ W_X12_rules → σ j = σ0 j) → lv_has ls 5 [(0, .ref (HB.size + 91)), (4, .int v4)] → f_X12_rules_l137 F  fu G27 G28 G29 v4 = some q → WX RM_X12_rules p l e s m args below meth c HB (some (.int q.1)) (B_X12_rules HB D y n κ σ0 q) H locs (F0 m 137 ls []) := by
    intro  fu
    induction fu with
    | zero =>
      intro σ H locs ls G27 G28 G29 v4 hI e27 e28 e29 fr hl h
      exact absurd h (by intro h; cases h)
    | succ fu hk137 =>
      intro σ H locs ls G27 G28 G29 v4 hI e27 e28 e29 fr hl h
      have h : f_X12_rules_l137b F  (f_X12_rules_l137 F  fu) G27 G28 G29 v4 = some q := h
      generalize f_X12_rules_l137 F  fu = k137 at h hk137
      unfold f_X12_rules_l137b at h
      refine lv_iload hx hb dX12_rules_137 (lv_at hl 1 rfl) ?_
      refine lv_aload_n hx hb dX12_rules_139 rfl (lv_at hl 0 rfl) ?_
      refine gt_X12_378 hx hb hts hown hKK hI e29 (lc91 hN) (kc91 hk0) dX12_rules_140 ?_
      refine lv_icmp_ge (tgt := 208) hx hb dX12_rules_143 (by decide) (fun hc => ?_) (fun hc => ?_)
      · replace h := ite_t hc h
        refine lv_iconst (v := 0) hx hb dX12_rules_208 (by decide) ?_
        refine lv_istore (lv' := [(4, .int 0), (0, .ref (HB.size + 91))]) hx hb dX12_rules_209 hl (by decide) rfl (fun ls hl => ?_)
        exact b211  F σ H locs ls G27 G28 G29 0  hI e27 e28 e29 fr (lv_sub hl [1, 0] rfl) h
      · replace h := ite_f hc h
        refine lv_aload_n hx hb dX12_rules_146 rfl (lv_at hl 0 rfl) ?_
        refine gf_X12_56 hx hb hts hown hKK hI hN dX12_rules_147 ?_
        refine lv_iload hx hb dX12_rules_150 (lv_at hl 1 rfl) ?_
        refine lv_aload_n hx hb dX12_rules_152 rfl (lv_at hl 0 rfl) ?_
        refine gf_X12_68 hx hb hts hown hKK hI hN dX12_rules_153 ?_
        refine lv_iload hx hb dX12_rules_156 (lv_at hl 1 rfl) ?_
        obtain ⟨hin_, h⟩ := ck_e h
        refine la_48 hx hb hKK hI e28 (lc111 hN) (kc111 hk0) hin_ dX12_rules_158 ?_
        obtain ⟨hin_, h⟩ := ck_e h
        obtain ⟨G29_159, qq, h⟩ := bn_e h
        refine sa_47 hx hb hKK hI e29 (lc107 hN) (kc107 hk0) hin_ dX12_rules_159 (fun σ H locs hI ew ho => ?_)
        have e29 := ew.trans qq.symm
        have e27 := (ho 27 (nn rfl)).trans e27
        have e28 := (ho 28 (nn rfl)).trans e28
        have fr := frs fr ho (by decide)
        refine lv_aload_n hx hb dX12_rules_160 rfl (lv_at hl 0 rfl) ?_
        refine gf_X12_59 hx hb hts hown hKK hI hN dX12_rules_161 ?_
        refine lv_iload hx hb dX12_rules_164 (lv_at hl 1 rfl) ?_
        refine lv_aload_n hx hb dX12_rules_166 rfl (lv_at hl 0 rfl) ?_
        refine gf_X12_71 hx hb hts hown hKK hI hN dX12_rules_167 ?_
        refine lv_iload hx hb dX12_rules_170 (lv_at hl 1 rfl) ?_
        obtain ⟨hin_, h⟩ := ck_e h
        refine la_48 hx hb hKK hI e28 (lc112 hN) (kc112 hk0) hin_ dX12_rules_172 ?_
        obtain ⟨hin_, h⟩ := ck_e h
        obtain ⟨G29_173, qq, h⟩ := bn_e h
        refine sa_47 hx hb hKK hI e29 (lc108 hN) (kc108 hk0) hin_ dX12_rules_173 (fun σ H locs hI ew ho => ?_)
        have e29 := ew.trans qq.symm
        have e27 := (ho 27 (nn rfl)).trans e27
        have e28 := (ho 28 (nn rfl)).trans e28
        have fr := frs fr ho (by decide)
        refine lv_aload_n hx hb dX12_rules_174 rfl (lv_at hl 0 rfl) ?_
        refine gf_X12_62 hx hb hts hown hKK hI hN dX12_rules_175 ?_
        refine lv_iload hx hb dX12_rules_178 (lv_at hl 1 rfl) ?_
        refine lv_aload_n hx hb dX12_rules_180 rfl (lv_at hl 0 rfl) ?_
        refine gf_X12_74 hx hb hts hown hKK hI hN dX12_rules_181 ?_
        refine lv_iload hx hb dX12_rules_184 (lv_at hl 1 rfl) ?_
        obtain ⟨hin_, h⟩ := ck_e h
        refine la_48 hx hb hKK hI e28 (lc113 hN) (kc113 hk0) hin_ dX12_rules_186 ?_
        obtain ⟨hin_, h⟩ := ck_e h
        obtain ⟨G29_187, qq, h⟩ := bn_e h
        refine sa_47 hx hb hKK hI e29 (lc109 hN) (kc109 hk0) hin_ dX12_rules_187 (fun σ H locs hI ew ho => ?_)
        have e29 := ew.trans qq.symm
        have e27 := (ho 27 (nn rfl)).trans e27
        have e28 := (ho 28 (nn rfl)).trans e28
        have fr := frs fr ho (by decide)
        refine lv_aload_n hx hb dX12_rules_188 rfl (lv_at hl 0 rfl) ?_
        refine gf_X12_65 hx hb hts hown hKK hI hN dX12_rules_189 ?_
        refine lv_iload hx hb dX12_rules_192 (lv_at hl 1 rfl) ?_
        refine lv_aload_n hx hb dX12_rules_194 rfl (lv_at hl 0 rfl) ?_
        refine gf_X12_77 hx hb hts hown hKK hI hN dX12_rules_195 ?_
        refine lv_iload hx hb dX12_rules_198 (lv_at hl 1 rfl) ?_
        obtain ⟨hin_, h⟩ := ck_e h
        refine la_48 hx hb hKK hI e28 (lc114 hN) (kc114 hk0) hin_ dX12_rules_200 ?_
        obtain ⟨hin_, h⟩ := ck_e h
        obtain ⟨G29_201, qq, h⟩ := bn_e h
        refine sa_47 hx hb hKK hI e29 (lc110 hN) (kc110 hk0) hin_ dX12_rules_201 (fun σ H locs hI ew ho => ?_)
        have e29 := ew.trans qq.symm
        have e27 := (ho 27 (nn rfl)).trans e27
        have e28 := (ho 28 (nn rfl)).trans e28
        have fr := frs fr ho (by decide)
        obtain ⟨v4_202, qq, h⟩ := bn_e h
        refine lv_iinc (v := v4_202) (lv' := [(4, .int v4_202), (0, .ref (HB.size + 91))]) hx hb dX12_rules_202 hl (k := 1) rfl (by rw [qq]; rfl) (by decide) rfl (fun ls hl => ?_)
        refine lv_goto (tgt := 137) hx hb dX12_rules_205 (by decide) ?_
        exact hk137 σ H locs ls G27 G28 G29_201 v4_202  hI e27 e28 e29 fr (lv_sub hl [1, 0] rfl) h
  have b104 : ∀ (σ : St) (H : Heap) (locs : List Loc) (ls : Array Slot) (G27 : Grp) (G28 : Grp) (G29 : Grp) (v2 : Int32) , IV HB D y n n κ σ locs H → σ 27 = G27 → σ 28 = G28 → σ 29 = G29 → (∀ j, j ∉ W_X12_rules → σ j = σ0 j) → lv_has ls 5 [(0, .ref (HB.size + 91)), (2, .int v2)] → f_X12_rules_b104 F  G27 G28 G29 v2 = some q → WX RM_X12_rules p l e s m args below meth c HB (some (.int q.1)) (B_X12_rules HB D y n κ σ0 q) H locs (F0 m 104 ls []) := by
    intro  σ H locs ls G27 G28 G29 v2 hI e27 e28 e29 fr hl h
    unfold f_X12_rules_b104 at h
    refine lv_aload_n hx hb dX12_rules_104 rfl (lv_at hl 0 rfl) ?_
    refine lv_iconst (v := 0) hx hb dX12_rules_105 (by decide) ?_
    obtain ⟨G27_106, qq, h⟩ := bn_e h
    refine pt_X12_311 hx hb hts hown hKK hI e27 (lc91 hN) (kc91 hk0) dX12_rules_106 (fun σ H locs hI ew ho => ?_)
    have e27 := ew.trans qq.symm
    have e28 := (ho 28 (nn rfl)).trans e28
    have e29 := (ho 29 (nn rfl)).trans e29
    have fr := frs fr ho (by decide)
    refine lv_iload_n hx hb dX12_rules_109 rfl (lv_at hl 1 rfl) ?_
    refine lv_if_ne (tgt := 118) hx hb dX12_rules_110 (by decide) (fun hc => ?_) (fun hc => ?_)
    · replace h := ite_f hc h
      refine lv_aload_n hx hb dX12_rules_118 rfl (lv_at hl 0 rfl) ?_
      refine lv_aload_n hx hb dX12_rules_119 rfl (lv_at hl 0 rfl) ?_
      refine gt_X12_327 hx hb hts hown hKK hI e28 (lc91 hN) (kc91 hk0) dX12_rules_120 ?_
      obtain ⟨G29_123, qq, h⟩ := bn_e h
      refine pt_X12_378 hx hb hts hown hKK hI e29 (lc91 hN) (kc91 hk0) dX12_rules_123 (fun σ H locs hI ew ho => ?_)
      have e29 := ew.trans qq.symm
      have e27 := (ho 27 (nn rfl)).trans e27
      have e28 := (ho 28 (nn rfl)).trans e28
      have fr := frs fr ho (by decide)
      refine lv_aload_n hx hb dX12_rules_126 rfl (lv_at hl 0 rfl) ?_
      refine lv_aload_n hx hb dX12_rules_127 rfl (lv_at hl 0 rfl) ?_
      refine gt_X12_368 hx hb hts hown hKK hI e28 (lc91 hN) (kc91 hk0) dX12_rules_128 ?_
      obtain ⟨G29_131, qq, h⟩ := bn_e h
      refine pt_X12_381 hx hb hts hown hKK hI e29 (lc91 hN) (kc91 hk0) dX12_rules_131 (fun σ H locs hI ew ho => ?_)
      have e29 := ew.trans qq.symm
      have e27 := (ho 27 (nn rfl)).trans e27
      have e28 := (ho 28 (nn rfl)).trans e28
      have fr := frs fr ho (by decide)
      refine lv_iconst (v := 0) hx hb dX12_rules_134 (by decide) ?_
      refine lv_istore (lv' := [(4, .int 0), (0, .ref (HB.size + 91)), (2, .int v2)]) hx hb dX12_rules_135 hl (by decide) rfl (fun ls hl => ?_)
      exact b137  F σ H locs ls G27_106 G28 G29_131 0  hI e27 e28 e29 fr (lv_sub hl [1, 0] rfl) h
    · replace h := ite_t hc h
      refine lv_aload_n hx hb dX12_rules_113 rfl (lv_at hl 0 rfl) ?_
      refine gt_X12_324 hx hb hts hown hKK hI e28 (lc91 hN) (kc91 hk0) dX12_rules_114 ?_
      have hq := Option.some.inj h
      exact W.iret (v := (G28.1 91 23)) hx hb hr (fun t ht hW => qc_mk (congrArg (fun z => Outcome.returned (some (Value.int z.1))) hq) (by rw [ht]; exact ⟨σ, hI.nil, e27.trans (congrArg (fun z => z.2.1) hq), e28.trans (congrArg (fun z => z.2.2.1) hq), e29.trans (congrArg (fun z => z.2.2.2) hq), fr⟩)) hI.2.2 dX12_rules_117 hlocks
  have b53 : ∀ (fu : Nat) (σ : St) (H : Heap) (locs : List Loc) (ls : Array Slot) (G27 : Grp) (G28 : Grp) (G29 : Grp) (v2 : Int32) (v3 : Int32) , IV HB D y n n κ σ locs H → σ 27 = G27 → σ 28 = G28 → σ 29 = G29 → (∀ j, j ∉ W_X12_rules → σ j = σ0 j) → lv_has ls 5 [(0, .ref (HB.size + 91)), (2, .int v2), (3, .int v3)] → f_X12_rules_l53 F  fu G27 G28 G29 v2 v3 = some q → WX RM_X12_rules p l e s m args below meth c HB (some (.int q.1)) (B_X12_rules HB D y n κ σ0 q) H locs (F0 m 53 ls []) := by
    intro  fu
    induction fu with
    | zero =>
      intro σ H locs ls G27 G28 G29 v2 v3 hI e27 e28 e29 fr hl h
      exact absurd h (by intro h; cases h)
    | succ fu hk53 =>
      intro σ H locs ls G27 G28 G29 v2 v3 hI e27 e28 e29 fr hl h
      have h : f_X12_rules_l53b F  (f_X12_rules_l53 F  fu) G27 G28 G29 v2 v3 = some q := h
      generalize f_X12_rules_l53 F  fu = k53 at h hk53
      unfold f_X12_rules_l53b at h
      refine lv_iload_n hx hb dX12_rules_53 rfl (lv_at hl 1 rfl) ?_
      refine lv_if_eq (tgt := 104) hx hb dX12_rules_54 (by decide) (fun hc => ?_) (fun hc => ?_)
      · replace h := ite_t hc h
        exact b104  σ H locs ls G27 G28 G29 v2  hI e27 e28 e29 fr (lv_sub hl [0, 1] rfl) h
      · replace h := ite_f hc h
        refine lv_iload_n hx hb dX12_rules_57 rfl (lv_at hl 2 rfl) ?_
        refine lv_if_eq (tgt := 104) hx hb dX12_rules_58 (by decide) (fun hc => ?_) (fun hc => ?_)
        · replace h := ite_t hc h
          exact b104  σ H locs ls G27 G28 G29 v2  hI e27 e28 e29 fr (lv_sub hl [0, 1] rfl) h
        · replace h := ite_f hc h
          refine lv_aload_n hx hb dX12_rules_61 rfl (lv_at hl 0 rfl) ?_
          obtain ⟨q_62, hq_62, h⟩ := ob_e h
          refine r_callV (As := []) (rest := []) hx hb hml hts hown (c_X12_readsRule l HB D y F n κ σ hN  G27 e27 G28 e28 q_62 hq_62) cal_X12_readsRule im_X12_readsRule se_X12_readsRule lm_X12_375 ⟨Nat.le_of_ble_eq_true rfl, Nat.le_of_ble_eq_true rfl⟩ hI.nil hKK (r_recv hKK hI (hE12 HB.size y) rfl (lc91 hN) (kc91 hk0)) rfl hl.1 hI.2.2 rfl (Nat.le_of_ble_eq_true rfl) dX12_rules_62 ⟨Nat.le_of_ble_eq_true rfl, Nat.le_of_ble_eq_true rfl⟩ rfl rfl rfl (fun H locs hB hlo => ?_)
          obtain ⟨σ, hB, en28, ho⟩ := hB
          have hI := hB.re hlo
          have e28 := en28
          have e27 := (ho 27 (ni rfl)).trans e27
          have e29 := (ho 29 (ni rfl)).trans e29
          have fr := frc fr ho (by decide)
          obtain ⟨v2_65, qq, h⟩ := bn_e h
          refine topi qq ?_
          refine lv_istore_n (lv' := [(2, .int v2_65), (0, .ref (HB.size + 91)), (3, .int v3)]) hx hb dX12_rules_65 rfl hl (by decide) rfl (fun ls hl => ?_)
          refine lv_iload_n hx hb dX12_rules_66 rfl (lv_at hl 0 rfl) ?_
          refine lv_if_eq (tgt := 85) hx hb dX12_rules_67 (by decide) (fun hc => ?_) (fun hc => ?_)
          · replace h := ite_t hc h
            exact b85 k53 hk53 σ H locs ls G27 (q_62.2) G29 v2_65  hI e27 e28 e29 fr (lv_sub hl [1, 0] rfl) h
          · replace h := ite_f hc h
            refine lv_aload_n hx hb dX12_rules_70 rfl (lv_at hl 1 rfl) ?_
            refine gt_X12_318 hx hb hts hown hKK hI e28 (lc91 hN) (kc91 hk0) dX12_rules_71 ?_
            refine lv_aload_n hx hb dX12_rules_74 rfl (lv_at hl 1 rfl) ?_
            refine gt_X12_321 hx hb hts hown hKK hI e28 (lc91 hN) (kc91 hk0) dX12_rules_75 ?_
            refine lv_icmp_ge (tgt := 85) hx hb dX12_rules_78 (by decide) (fun hc => ?_) (fun hc => ?_)
            · replace h := ite_t hc h
              exact b85 k53 hk53 σ H locs ls G27 (q_62.2) G29 v2_65  hI e27 e28 e29 fr (lv_sub hl [1, 0] rfl) h
            · replace h := ite_f hc h
              refine lv_iconst (v := 1) hx hb dX12_rules_81 (by decide) ?_
              refine lv_goto (tgt := 86) hx hb dX12_rules_82 (by decide) ?_
              exact b86 k53 hk53 σ H locs ls G27 (q_62.2) G29 v2_65 1  hI e27 e28 e29 fr (lv_sub hl [1, 0] rfl) h
  obtain ⟨σ, hI, e27, e28, e29, fr⟩ : ∃ σ : St, IV HB D y n n κ σ [] s.heap ∧ σ 27 = G27 ∧ σ 28 = G28 ∧ σ 29 = G29 ∧ ∀ j, j ∉ W_X12_rules → σ j = σ0 j := ⟨σ0, hI, e27, e28, e29, fun _ _ => rfl⟩
  show WX RM_X12_rules p l e s m args below meth c HB (some (.int q.1)) (B_X12_rules HB D y n κ σ0 q) s.heap [] (F0 m 0 ls [])
  generalize s.heap = H at hI ⊢
  unfold f_X12_rules at h
  obtain ⟨locs, hlocs⟩ : ∃ x : List Loc, x = [] := ⟨_, rfl⟩
  rw [← hlocs] at hI ⊢
  refine lv_iload_n hx hb dX12_rules_0 rfl (lv_at hl 1 rfl) ?_
  refine lv_iconst (v := 0) hx hb dX12_rules_1 (by decide) ?_
  refine lv_sipush (v := 200) hx hb dX12_rules_2 (by decide) ?_
  obtain ⟨q_5, hq_5, h⟩ := ob_e h
  refine r_callS (As := [.int v1, .int 0, .int 200]) (rest := []) hx hb hml hts hown (c_X12_in l HB D y F n κ σ hN v1 0 200  q_5 hq_5) cal_X12_in st_X12_in lm_X12_260 ⟨Nat.le_of_ble_eq_true rfl, Nat.le_of_ble_eq_true rfl⟩ hI.nil hKK rfl hl.1 hI.2.2 rfl (Nat.le_of_ble_eq_true rfl) dX12_rules_5 ⟨Nat.le_of_ble_eq_true rfl, Nat.le_of_ble_eq_true rfl⟩ rfl rfl rfl (fun H locs hB hlo => ?_)
  have hI := hB.re hlo
  refine lv_if_eq (tgt := 19) hx hb dX12_rules_8 (by decide) (fun hc => ?_) (fun hc => ?_)
  · replace h := ite_t hc h
    refine lv_iconst (v := (-1)) hx hb dX12_rules_19 (by decide) ?_
    have hq := Option.some.inj h
    exact W.iret (v := (-1)) hx hb hr (fun t ht hW => qc_mk (congrArg (fun z => Outcome.returned (some (Value.int z.1))) hq) (by rw [ht]; exact ⟨σ, hI.nil, e27.trans (congrArg (fun z => z.2.1) hq), e28.trans (congrArg (fun z => z.2.2.1) hq), e29.trans (congrArg (fun z => z.2.2.2) hq), fr⟩)) hI.2.2 dX12_rules_20 hlocks
  · replace h := ite_f hc h
    refine lv_iload_n hx hb dX12_rules_11 rfl (lv_at hl 1 rfl) ?_
    refine lv_aload_n hx hb dX12_rules_12 rfl (lv_at hl 0 rfl) ?_
    refine gt_X12_311 hx hb hts hown hKK hI e27 (lc91 hN) (kc91 hk0) dX12_rules_13 ?_
    refine lv_icmp_le (tgt := 21) hx hb dX12_rules_16 (by decide) (fun hc => ?_) (fun hc => ?_)
    · replace h := ite_t hc h
      refine lv_aload_n hx hb dX12_rules_21 rfl (lv_at hl 0 rfl) ?_
      refine lv_iconst (v := 0) hx hb dX12_rules_22 (by decide) ?_
      obtain ⟨G28_23, qq, h⟩ := bn_e h
      refine pt_X12_318 hx hb hts hown hKK hI e28 (lc91 hN) (kc91 hk0) dX12_rules_23 (fun σ H locs hI ew ho => ?_)
      have e28 := ew.trans qq.symm
      have e27 := (ho 27 (nn rfl)).trans e27
      have e29 := (ho 29 (nn rfl)).trans e29
      have fr := frs fr ho (by decide)
      refine lv_aload_n hx hb dX12_rules_26 rfl (lv_at hl 0 rfl) ?_
      refine lv_iload_n hx hb dX12_rules_27 rfl (lv_at hl 1 rfl) ?_
      obtain ⟨G28_28, qq, h⟩ := bn_e h
      refine pt_X12_321 hx hb hts hown hKK hI e28 (lc91 hN) (kc91 hk0) dX12_rules_28 (fun σ H locs hI ew ho => ?_)
      have e28 := ew.trans qq.symm
      have e27 := (ho 27 (nn rfl)).trans e27
      have e29 := (ho 29 (nn rfl)).trans e29
      have fr := frs fr ho (by decide)
      refine lv_aload_n hx hb dX12_rules_31 rfl (lv_at hl 0 rfl) ?_
      refine lv_iconst (v := 0) hx hb dX12_rules_32 (by decide) ?_
      obtain ⟨G28_33, qq, h⟩ := bn_e h
      refine pt_X12_327 hx hb hts hown hKK hI e28 (lc91 hN) (kc91 hk0) dX12_rules_33 (fun σ H locs hI ew ho => ?_)
      have e28 := ew.trans qq.symm
      have e27 := (ho 27 (nn rfl)).trans e27
      have e29 := (ho 29 (nn rfl)).trans e29
      have fr := frs fr ho (by decide)
      refine lv_aload_n hx hb dX12_rules_36 rfl (lv_at hl 0 rfl) ?_
      refine lv_iconst (v := 0) hx hb dX12_rules_37 (by decide) ?_
      obtain ⟨G28_38, qq, h⟩ := bn_e h
      refine pt_X12_368 hx hb hts hown hKK hI e28 (lc91 hN) (kc91 hk0) dX12_rules_38 (fun σ H locs hI ew ho => ?_)
      have e28 := ew.trans qq.symm
      have e27 := (ho 27 (nn rfl)).trans e27
      have e29 := (ho 29 (nn rfl)).trans e29
      have fr := frs fr ho (by decide)
      refine lv_iconst (v := 1) hx hb dX12_rules_41 (by decide) ?_
      refine lv_istore_n (lv' := [(2, .int 1), (0, .ref (HB.size + 91)), (1, .int v1)]) hx hb dX12_rules_42 rfl hl (by decide) rfl (fun ls hl => ?_)
      refine lv_iload_n hx hb dX12_rules_43 rfl (lv_at hl 2 rfl) ?_
      refine lv_if_le (tgt := 51) hx hb dX12_rules_44 (by decide) (fun hc => ?_) (fun hc => ?_)
      · replace h := ite_t hc h
        refine lv_iconst (v := 0) hx hb dX12_rules_51 (by decide) ?_
        refine lv_istore_n (lv' := [(3, .int 0), (2, .int 1), (0, .ref (HB.size + 91)), (1, .int v1)]) hx hb dX12_rules_52 rfl hl (by decide) rfl (fun ls hl => ?_)
        exact b53  F σ H locs ls G27 G28_38 G29 1 0  hI e27 e28 e29 fr (lv_sub hl [2, 1, 0] rfl) h
      · replace h := ite_f hc h
        refine lv_iconst (v := 1) hx hb dX12_rules_47 (by decide) ?_
        refine lv_goto (tgt := 52) hx hb dX12_rules_48 (by decide) ?_
        refine lv_istore_n (lv' := [(3, .int 1), (2, .int 1), (0, .ref (HB.size + 91)), (1, .int v1)]) hx hb dX12_rules_52 rfl hl (by decide) rfl (fun ls hl => ?_)
        exact b53  F σ H locs ls G27 G28_38 G29 1 1  hI e27 e28 e29 fr (lv_sub hl [2, 1, 0] rfl) h
    · replace h := ite_f hc h
      refine lv_iconst (v := (-1)) hx hb dX12_rules_19 (by decide) ?_
      have hq := Option.some.inj h
      exact W.iret (v := (-1)) hx hb hr (fun t ht hW => qc_mk (congrArg (fun z => Outcome.returned (some (Value.int z.1))) hq) (by rw [ht]; exact ⟨σ, hI.nil, e27.trans (congrArg (fun z => z.2.1) hq), e28.trans (congrArg (fun z => z.2.2.1) hq), e29.trans (congrArg (fun z => z.2.2.2) hq), fr⟩)) hI.2.2 dX12_rules_20 hlocks
noncomputable def f_X12_place (F : Nat)  (v0 : Int32) (v1 : Int32) : Option (Int32) :=
  some (3 * ((161 * v0) + v1))
def RM_X12_place : Room := { frames := 0, cells := 0, slots := 0, locals := 0 }
abbrev B_X12_place (HB : Heap) (D : va_G) (y : Nat → ClassId) (n : Nat) (κ : Nat → Nat) (σ : St) (q : Int32) : Heap → Prop := fun H => IV HB D y n n κ σ [] H
set_option maxRecDepth 100000 in
set_option maxHeartbeats 4000000 in
theorem c_X12_place (l : Launch) (HB : Heap) (D : va_G) (y : Nat → ClassId) (F n : Nat) (κ : Nat → Nat) (σ : St) (hN : N0 ≤ n) (v0 : Int32)  (v1 : Int32)   (q : Int32) (h : f_X12_place F v0 v1 = some q) : MT l HB D y yX12_place cX12_place 2 (some .int) RM_X12_place [.int v0, .int v1] (IV HB D y n n κ σ []) (some (.int q)) (B_X12_place HB D y n κ σ q) := by
  refine Met.ofW (cc := cX12_place) (maxL := 2) (ret := (some .int)) (by decide) rfl ?_
  intro p e s m args below meth c s₁ BL hml hv
  obtain ⟨rfl, hI, hKK⟩ := hv
  have hx := BL.exec
  have hb := BL.bytes
  have hr := BL.returns
  have hts : ∀ w ∈ gtb, w.before _ s = true := fun w hw => atoms_spec BL.pre w (List.mem_cons_of_mem _ hw)
  have hml : c.maxLocals = 2 := hml
  have hown : s.vm.findClass RX12 = some m.cls := findClass_of_methodNamed BL.named
  have hlocks := BL.notSynchronized
  have hk0 := hI.1.2.2.2.2
  have hl := lv_entry ([.int v0, .int v1]) (n := 2) (Nat.le_of_ble_eq_true rfl)
  rw [lg_entry_eq]
  generalize (lg_sl ([.int v0, .int v1]) ++ List.replicate (2 - (lg_sl ([.int v0, .int v1])).length) Slot.unset).toArray = ls at hl ⊢
  have hl : lv_has ls 2 [(0, .int v0), (1, .int v1)] := hl
  generalize hargs : ([.int v0, .int v1] : List Value).toArray = args at *
  show WX RM_X12_place p l e s m args below meth c HB (some (.int q)) (B_X12_place HB D y n κ σ q) s.heap [] (F0 m 0 ls [])
  generalize s.heap = H at hI ⊢
  unfold f_X12_place at h
  obtain ⟨locs, hlocs⟩ : ∃ x : List Loc, x = [] := ⟨_, rfl⟩
  rw [← hlocs] at hI ⊢
  refine lv_iconst (v := 3) hx hb dX12_place_0 (by decide) ?_
  refine lv_sipush (v := 161) hx hb dX12_place_1 (by decide) ?_
  refine lv_iload_n hx hb dX12_place_4 rfl (lv_at hl 0 rfl) ?_
  refine lv_imul hx hb dX12_place_5 ?_
  refine lv_iload_n hx hb dX12_place_6 rfl (lv_at hl 1 rfl) ?_
  refine lv_iadd hx hb dX12_place_7 ?_
  refine lv_imul hx hb dX12_place_8 ?_
  have hq := Option.some.inj h
  exact W.iret (v := (3 * ((161 * v0) + v1))) hx hb hr (fun t ht hW => qc_mk (congrArg (fun z => Outcome.returned (some (Value.int z))) hq) (by rw [ht]; exact hI.nil)) hI.2.2 dX12_place_9 hlocks
noncomputable def f_X12_adds_l2b (F : Nat)  (k2 : Grp → Int32 → Int32 → Int32 → Option (Grp)) (G30 : Grp) (v1 : Int32) (v2 : Int32) (v3 : Int32) : Option (Grp) :=
  if 3 ≤ v3 then some G30 else ck (v1 + v3) 202860 (ck (v2 + v3) 202860 (ck (v1 + v3) 202860 (bn (gJ G30 122 (v1 + v3).toNatClampNeg ((G30.2.1 122 (v1 + v3).toNatClampNeg) ||| (G30.2.1 122 (v2 + v3).toNatClampNeg))) (fun G30_31 => bn (v3 + 1) (fun v3_32 => k2 G30_31 v1 v2 v3_32)))))
noncomputable def f_X12_adds_l2 (F : Nat)  (fu : Nat) : Grp → Int32 → Int32 → Int32 → Option (Grp) := Nat.rec (motive := fun _ => Grp → Int32 → Int32 → Int32 → Option (Grp)) (fun _ _ _ _ => none) (fun _ ih => f_X12_adds_l2b F  ih) fu
noncomputable def f_X12_adds (F : Nat) (G30 : Grp) (v1 : Int32) (v2 : Int32) : Option (Grp) :=
  f_X12_adds_l2 F  F G30 v1 v2 0
def RM_X12_adds : Room := { frames := 0, cells := 0, slots := 0, locals := 0 }
abbrev W_X12_adds : List Nat := [30]
abbrev B_X12_adds (HB : Heap) (D : va_G) (y : Nat → ClassId) (n : Nat) (κ : Nat → Nat) (σ0 : St) (q : Grp) : Heap → Prop := fun H => ∃ σ : St, IV HB D y n n κ σ [] H ∧ σ 30 = q ∧ ∀ j, j ∉ W_X12_adds → σ j = σ0 j
set_option maxRecDepth 100000 in
set_option maxHeartbeats 4000000 in
theorem c_X12_adds (l : Launch) (HB : Heap) (D : va_G) (y : Nat → ClassId) (F n : Nat) (κ : Nat → Nat) (σ0 : St) (hN : N0 ≤ n) (v1 : Int32)  (v2 : Int32)  (G30 : Grp) (e30 : σ0 30 = G30) (q : Grp) (h : f_X12_adds F G30 v1 v2 = some q) : MT l HB D y yX12_adds cX12_adds 4 none RM_X12_adds [.ref (HB.size + 91), .int v1, .int v2] (IV HB D y n n κ σ0 []) none (B_X12_adds HB D y n κ σ0 q) := by
  refine Met.ofW (cc := cX12_adds) (maxL := 4) (ret := none) (by decide) rfl ?_
  intro p e s m args below meth c s₁ BL hml hv
  obtain ⟨rfl, hI, hKK⟩ := hv
  have hx := BL.exec
  have hb := BL.bytes
  have hr := BL.returns
  have hts : ∀ w ∈ gtb, w.before _ s = true := fun w hw => atoms_spec BL.pre w (List.mem_cons_of_mem _ hw)
  have hml : c.maxLocals = 4 := hml
  have hown : s.vm.findClass RX12 = some m.cls := findClass_of_methodNamed BL.named
  have hlocks := BL.notSynchronized
  have hk0 := hI.1.2.2.2.2
  have hl := lv_entry ([.ref (HB.size + 91), .int v1, .int v2]) (n := 4) (Nat.le_of_ble_eq_true rfl)
  rw [lg_entry_eq]
  generalize (lg_sl ([.ref (HB.size + 91), .int v1, .int v2]) ++ List.replicate (4 - (lg_sl ([.ref (HB.size + 91), .int v1, .int v2])).length) Slot.unset).toArray = ls at hl ⊢
  have hl : lv_has ls 4 [(0, .ref (HB.size + 91)), (1, .int v1), (2, .int v2)] := hl
  generalize hargs : ([.ref (HB.size + 91), .int v1, .int v2] : List Value).toArray = args at *
  have b2 : ∀ (fu : Nat) (σ : St) (H : Heap) (locs : List Loc) (ls : Array Slot) (G30 : Grp) (v1 : Int32) (v2 : Int32) (v3 : Int32) , IV HB D y n n κ σ locs H → σ 30 = G30 → (∀ j, j ∉ W_X12_adds → σ j = σ0 j) → lv_has ls 4 [(0, .ref (HB.size + 91)), (1, .int v1), (2, .int v2), (3, .int v3)] → f_X12_adds_l2 F  fu G30 v1 v2 v3 = some q → WX RM_X12_adds p l e s m args below meth c HB none (B_X12_adds HB D y n κ σ0 q) H locs (F0 m 2 ls []) := by
    intro  fu
    induction fu with
    | zero =>
      intro σ H locs ls G30 v1 v2 v3 hI e30 fr hl h
      exact absurd h (by intro h; cases h)
    | succ fu hk2 =>
      intro σ H locs ls G30 v1 v2 v3 hI e30 fr hl h
      have h : f_X12_adds_l2b F  (f_X12_adds_l2 F  fu) G30 v1 v2 v3 = some q := h
      generalize f_X12_adds_l2 F  fu = k2 at h hk2
      unfold f_X12_adds_l2b at h
      refine lv_iload_n hx hb dX12_adds_2 rfl (lv_at hl 3 rfl) ?_
      refine lv_iconst (v := 3) hx hb dX12_adds_3 (by decide) ?_
      refine lv_icmp_ge (tgt := 38) hx hb dX12_adds_4 (by decide) (fun hc => ?_) (fun hc => ?_)
      · replace h := ite_t hc h
        have hq := Option.some.inj h
        exact W.vret hx hb hr (fun t ht hW => qc_mk (rfl) (by rw [ht]; exact ⟨σ, hI.nil, e30.trans (congrArg (fun z => z) hq), fr⟩)) hI.2.2 dX12_adds_38 hlocks
      · replace h := ite_f hc h
        refine lv_aload_n hx hb dX12_adds_7 rfl (lv_at hl 0 rfl) ?_
        refine gf_X12_102 hx hb hts hown hKK hI hN dX12_adds_8 ?_
        refine lv_iload_n hx hb dX12_adds_11 rfl (lv_at hl 1 rfl) ?_
        refine lv_iload_n hx hb dX12_adds_12 rfl (lv_at hl 3 rfl) ?_
        refine lv_iadd hx hb dX12_adds_13 ?_
        refine lv_aload_n hx hb dX12_adds_14 rfl (lv_at hl 0 rfl) ?_
        refine gf_X12_102 hx hb hts hown hKK hI hN dX12_adds_15 ?_
        refine lv_iload_n hx hb dX12_adds_18 rfl (lv_at hl 1 rfl) ?_
        refine lv_iload_n hx hb dX12_adds_19 rfl (lv_at hl 3 rfl) ?_
        refine lv_iadd hx hb dX12_adds_20 ?_
        obtain ⟨hin_, h⟩ := ck_e h
        refine la_53 hx hb hKK hI e30 (lc122 hN) (kc122 hk0) hin_ dX12_adds_21 ?_
        refine lv_aload_n hx hb dX12_adds_22 rfl (lv_at hl 0 rfl) ?_
        refine gf_X12_102 hx hb hts hown hKK hI hN dX12_adds_23 ?_
        refine lv_iload_n hx hb dX12_adds_26 rfl (lv_at hl 2 rfl) ?_
        refine lv_iload_n hx hb dX12_adds_27 rfl (lv_at hl 3 rfl) ?_
        refine lv_iadd hx hb dX12_adds_28 ?_
        obtain ⟨hin_, h⟩ := ck_e h
        refine la_53 hx hb hKK hI e30 (lc122 hN) (kc122 hk0) hin_ dX12_adds_29 ?_
        refine lv_lor hx hb dX12_adds_30 ?_
        obtain ⟨hin_, h⟩ := ck_e h
        obtain ⟨G30_31, qq, h⟩ := bn_e h
        refine sa_53 hx hb hKK hI e30 (lc122 hN) (kc122 hk0) hin_ dX12_adds_31 (fun σ H locs hI ew ho => ?_)
        have e30 := ew.trans qq.symm
        have fr := frs fr ho (by decide)
        obtain ⟨v3_32, qq, h⟩ := bn_e h
        refine lv_iinc (v := v3_32) (lv' := [(3, .int v3_32), (0, .ref (HB.size + 91)), (1, .int v1), (2, .int v2)]) hx hb dX12_adds_32 hl (k := 3) rfl (by rw [qq]; rfl) (by decide) rfl (fun ls hl => ?_)
        refine lv_goto (tgt := 2) hx hb dX12_adds_35 (by decide) ?_
        exact hk2 σ H locs ls G30_31 v1 v2 v3_32  hI e30 fr (lv_sub hl [1, 2, 3, 0] rfl) h
  obtain ⟨σ, hI, e30, fr⟩ : ∃ σ : St, IV HB D y n n κ σ [] s.heap ∧ σ 30 = G30 ∧ ∀ j, j ∉ W_X12_adds → σ j = σ0 j := ⟨σ0, hI, e30, fun _ _ => rfl⟩
  show WX RM_X12_adds p l e s m args below meth c HB none (B_X12_adds HB D y n κ σ0 q) s.heap [] (F0 m 0 ls [])
  generalize s.heap = H at hI ⊢
  unfold f_X12_adds at h
  obtain ⟨locs, hlocs⟩ : ∃ x : List Loc, x = [] := ⟨_, rfl⟩
  rw [← hlocs] at hI ⊢
  refine lv_iconst (v := 0) hx hb dX12_adds_0 (by decide) ?_
  refine lv_istore_n (lv' := [(3, .int 0), (0, .ref (HB.size + 91)), (1, .int v1), (2, .int v2)]) hx hb dX12_adds_1 rfl hl (by decide) rfl (fun ls hl => ?_)
  exact b2  F σ H locs ls G30 v1 v2 0  hI e30 fr (lv_sub hl [1, 2, 3, 0] rfl) h
noncomputable def f_X12_isEnd (F : Nat) (G30 : Grp) (v1 : Int32) (v2 : Int32) : Option (Int32) :=
  ck (v1 + (v2 / 64)) 202860 (if (lg_cmp (((G30.2.1 122 (v1 + (v2 / 64)).toNatClampNeg) >>> ((v2 - v2 / 64 * 64).toInt64 &&& 63)) &&& 1) 1) = 0 then some 1 else some 0)
def RM_X12_isEnd : Room := { frames := 0, cells := 0, slots := 0, locals := 0 }
abbrev B_X12_isEnd (HB : Heap) (D : va_G) (y : Nat → ClassId) (n : Nat) (κ : Nat → Nat) (σ : St) (q : Int32) : Heap → Prop := fun H => IV HB D y n n κ σ [] H
set_option maxRecDepth 100000 in
set_option maxHeartbeats 4000000 in
theorem c_X12_isEnd (l : Launch) (HB : Heap) (D : va_G) (y : Nat → ClassId) (F n : Nat) (κ : Nat → Nat) (σ : St) (hN : N0 ≤ n) (v1 : Int32)  (v2 : Int32)  (G30 : Grp) (e30 : σ 30 = G30) (q : Int32) (h : f_X12_isEnd F G30 v1 v2 = some q) : MT l HB D y yX12_isEnd cX12_isEnd 3 (some .boolean) RM_X12_isEnd [.ref (HB.size + 91), .int v1, .int v2] (IV HB D y n n κ σ []) (some (.int q)) (B_X12_isEnd HB D y n κ σ q) := by
  refine Met.ofW (cc := cX12_isEnd) (maxL := 3) (ret := (some .boolean)) (by decide) rfl ?_
  intro p e s m args below meth c s₁ BL hml hv
  obtain ⟨rfl, hI, hKK⟩ := hv
  have hx := BL.exec
  have hb := BL.bytes
  have hr := BL.returns
  have hts : ∀ w ∈ gtb, w.before _ s = true := fun w hw => atoms_spec BL.pre w (List.mem_cons_of_mem _ hw)
  have hml : c.maxLocals = 3 := hml
  have hown : s.vm.findClass RX12 = some m.cls := findClass_of_methodNamed BL.named
  have hlocks := BL.notSynchronized
  have hk0 := hI.1.2.2.2.2
  have hl := lv_entry ([.ref (HB.size + 91), .int v1, .int v2]) (n := 3) (Nat.le_of_ble_eq_true rfl)
  rw [lg_entry_eq]
  generalize (lg_sl ([.ref (HB.size + 91), .int v1, .int v2]) ++ List.replicate (3 - (lg_sl ([.ref (HB.size + 91), .int v1, .int v2])).length) Slot.unset).toArray = ls at hl ⊢
  have hl : lv_has ls 3 [(0, .ref (HB.size + 91)), (1, .int v1), (2, .int v2)] := hl
  generalize hargs : ([.ref (HB.size + 91), .int v1, .int v2] : List Value).toArray = args at *
  show WX RM_X12_isEnd p l e s m args below meth c HB (some (.int q)) (B_X12_isEnd HB D y n κ σ q) s.heap [] (F0 m 0 ls [])
  generalize s.heap = H at hI ⊢
  unfold f_X12_isEnd at h
  obtain ⟨locs, hlocs⟩ : ∃ x : List Loc, x = [] := ⟨_, rfl⟩
  rw [← hlocs] at hI ⊢
  refine lv_aload_n hx hb dX12_isEnd_0 rfl (lv_at hl 0 rfl) ?_
  refine gf_X12_102 hx hb hts hown hKK hI hN dX12_isEnd_1 ?_
  refine lv_iload_n hx hb dX12_isEnd_4 rfl (lv_at hl 1 rfl) ?_
  refine lv_iload_n hx hb dX12_isEnd_5 rfl (lv_at hl 2 rfl) ?_
  refine lv_bipush (v := 64) hx hb dX12_isEnd_6 (by decide) ?_
  refine lv_idiv hx hb dX12_isEnd_8 (by decide) ?_
  refine lv_iadd hx hb dX12_isEnd_9 ?_
  obtain ⟨hin_, h⟩ := ck_e h
  refine la_53 hx hb hKK hI e30 (lc122 hN) (kc122 hk0) hin_ dX12_isEnd_10 ?_
  refine lv_iload_n hx hb dX12_isEnd_11 rfl (lv_at hl 2 rfl) ?_
  refine lv_bipush (v := 64) hx hb dX12_isEnd_12 (by decide) ?_
  refine lv_irem hx hb dX12_isEnd_14 (by decide) ?_
  refine lv_lshr hx hb dX12_isEnd_15 rfl ?_
  refine lv_lconst (v := 1) hx hb dX12_isEnd_16 rfl ?_
  refine lv_land hx hb dX12_isEnd_17 ?_
  refine lv_lconst (v := 1) hx hb dX12_isEnd_18 rfl ?_
  refine W.lcmp hx hb dX12_isEnd_19 ?_
  refine lv_if_ne (tgt := 27) hx hb dX12_isEnd_20 (by decide) (fun hc => ?_) (fun hc => ?_)
  · replace h := ite_f hc h
    refine lv_iconst (v := 0) hx hb dX12_isEnd_27 (by decide) ?_
    have hq := Option.some.inj h
    exact W.zret (v := 0) (ty := .boolean) hx hb hr rfl (fun t ht hW => qc_mk (congrArg (fun z => Outcome.returned (some (Value.int z))) hq) (by rw [ht]; exact hI.nil)) hI.2.2 dX12_isEnd_28 hlocks
  · replace h := ite_t hc h
    refine lv_iconst (v := 1) hx hb dX12_isEnd_23 (by decide) ?_
    refine lv_goto (tgt := 28) hx hb dX12_isEnd_24 (by decide) ?_
    have hq := Option.some.inj h
    exact W.zret (v := 1) (ty := .boolean) hx hb hr rfl (fun t ht hW => qc_mk (congrArg (fun z => Outcome.returned (some (Value.int z))) hq) (by rw [ht]; exact hI.nil)) hI.2.2 dX12_isEnd_28 hlocks
noncomputable def f_X12_puts (F : Nat) (G30 : Grp) (v1 : Int32) (v2 : Int32) : Option (Grp) :=
  ck (v1 + (v2 / 64)) 202860 (ck (v1 + (v2 / 64)) 202860 (bn (gJ G30 122 (v1 + (v2 / 64)).toNatClampNeg ((G30.2.1 122 (v1 + (v2 / 64)).toNatClampNeg) ||| (1 <<< ((v2 - v2 / 64 * 64).toInt64 &&& 63)))) (fun G30_28 => some G30_28)))
def RM_X12_puts : Room := { frames := 0, cells := 0, slots := 0, locals := 0 }
abbrev W_X12_puts : List Nat := [30]
abbrev B_X12_puts (HB : Heap) (D : va_G) (y : Nat → ClassId) (n : Nat) (κ : Nat → Nat) (σ0 : St) (q : Grp) : Heap → Prop := fun H => ∃ σ : St, IV HB D y n n κ σ [] H ∧ σ 30 = q ∧ ∀ j, j ∉ W_X12_puts → σ j = σ0 j
set_option maxRecDepth 100000 in
set_option maxHeartbeats 4000000 in
theorem c_X12_puts (l : Launch) (HB : Heap) (D : va_G) (y : Nat → ClassId) (F n : Nat) (κ : Nat → Nat) (σ0 : St) (hN : N0 ≤ n) (v1 : Int32)  (v2 : Int32)  (G30 : Grp) (e30 : σ0 30 = G30) (q : Grp) (h : f_X12_puts F G30 v1 v2 = some q) : MT l HB D y yX12_puts cX12_puts 3 none RM_X12_puts [.ref (HB.size + 91), .int v1, .int v2] (IV HB D y n n κ σ0 []) none (B_X12_puts HB D y n κ σ0 q) := by
  refine Met.ofW (cc := cX12_puts) (maxL := 3) (ret := none) (by decide) rfl ?_
  intro p e s m args below meth c s₁ BL hml hv
  obtain ⟨rfl, hI, hKK⟩ := hv
  have hx := BL.exec
  have hb := BL.bytes
  have hr := BL.returns
  have hts : ∀ w ∈ gtb, w.before _ s = true := fun w hw => atoms_spec BL.pre w (List.mem_cons_of_mem _ hw)
  have hml : c.maxLocals = 3 := hml
  have hown : s.vm.findClass RX12 = some m.cls := findClass_of_methodNamed BL.named
  have hlocks := BL.notSynchronized
  have hk0 := hI.1.2.2.2.2
  have hl := lv_entry ([.ref (HB.size + 91), .int v1, .int v2]) (n := 3) (Nat.le_of_ble_eq_true rfl)
  rw [lg_entry_eq]
  generalize (lg_sl ([.ref (HB.size + 91), .int v1, .int v2]) ++ List.replicate (3 - (lg_sl ([.ref (HB.size + 91), .int v1, .int v2])).length) Slot.unset).toArray = ls at hl ⊢
  have hl : lv_has ls 3 [(0, .ref (HB.size + 91)), (1, .int v1), (2, .int v2)] := hl
  generalize hargs : ([.ref (HB.size + 91), .int v1, .int v2] : List Value).toArray = args at *
  obtain ⟨σ, hI, e30, fr⟩ : ∃ σ : St, IV HB D y n n κ σ [] s.heap ∧ σ 30 = G30 ∧ ∀ j, j ∉ W_X12_puts → σ j = σ0 j := ⟨σ0, hI, e30, fun _ _ => rfl⟩
  show WX RM_X12_puts p l e s m args below meth c HB none (B_X12_puts HB D y n κ σ0 q) s.heap [] (F0 m 0 ls [])
  generalize s.heap = H at hI ⊢
  unfold f_X12_puts at h
  obtain ⟨locs, hlocs⟩ : ∃ x : List Loc, x = [] := ⟨_, rfl⟩
  rw [← hlocs] at hI ⊢
  refine lv_aload_n hx hb dX12_puts_0 rfl (lv_at hl 0 rfl) ?_
  refine gf_X12_102 hx hb hts hown hKK hI hN dX12_puts_1 ?_
  refine lv_iload_n hx hb dX12_puts_4 rfl (lv_at hl 1 rfl) ?_
  refine lv_iload_n hx hb dX12_puts_5 rfl (lv_at hl 2 rfl) ?_
  refine lv_bipush (v := 64) hx hb dX12_puts_6 (by decide) ?_
  refine lv_idiv hx hb dX12_puts_8 (by decide) ?_
  refine lv_iadd hx hb dX12_puts_9 ?_
  refine lv_aload_n hx hb dX12_puts_10 rfl (lv_at hl 0 rfl) ?_
  refine gf_X12_102 hx hb hts hown hKK hI hN dX12_puts_11 ?_
  refine lv_iload_n hx hb dX12_puts_14 rfl (lv_at hl 1 rfl) ?_
  refine lv_iload_n hx hb dX12_puts_15 rfl (lv_at hl 2 rfl) ?_
  refine lv_bipush (v := 64) hx hb dX12_puts_16 (by decide) ?_
  refine lv_idiv hx hb dX12_puts_18 (by decide) ?_
  refine lv_iadd hx hb dX12_puts_19 ?_
  obtain ⟨hin_, h⟩ := ck_e h
  refine la_53 hx hb hKK hI e30 (lc122 hN) (kc122 hk0) hin_ dX12_puts_20 ?_
  refine lv_lconst (v := 1) hx hb dX12_puts_21 rfl ?_
  refine lv_iload_n hx hb dX12_puts_22 rfl (lv_at hl 2 rfl) ?_
  refine lv_bipush (v := 64) hx hb dX12_puts_23 (by decide) ?_
  refine lv_irem hx hb dX12_puts_25 (by decide) ?_
  refine lv_lshl hx hb dX12_puts_26 rfl ?_
  refine lv_lor hx hb dX12_puts_27 ?_
  obtain ⟨hin_, h⟩ := ck_e h
  obtain ⟨G30_28, qq, h⟩ := bn_e h
  refine sa_53 hx hb hKK hI e30 (lc122 hN) (kc122 hk0) hin_ dX12_puts_28 (fun σ H locs hI ew ho => ?_)
  have e30 := ew.trans qq.symm
  have fr := frs fr ho (by decide)
  have hq := Option.some.inj h
  exact W.vret hx hb hr (fun t ht hW => qc_mk (rfl) (by rw [ht]; exact ⟨σ, hI.nil, e30.trans (congrArg (fun z => z) hq), fr⟩)) hI.2.2 dX12_puts_29 hlocks
noncomputable def f_X12_isWord (F : Nat) (G30 : Grp) (v1 : Int32) : Option (Int32) :=
  if v1 < 0 then some 0 else if (G30.1 91 46) ≤ v1 then some 0 else ck v1 160 (ob (f_X12_isLetter F (G30.1 123 v1.toNatClampNeg)) (fun q_18 => if q_18 = 0 then ck v1 160 (ob (f_X12_isDigit F (G30.1 123 v1.toNatClampNeg)) (fun q_30 => if q_30 = 0 then some 0 else some 1)) else some 1))
def RM_X12_isWord : Room := { frames := 1, cells := 0, slots := 0, locals := 20 }
abbrev B_X12_isWord (HB : Heap) (D : va_G) (y : Nat → ClassId) (n : Nat) (κ : Nat → Nat) (σ : St) (q : Int32) : Heap → Prop := fun H => IV HB D y n n κ σ [] H
set_option maxRecDepth 100000 in
set_option maxHeartbeats 4000000 in
theorem c_X12_isWord (l : Launch) (HB : Heap) (D : va_G) (y : Nat → ClassId) (F n : Nat) (κ : Nat → Nat) (σ : St) (hN : N0 ≤ n) (v1 : Int32)  (G30 : Grp) (e30 : σ 30 = G30) (q : Int32) (h : f_X12_isWord F G30 v1 = some q) : MT l HB D y yX12_isWord cX12_isWord 2 (some .boolean) RM_X12_isWord [.ref (HB.size + 91), .int v1] (IV HB D y n n κ σ []) (some (.int q)) (B_X12_isWord HB D y n κ σ q) := by
  refine Met.ofW (cc := cX12_isWord) (maxL := 2) (ret := (some .boolean)) (by decide) rfl ?_
  intro p e s m args below meth c s₁ BL hml hv
  obtain ⟨rfl, hI, hKK⟩ := hv
  have hx := BL.exec
  have hb := BL.bytes
  have hr := BL.returns
  have hts : ∀ w ∈ gtb, w.before _ s = true := fun w hw => atoms_spec BL.pre w (List.mem_cons_of_mem _ hw)
  have hml : c.maxLocals = 2 := hml
  have hown : s.vm.findClass RX12 = some m.cls := findClass_of_methodNamed BL.named
  have hlocks := BL.notSynchronized
  have hk0 := hI.1.2.2.2.2
  have hl := lv_entry ([.ref (HB.size + 91), .int v1]) (n := 2) (Nat.le_of_ble_eq_true rfl)
  rw [lg_entry_eq]
  generalize (lg_sl ([.ref (HB.size + 91), .int v1]) ++ List.replicate (2 - (lg_sl ([.ref (HB.size + 91), .int v1])).length) Slot.unset).toArray = ls at hl ⊢
  have hl : lv_has ls 2 [(0, .ref (HB.size + 91)), (1, .int v1)] := hl
  generalize hargs : ([.ref (HB.size + 91), .int v1] : List Value).toArray = args at *
  show WX RM_X12_isWord p l e s m args below meth c HB (some (.int q)) (B_X12_isWord HB D y n κ σ q) s.heap [] (F0 m 0 ls [])
  generalize s.heap = H at hI ⊢
  unfold f_X12_isWord at h
  obtain ⟨locs, hlocs⟩ : ∃ x : List Loc, x = [] := ⟨_, rfl⟩
  rw [← hlocs] at hI ⊢
  refine lv_iload_n hx hb dX12_isWord_0 rfl (lv_at hl 1 rfl) ?_
  refine lv_if_lt (tgt := 40) hx hb dX12_isWord_1 (by decide) (fun hc => ?_) (fun hc => ?_)
  · replace h := ite_t hc h
    refine lv_iconst (v := 0) hx hb dX12_isWord_40 (by decide) ?_
    have hq := Option.some.inj h
    exact W.zret (v := 0) (ty := .boolean) hx hb hr rfl (fun t ht hW => qc_mk (congrArg (fun z => Outcome.returned (some (Value.int z))) hq) (by rw [ht]; exact hI.nil)) hI.2.2 dX12_isWord_41 hlocks
  · replace h := ite_f hc h
    refine lv_iload_n hx hb dX12_isWord_4 rfl (lv_at hl 1 rfl) ?_
    refine lv_aload_n hx hb dX12_isWord_5 rfl (lv_at hl 0 rfl) ?_
    refine gt_X12_384 hx hb hts hown hKK hI e30 (lc91 hN) (kc91 hk0) dX12_isWord_6 ?_
    refine lv_icmp_ge (tgt := 40) hx hb dX12_isWord_9 (by decide) (fun hc => ?_) (fun hc => ?_)
    · replace h := ite_t hc h
      refine lv_iconst (v := 0) hx hb dX12_isWord_40 (by decide) ?_
      have hq := Option.some.inj h
      exact W.zret (v := 0) (ty := .boolean) hx hb hr rfl (fun t ht hW => qc_mk (congrArg (fun z => Outcome.returned (some (Value.int z))) hq) (by rw [ht]; exact hI.nil)) hI.2.2 dX12_isWord_41 hlocks
    · replace h := ite_f hc h
      refine lv_aload_n hx hb dX12_isWord_12 rfl (lv_at hl 0 rfl) ?_
      refine gf_X12_106 hx hb hts hown hKK hI hN dX12_isWord_13 ?_
      refine lv_iload_n hx hb dX12_isWord_16 rfl (lv_at hl 1 rfl) ?_
      obtain ⟨hin_, h⟩ := ck_e h
      refine la_54 hx hb hKK hI e30 (lc123 hN) (kc123 hk0) hin_ dX12_isWord_17 ?_
      obtain ⟨q_18, hq_18, h⟩ := ob_e h
      refine r_callS (As := [.int (G30.1 123 v1.toNatClampNeg)]) (rest := []) hx hb hml hts hown (c_X12_isLetter l HB D y F n κ σ hN (G30.1 123 v1.toNatClampNeg)  q_18 hq_18) cal_X12_isLetter st_X12_isLetter lm_X12_340 ⟨Nat.le_of_ble_eq_true rfl, Nat.le_of_ble_eq_true rfl⟩ hI.nil hKK rfl hl.1 hI.2.2 rfl (Nat.le_of_ble_eq_true rfl) dX12_isWord_18 ⟨Nat.le_of_ble_eq_true rfl, Nat.le_of_ble_eq_true rfl⟩ rfl rfl rfl (fun H locs hB hlo => ?_)
      have hI := hB.re hlo
      refine lv_if_ne (tgt := 36) hx hb dX12_isWord_21 (by decide) (fun hc => ?_) (fun hc => ?_)
      · replace h := ite_f hc h
        refine lv_iconst (v := 1) hx hb dX12_isWord_36 (by decide) ?_
        refine lv_goto (tgt := 41) hx hb dX12_isWord_37 (by decide) ?_
        have hq := Option.some.inj h
        exact W.zret (v := 1) (ty := .boolean) hx hb hr rfl (fun t ht hW => qc_mk (congrArg (fun z => Outcome.returned (some (Value.int z))) hq) (by rw [ht]; exact hI.nil)) hI.2.2 dX12_isWord_41 hlocks
      · replace h := ite_t hc h
        refine lv_aload_n hx hb dX12_isWord_24 rfl (lv_at hl 0 rfl) ?_
        refine gf_X12_106 hx hb hts hown hKK hI hN dX12_isWord_25 ?_
        refine lv_iload_n hx hb dX12_isWord_28 rfl (lv_at hl 1 rfl) ?_
        obtain ⟨hin_, h⟩ := ck_e h
        refine la_54 hx hb hKK hI e30 (lc123 hN) (kc123 hk0) hin_ dX12_isWord_29 ?_
        obtain ⟨q_30, hq_30, h⟩ := ob_e h
        refine r_callS (As := [.int (G30.1 123 v1.toNatClampNeg)]) (rest := []) hx hb hml hts hown (c_X12_isDigit l HB D y F n κ σ hN (G30.1 123 v1.toNatClampNeg)  q_30 hq_30) cal_X12_isDigit st_X12_isDigit lm_X12_343 ⟨Nat.le_of_ble_eq_true rfl, Nat.le_of_ble_eq_true rfl⟩ hI.nil hKK rfl hl.1 hI.2.2 rfl (Nat.le_of_ble_eq_true rfl) dX12_isWord_30 ⟨Nat.le_of_ble_eq_true rfl, Nat.le_of_ble_eq_true rfl⟩ rfl rfl rfl (fun H locs hB hlo => ?_)
        have hI := hB.re hlo
        refine lv_if_eq (tgt := 40) hx hb dX12_isWord_33 (by decide) (fun hc => ?_) (fun hc => ?_)
        · replace h := ite_t hc h
          refine lv_iconst (v := 0) hx hb dX12_isWord_40 (by decide) ?_
          have hq := Option.some.inj h
          exact W.zret (v := 0) (ty := .boolean) hx hb hr rfl (fun t ht hW => qc_mk (congrArg (fun z => Outcome.returned (some (Value.int z))) hq) (by rw [ht]; exact hI.nil)) hI.2.2 dX12_isWord_41 hlocks
        · replace h := ite_f hc h
          refine lv_iconst (v := 1) hx hb dX12_isWord_36 (by decide) ?_
          refine lv_goto (tgt := 41) hx hb dX12_isWord_37 (by decide) ?_
          have hq := Option.some.inj h
          exact W.zret (v := 1) (ty := .boolean) hx hb hr rfl (fun t ht hW => qc_mk (congrArg (fun z => Outcome.returned (some (Value.int z))) hq) (by rw [ht]; exact hI.nil)) hI.2.2 dX12_isWord_41 hlocks
noncomputable def f_X12_takes (F : Nat)  (v1 : Int32) (v2 : Int32) : Option (Int32) :=
  if v1 = 35 then ob (f_X12_isDigit F v2) (fun q_45 => cb q_45 (some q_45)) else if v1 = 46 then some 1 else if v1 = 64 then ob (f_X12_isLetter F v2) (fun q_50 => cb q_50 (some q_50)) else if v1 = 95 then if v2 = 32 then some 1 else if v2 = 10 then some 1 else some 0 else if v1 = v2 then some 1 else some 0
def RM_X12_takes : Room := { frames := 1, cells := 0, slots := 0, locals := 20 }
abbrev B_X12_takes (HB : Heap) (D : va_G) (y : Nat → ClassId) (n : Nat) (κ : Nat → Nat) (σ : St) (q : Int32) : Heap → Prop := fun H => IV HB D y n n κ σ [] H
set_option maxRecDepth 100000 in
set_option maxHeartbeats 4000000 in
theorem c_X12_takes (l : Launch) (HB : Heap) (D : va_G) (y : Nat → ClassId) (F n : Nat) (κ : Nat → Nat) (σ : St) (hN : N0 ≤ n) (v1 : Int32)  (v2 : Int32)   (q : Int32) (h : f_X12_takes F v1 v2 = some q) : MT l HB D y yX12_takes cX12_takes 3 (some .boolean) RM_X12_takes [.ref (HB.size + 91), .int v1, .int v2] (IV HB D y n n κ σ []) (some (.int q)) (B_X12_takes HB D y n κ σ q) := by
  refine Met.ofW (cc := cX12_takes) (maxL := 3) (ret := (some .boolean)) (by decide) rfl ?_
  intro p e s m args below meth c s₁ BL hml hv
  obtain ⟨rfl, hI, hKK⟩ := hv
  have hx := BL.exec
  have hb := BL.bytes
  have hr := BL.returns
  have hts : ∀ w ∈ gtb, w.before _ s = true := fun w hw => atoms_spec BL.pre w (List.mem_cons_of_mem _ hw)
  have hml : c.maxLocals = 3 := hml
  have hown : s.vm.findClass RX12 = some m.cls := findClass_of_methodNamed BL.named
  have hlocks := BL.notSynchronized
  have hk0 := hI.1.2.2.2.2
  have hl := lv_entry ([.ref (HB.size + 91), .int v1, .int v2]) (n := 3) (Nat.le_of_ble_eq_true rfl)
  rw [lg_entry_eq]
  generalize (lg_sl ([.ref (HB.size + 91), .int v1, .int v2]) ++ List.replicate (3 - (lg_sl ([.ref (HB.size + 91), .int v1, .int v2])).length) Slot.unset).toArray = ls at hl ⊢
  have hl : lv_has ls 3 [(0, .ref (HB.size + 91)), (1, .int v1), (2, .int v2)] := hl
  generalize hargs : ([.ref (HB.size + 91), .int v1, .int v2] : List Value).toArray = args at *
  show WX RM_X12_takes p l e s m args below meth c HB (some (.int q)) (B_X12_takes HB D y n κ σ q) s.heap [] (F0 m 0 ls [])
  generalize s.heap = H at hI ⊢
  unfold f_X12_takes at h
  obtain ⟨locs, hlocs⟩ : ∃ x : List Loc, x = [] := ⟨_, rfl⟩
  rw [← hlocs] at hI ⊢
  refine lv_iload_n hx hb dX12_takes_0 rfl (lv_at hl 1 rfl) ?_
  by_cases hc0 : v1 = 35
  · replace h := ite_t hc0 h
    refine lv_lookup (off := 43) (tgt := 44) hx hb dX12_takes_1 (by decide) (by rw [hc0]; decide) (by decide) ?_
    refine lv_iload_n hx hb dX12_takes_44 rfl (lv_at hl 2 rfl) ?_
    obtain ⟨q_45, hq_45, h⟩ := ob_e h
    refine r_callS (As := [.int v2]) (rest := []) hx hb hml hts hown (c_X12_isDigit l HB D y F n κ σ hN v2  q_45 hq_45) cal_X12_isDigit st_X12_isDigit lm_X12_343 ⟨Nat.le_of_ble_eq_true rfl, Nat.le_of_ble_eq_true rfl⟩ hI.nil hKK rfl hl.1 hI.2.2 rfl (Nat.le_of_ble_eq_true rfl) dX12_takes_45 ⟨Nat.le_of_ble_eq_true rfl, Nat.le_of_ble_eq_true rfl⟩ rfl rfl rfl (fun H locs hB hlo => ?_)
    have hI := hB.re hlo
    obtain ⟨hz, h⟩ := cb_e h
    have hq := Option.some.inj h
    exact W.zret (v := q_45) (ty := .boolean) hx hb hr hz (fun t ht hW => qc_mk (congrArg (fun z => Outcome.returned (some (Value.int z))) hq) (by rw [ht]; exact hI.nil)) hI.2.2 dX12_takes_48 hlocks
  · replace h := ite_f hc0 h
    by_cases hc1 : v1 = 46
    · replace h := ite_t hc1 h
      refine lv_lookup (off := 71) (tgt := 72) hx hb dX12_takes_1 (by decide) (by rw [hc1]; decide) (by decide) ?_
      refine lv_iconst (v := 1) hx hb dX12_takes_72 (by decide) ?_
      have hq := Option.some.inj h
      exact W.zret (v := 1) (ty := .boolean) hx hb hr rfl (fun t ht hW => qc_mk (congrArg (fun z => Outcome.returned (some (Value.int z))) hq) (by rw [ht]; exact hI.nil)) hI.2.2 dX12_takes_73 hlocks
    · replace h := ite_f hc1 h
      by_cases hc2 : v1 = 64
      · replace h := ite_t hc2 h
        refine lv_lookup (off := 48) (tgt := 49) hx hb dX12_takes_1 (by decide) (by rw [hc2]; decide) (by decide) ?_
        refine lv_iload_n hx hb dX12_takes_49 rfl (lv_at hl 2 rfl) ?_
        obtain ⟨q_50, hq_50, h⟩ := ob_e h
        refine r_callS (As := [.int v2]) (rest := []) hx hb hml hts hown (c_X12_isLetter l HB D y F n κ σ hN v2  q_50 hq_50) cal_X12_isLetter st_X12_isLetter lm_X12_340 ⟨Nat.le_of_ble_eq_true rfl, Nat.le_of_ble_eq_true rfl⟩ hI.nil hKK rfl hl.1 hI.2.2 rfl (Nat.le_of_ble_eq_true rfl) dX12_takes_50 ⟨Nat.le_of_ble_eq_true rfl, Nat.le_of_ble_eq_true rfl⟩ rfl rfl rfl (fun H locs hB hlo => ?_)
        have hI := hB.re hlo
        obtain ⟨hz, h⟩ := cb_e h
        have hq := Option.some.inj h
        exact W.zret (v := q_50) (ty := .boolean) hx hb hr hz (fun t ht hW => qc_mk (congrArg (fun z => Outcome.returned (some (Value.int z))) hq) (by rw [ht]; exact hI.nil)) hI.2.2 dX12_takes_53 hlocks
      · replace h := ite_f hc2 h
        by_cases hc3 : v1 = 95
        · replace h := ite_t hc3 h
          refine lv_lookup (off := 53) (tgt := 54) hx hb dX12_takes_1 (by decide) (by rw [hc3]; decide) (by decide) ?_
          refine lv_iload_n hx hb dX12_takes_54 rfl (lv_at hl 2 rfl) ?_
          refine lv_bipush (v := 32) hx hb dX12_takes_55 (by decide) ?_
          refine lv_icmp_eq (tgt := 66) hx hb dX12_takes_57 (by decide) (fun hc => ?_) (fun hc => ?_)
          · replace h := ite_t hc h
            refine lv_iconst (v := 1) hx hb dX12_takes_66 (by decide) ?_
            refine lv_goto (tgt := 71) hx hb dX12_takes_67 (by decide) ?_
            have hq := Option.some.inj h
            exact W.zret (v := 1) (ty := .boolean) hx hb hr rfl (fun t ht hW => qc_mk (congrArg (fun z => Outcome.returned (some (Value.int z))) hq) (by rw [ht]; exact hI.nil)) hI.2.2 dX12_takes_71 hlocks
          · replace h := ite_f hc h
            refine lv_iload_n hx hb dX12_takes_60 rfl (lv_at hl 2 rfl) ?_
            refine lv_bipush (v := 10) hx hb dX12_takes_61 (by decide) ?_
            refine lv_icmp_ne (tgt := 70) hx hb dX12_takes_63 (by decide) (fun hc => ?_) (fun hc => ?_)
            · replace h := ite_f hc h
              refine lv_iconst (v := 0) hx hb dX12_takes_70 (by decide) ?_
              have hq := Option.some.inj h
              exact W.zret (v := 0) (ty := .boolean) hx hb hr rfl (fun t ht hW => qc_mk (congrArg (fun z => Outcome.returned (some (Value.int z))) hq) (by rw [ht]; exact hI.nil)) hI.2.2 dX12_takes_71 hlocks
            · replace h := ite_t hc h
              refine lv_iconst (v := 1) hx hb dX12_takes_66 (by decide) ?_
              refine lv_goto (tgt := 71) hx hb dX12_takes_67 (by decide) ?_
              have hq := Option.some.inj h
              exact W.zret (v := 1) (ty := .boolean) hx hb hr rfl (fun t ht hW => qc_mk (congrArg (fun z => Outcome.returned (some (Value.int z))) hq) (by rw [ht]; exact hI.nil)) hI.2.2 dX12_takes_71 hlocks
        · replace h := ite_f hc3 h
          refine lv_lookup (off := 73) (tgt := 74) hx hb dX12_takes_1 (by decide) (by rw [lv_osw hc0 (by decide)]; rw [lv_osw hc1 (by decide)]; rw [lv_osw hc2 (by decide)]; rw [lv_osw hc3 (by decide)]; rfl) (by decide) ?_
          refine lv_iload_n hx hb dX12_takes_74 rfl (lv_at hl 1 rfl) ?_
          refine lv_iload_n hx hb dX12_takes_75 rfl (lv_at hl 2 rfl) ?_
          refine lv_icmp_ne (tgt := 83) hx hb dX12_takes_76 (by decide) (fun hc => ?_) (fun hc => ?_)
          · replace h := ite_f hc h
            refine lv_iconst (v := 0) hx hb dX12_takes_83 (by decide) ?_
            have hq := Option.some.inj h
            exact W.zret (v := 0) (ty := .boolean) hx hb hr rfl (fun t ht hW => qc_mk (congrArg (fun z => Outcome.returned (some (Value.int z))) hq) (by rw [ht]; exact hI.nil)) hI.2.2 dX12_takes_84 hlocks
          · replace h := ite_t hc h
            refine lv_iconst (v := 1) hx hb dX12_takes_79 (by decide) ?_
            refine lv_goto (tgt := 84) hx hb dX12_takes_80 (by decide) ?_
            have hq := Option.some.inj h
            exact W.zret (v := 1) (ty := .boolean) hx hb hr rfl (fun t ht hW => qc_mk (congrArg (fun z => Outcome.returned (some (Value.int z))) hq) (by rw [ht]; exact hI.nil)) hI.2.2 dX12_takes_84 hlocks
noncomputable def f_X12_goesOn_l49b (F : Nat)  (k49 : Grp → Grp → Int32 → Int32 → Int32 → Int32 → Option (Grp)) (G29 : Grp) (G30 : Grp) (v1 : Int32) (v3 : Int32) (v4 : Int32) (v5 : Int32) : Option (Grp) :=
  if (G30.1 91 46) < v5 then some G30 else ob (f_X12_isEnd F G30 v4 v5) (fun q_63 => if q_63 = 0 then bn (v5 + 1) (fun v5_90 => k49 G29 G30 v1 v3 v4 v5_90) else ob (f_X12_puts F G30 v3 v5) (fun q_76 => ob (f_X12_place F v1 v5) (fun q_84 => ob (f_X12_adds F q_76 v3 q_84) (fun q_87 => bn (v5 + 1) (fun v5_90 => k49 G29 q_87 v1 v3 v4 v5_90)))))
noncomputable def f_X12_goesOn_l49 (F : Nat)  (fu : Nat) : Grp → Grp → Int32 → Int32 → Int32 → Int32 → Option (Grp) := Nat.rec (motive := fun _ => Grp → Grp → Int32 → Int32 → Int32 → Int32 → Option (Grp)) (fun _ _ _ _ _ _ => none) (fun _ ih => f_X12_goesOn_l49b F  ih) fu
noncomputable def f_X12_goesOn_b38 (F : Nat)  (G29 : Grp) (G30 : Grp) (v1 : Int32) (v2 : Int32) (v3 : Int32) (v4 : Int32) : Option (Grp) :=
  ob (f_X12_puts F G30 v3 v2) (fun q_41 => bn ((v2 + 1)) (fun v5_47 => f_X12_goesOn_l49 F  F G29 q_41 v1 v3 v4 v5_47))
noncomputable def f_X12_goesOn (F : Nat) (G29 : Grp) (G30 : Grp) (v1 : Int32) (v2 : Int32) : Option (Grp) :=
  ob (f_X12_place F v1 v2) (fun q_2 => ck v1 420 (ob (f_X12_place F (G29.1 109 v1.toNatClampNeg) v2) (fun q_13 => ck v1 420 (if (G29.1 107 v1.toNatClampNeg) = 4 then f_X12_goesOn_b38 F  G29 G30 v1 v2 q_2 q_13 else ob (f_X12_isEnd F G30 q_13 v2) (fun q_32 => if q_32 = 0 then bn ((v2 + 1)) (fun v5_47 => f_X12_goesOn_l49 F  F G29 G30 v1 q_2 q_13 v5_47) else f_X12_goesOn_b38 F  G29 G30 v1 v2 q_2 q_13)))))
def RM_X12_goesOn : Room := { frames := 1, cells := 0, slots := 0, locals := 23 }
abbrev W_X12_goesOn : List Nat := [30]
abbrev B_X12_goesOn (HB : Heap) (D : va_G) (y : Nat → ClassId) (n : Nat) (κ : Nat → Nat) (σ0 : St) (q : Grp) : Heap → Prop := fun H => ∃ σ : St, IV HB D y n n κ σ [] H ∧ σ 30 = q ∧ ∀ j, j ∉ W_X12_goesOn → σ j = σ0 j
set_option maxRecDepth 100000 in
set_option maxHeartbeats 4000000 in
theorem c_X12_goesOn (l : Launch) (HB : Heap) (D : va_G) (y : Nat → ClassId) (F n : Nat) (κ : Nat → Nat) (σ0 : St) (hN : N0 ≤ n) (v1 : Int32)  (v2 : Int32)  (G29 : Grp) (e29 : σ0 29 = G29) (G30 : Grp) (e30 : σ0 30 = G30) (q : Grp) (h : f_X12_goesOn F G29 G30 v1 v2 = some q) : MT l HB D y yX12_goesOn cX12_goesOn 6 none RM_X12_goesOn [.ref (HB.size + 91), .int v1, .int v2] (IV HB D y n n κ σ0 []) none (B_X12_goesOn HB D y n κ σ0 q) := by
  refine Met.ofW (cc := cX12_goesOn) (maxL := 6) (ret := none) (by decide) rfl ?_
  intro p e s m args below meth c s₁ BL hml hv
  obtain ⟨rfl, hI, hKK⟩ := hv
  have hx := BL.exec
  have hb := BL.bytes
  have hr := BL.returns
  have hts : ∀ w ∈ gtb, w.before _ s = true := fun w hw => atoms_spec BL.pre w (List.mem_cons_of_mem _ hw)
  have hml : c.maxLocals = 6 := hml
  have hown : s.vm.findClass RX12 = some m.cls := findClass_of_methodNamed BL.named
  have hlocks := BL.notSynchronized
  have hk0 := hI.1.2.2.2.2
  have hl := lv_entry ([.ref (HB.size + 91), .int v1, .int v2]) (n := 6) (Nat.le_of_ble_eq_true rfl)
  rw [lg_entry_eq]
  generalize (lg_sl ([.ref (HB.size + 91), .int v1, .int v2]) ++ List.replicate (6 - (lg_sl ([.ref (HB.size + 91), .int v1, .int v2])).length) Slot.unset).toArray = ls at hl ⊢
  have hl : lv_has ls 6 [(0, .ref (HB.size + 91)), (1, .int v1), (2, .int v2)] := hl
  generalize hargs : ([.ref (HB.size + 91), .int v1, .int v2] : List Value).toArray = args at *
  have b49 : ∀ (fu : Nat) (σ : St) (H : Heap) (locs : List Loc) (ls : Array Slot) (G29 : Grp) (G30 : Grp) (v1 : Int32) (v3 : Int32) (v4 : Int32) (v5 : Int32) , IV HB D y n n κ σ locs H → σ 29 = G29 → σ 30 = G30 → (∀ j, j ∉ W_X12_goesOn → σ j = σ0 j) → lv_has ls 6 [(0, .ref (HB.size + 91)), (1, .int v1), (3, .int v3), (4, .int v4), (5, .int v5)] → f_X12_goesOn_l49 F  fu G29 G30 v1 v3 v4 v5 = some q → WX RM_X12_goesOn p l e s m args below meth c HB none (B_X12_goesOn HB D y n κ σ0 q) H locs (F0 m 49 ls []) := by
    intro  fu
    induction fu with
    | zero =>
      intro σ H locs ls G29 G30 v1 v3 v4 v5 hI e29 e30 fr hl h
      exact absurd h (by intro h; cases h)
    | succ fu hk49 =>
      intro σ H locs ls G29 G30 v1 v3 v4 v5 hI e29 e30 fr hl h
      have h : f_X12_goesOn_l49b F  (f_X12_goesOn_l49 F  fu) G29 G30 v1 v3 v4 v5 = some q := h
      generalize f_X12_goesOn_l49 F  fu = k49 at h hk49
      unfold f_X12_goesOn_l49b at h
      refine lv_iload hx hb dX12_goesOn_49 (lv_at hl 4 rfl) ?_
      refine lv_aload_n hx hb dX12_goesOn_51 rfl (lv_at hl 0 rfl) ?_
      refine gt_X12_384 hx hb hts hown hKK hI e30 (lc91 hN) (kc91 hk0) dX12_goesOn_52 ?_
      refine lv_icmp_gt (tgt := 96) hx hb dX12_goesOn_55 (by decide) (fun hc => ?_) (fun hc => ?_)
      · replace h := ite_t hc h
        have hq := Option.some.inj h
        exact W.vret hx hb hr (fun t ht hW => qc_mk (rfl) (by rw [ht]; exact ⟨σ, hI.nil, e30.trans (congrArg (fun z => z) hq), fr⟩)) hI.2.2 dX12_goesOn_96 hlocks
      · replace h := ite_f hc h
        refine lv_aload_n hx hb dX12_goesOn_58 rfl (lv_at hl 0 rfl) ?_
        refine lv_iload hx hb dX12_goesOn_59 (lv_at hl 3 rfl) ?_
        refine lv_iload hx hb dX12_goesOn_61 (lv_at hl 4 rfl) ?_
        obtain ⟨q_63, hq_63, h⟩ := ob_e h
        refine r_callV (As := [.int v4, .int v5]) (rest := []) hx hb hml hts hown (c_X12_isEnd l HB D y F n κ σ hN v4 v5 G30 e30 q_63 hq_63) cal_X12_isEnd im_X12_isEnd se_X12_isEnd lm_X12_401 ⟨Nat.le_of_ble_eq_true rfl, Nat.le_of_ble_eq_true rfl⟩ hI.nil hKK (r_recv hKK hI (hE12 HB.size y) rfl (lc91 hN) (kc91 hk0)) rfl hl.1 hI.2.2 rfl (Nat.le_of_ble_eq_true rfl) dX12_goesOn_63 ⟨Nat.le_of_ble_eq_true rfl, Nat.le_of_ble_eq_true rfl⟩ rfl rfl rfl (fun H locs hB hlo => ?_)
        have hI := hB.re hlo
        refine lv_if_ne (tgt := 72) hx hb dX12_goesOn_66 (by decide) (fun hc => ?_) (fun hc => ?_)
        · replace h := ite_f hc h
          refine lv_aload_n hx hb dX12_goesOn_72 rfl (lv_at hl 0 rfl) ?_
          refine lv_iload_n hx hb dX12_goesOn_73 rfl (lv_at hl 2 rfl) ?_
          refine lv_iload hx hb dX12_goesOn_74 (lv_at hl 4 rfl) ?_
          obtain ⟨q_76, hq_76, h⟩ := ob_e h
          refine r_callV (As := [.int v3, .int v5]) (rest := []) hx hb hml hts hown (c_X12_puts l HB D y F n κ σ hN v3 v5 G30 e30 q_76 hq_76) cal_X12_puts im_X12_puts se_X12_puts lm_X12_394 ⟨Nat.le_of_ble_eq_true rfl, Nat.le_of_ble_eq_true rfl⟩ hI.nil hKK (r_recv hKK hI (hE12 HB.size y) rfl (lc91 hN) (kc91 hk0)) rfl hl.1 hI.2.2 rfl (Nat.le_of_ble_eq_true rfl) dX12_goesOn_76 ⟨Nat.le_of_ble_eq_true rfl, Nat.le_of_ble_eq_true rfl⟩ rfl rfl rfl (fun H locs hB hlo => ?_)
          obtain ⟨σ, hB, en30, ho⟩ := hB
          have hI := hB.re hlo
          have e30 := en30
          have e29 := (ho 29 (ni rfl)).trans e29
          have fr := frc fr ho (by decide)
          refine lv_aload_n hx hb dX12_goesOn_79 rfl (lv_at hl 0 rfl) ?_
          refine lv_iload_n hx hb dX12_goesOn_80 rfl (lv_at hl 2 rfl) ?_
          refine lv_iload_n hx hb dX12_goesOn_81 rfl (lv_at hl 1 rfl) ?_
          refine lv_iload hx hb dX12_goesOn_82 (lv_at hl 4 rfl) ?_
          obtain ⟨q_84, hq_84, h⟩ := ob_e h
          refine r_callS (As := [.int v1, .int v5]) (rest := [.int v3, .ref (HB.size + 91)]) hx hb hml hts hown (c_X12_place l HB D y F n κ σ hN v1 v5  q_84 hq_84) cal_X12_place st_X12_place lm_X12_387 ⟨Nat.le_of_ble_eq_true rfl, Nat.le_of_ble_eq_true rfl⟩ hI.nil hKK rfl hl.1 hI.2.2 rfl (Nat.le_of_ble_eq_true rfl) dX12_goesOn_84 ⟨Nat.le_of_ble_eq_true rfl, Nat.le_of_ble_eq_true rfl⟩ rfl rfl rfl (fun H locs hB hlo => ?_)
          have hI := hB.re hlo
          obtain ⟨q_87, hq_87, h⟩ := ob_e h
          refine r_callV (As := [.int v3, .int q_84]) (rest := []) hx hb hml hts hown (c_X12_adds l HB D y F n κ σ hN v3 q_84 q_76 e30 q_87 hq_87) cal_X12_adds im_X12_adds se_X12_adds lm_X12_404 ⟨Nat.le_of_ble_eq_true rfl, Nat.le_of_ble_eq_true rfl⟩ hI.nil hKK (r_recv hKK hI (hE12 HB.size y) rfl (lc91 hN) (kc91 hk0)) rfl hl.1 hI.2.2 rfl (Nat.le_of_ble_eq_true rfl) dX12_goesOn_87 ⟨Nat.le_of_ble_eq_true rfl, Nat.le_of_ble_eq_true rfl⟩ rfl rfl rfl (fun H locs hB hlo => ?_)
          obtain ⟨σ, hB, en30, ho⟩ := hB
          have hI := hB.re hlo
          have e30 := en30
          have e29 := (ho 29 (ni rfl)).trans e29
          have fr := frc fr ho (by decide)
          obtain ⟨v5_90, qq, h⟩ := bn_e h
          refine lv_iinc (v := v5_90) (lv' := [(5, .int v5_90), (0, .ref (HB.size + 91)), (1, .int v1), (3, .int v3), (4, .int v4)]) hx hb dX12_goesOn_90 hl (k := 4) rfl (by rw [qq]; rfl) (by decide) rfl (fun ls hl => ?_)
          refine lv_goto (tgt := 49) hx hb dX12_goesOn_93 (by decide) ?_
          exact hk49 σ H locs ls G29 q_87 v1 v3 v4 v5_90  hI e29 e30 fr (lv_sub hl [1, 2, 3, 4, 0] rfl) h
        · replace h := ite_t hc h
          refine lv_goto (tgt := 90) hx hb dX12_goesOn_69 (by decide) ?_
          obtain ⟨v5_90, qq, h⟩ := bn_e h
          refine lv_iinc (v := v5_90) (lv' := [(5, .int v5_90), (0, .ref (HB.size + 91)), (1, .int v1), (3, .int v3), (4, .int v4)]) hx hb dX12_goesOn_90 hl (k := 4) rfl (by rw [qq]; rfl) (by decide) rfl (fun ls hl => ?_)
          refine lv_goto (tgt := 49) hx hb dX12_goesOn_93 (by decide) ?_
          exact hk49 σ H locs ls G29 G30 v1 v3 v4 v5_90  hI e29 e30 fr (lv_sub hl [1, 2, 3, 4, 0] rfl) h
  have b38 : ∀ (σ : St) (H : Heap) (locs : List Loc) (ls : Array Slot) (G29 : Grp) (G30 : Grp) (v1 : Int32) (v2 : Int32) (v3 : Int32) (v4 : Int32) , IV HB D y n n κ σ locs H → σ 29 = G29 → σ 30 = G30 → (∀ j, j ∉ W_X12_goesOn → σ j = σ0 j) → lv_has ls 6 [(0, .ref (HB.size + 91)), (1, .int v1), (2, .int v2), (3, .int v3), (4, .int v4)] → f_X12_goesOn_b38 F  G29 G30 v1 v2 v3 v4 = some q → WX RM_X12_goesOn p l e s m args below meth c HB none (B_X12_goesOn HB D y n κ σ0 q) H locs (F0 m 38 ls []) := by
    intro  σ H locs ls G29 G30 v1 v2 v3 v4 hI e29 e30 fr hl h
    unfold f_X12_goesOn_b38 at h
    refine lv_aload_n hx hb dX12_goesOn_38 rfl (lv_at hl 0 rfl) ?_
    refine lv_iload_n hx hb dX12_goesOn_39 rfl (lv_at hl 3 rfl) ?_
    refine lv_iload_n hx hb dX12_goesOn_40 rfl (lv_at hl 2 rfl) ?_
    obtain ⟨q_41, hq_41, h⟩ := ob_e h
    refine r_callV (As := [.int v3, .int v2]) (rest := []) hx hb hml hts hown (c_X12_puts l HB D y F n κ σ hN v3 v2 G30 e30 q_41 hq_41) cal_X12_puts im_X12_puts se_X12_puts lm_X12_394 ⟨Nat.le_of_ble_eq_true rfl, Nat.le_of_ble_eq_true rfl⟩ hI.nil hKK (r_recv hKK hI (hE12 HB.size y) rfl (lc91 hN) (kc91 hk0)) rfl hl.1 hI.2.2 rfl (Nat.le_of_ble_eq_true rfl) dX12_goesOn_41 ⟨Nat.le_of_ble_eq_true rfl, Nat.le_of_ble_eq_true rfl⟩ rfl rfl rfl (fun H locs hB hlo => ?_)
    obtain ⟨σ, hB, en30, ho⟩ := hB
    have hI := hB.re hlo
    have e30 := en30
    have e29 := (ho 29 (ni rfl)).trans e29
    have fr := frc fr ho (by decide)
    refine lv_iload_n hx hb dX12_goesOn_44 rfl (lv_at hl 2 rfl) ?_
    refine lv_iconst (v := 1) hx hb dX12_goesOn_45 (by decide) ?_
    refine lv_iadd hx hb dX12_goesOn_46 ?_
    obtain ⟨v5_47, qq, h⟩ := bn_e h
    refine topi qq ?_
    refine lv_istore (lv' := [(5, .int v5_47), (0, .ref (HB.size + 91)), (1, .int v1), (2, .int v2), (3, .int v3), (4, .int v4)]) hx hb dX12_goesOn_47 hl (by decide) rfl (fun ls hl => ?_)
    exact b49  F σ H locs ls G29 q_41 v1 v3 v4 v5_47  hI e29 e30 fr (lv_sub hl [1, 2, 4, 5, 0] rfl) h
  obtain ⟨σ, hI, e29, e30, fr⟩ : ∃ σ : St, IV HB D y n n κ σ [] s.heap ∧ σ 29 = G29 ∧ σ 30 = G30 ∧ ∀ j, j ∉ W_X12_goesOn → σ j = σ0 j := ⟨σ0, hI, e29, e30, fun _ _ => rfl⟩
  show WX RM_X12_goesOn p l e s m args below meth c HB none (B_X12_goesOn HB D y n κ σ0 q) s.heap [] (F0 m 0 ls [])
  generalize s.heap = H at hI ⊢
  unfold f_X12_goesOn at h
  obtain ⟨locs, hlocs⟩ : ∃ x : List Loc, x = [] := ⟨_, rfl⟩
  rw [← hlocs] at hI ⊢
  refine lv_iload_n hx hb dX12_goesOn_0 rfl (lv_at hl 1 rfl) ?_
  refine lv_iload_n hx hb dX12_goesOn_1 rfl (lv_at hl 2 rfl) ?_
  obtain ⟨q_2, hq_2, h⟩ := ob_e h
  refine r_callS (As := [.int v1, .int v2]) (rest := []) hx hb hml hts hown (c_X12_place l HB D y F n κ σ hN v1 v2  q_2 hq_2) cal_X12_place st_X12_place lm_X12_387 ⟨Nat.le_of_ble_eq_true rfl, Nat.le_of_ble_eq_true rfl⟩ hI.nil hKK rfl hl.1 hI.2.2 rfl (Nat.le_of_ble_eq_true rfl) dX12_goesOn_2 ⟨Nat.le_of_ble_eq_true rfl, Nat.le_of_ble_eq_true rfl⟩ rfl rfl rfl (fun H locs hB hlo => ?_)
  have hI := hB.re hlo
  refine lv_istore_n (lv' := [(3, .int q_2), (0, .ref (HB.size + 91)), (1, .int v1), (2, .int v2)]) hx hb dX12_goesOn_5 rfl hl (by decide) rfl (fun ls hl => ?_)
  refine lv_aload_n hx hb dX12_goesOn_6 rfl (lv_at hl 1 rfl) ?_
  refine gf_X12_62 hx hb hts hown hKK hI hN dX12_goesOn_7 ?_
  refine lv_iload_n hx hb dX12_goesOn_10 rfl (lv_at hl 2 rfl) ?_
  obtain ⟨hin_, h⟩ := ck_e h
  refine la_47 hx hb hKK hI e29 (lc109 hN) (kc109 hk0) hin_ dX12_goesOn_11 ?_
  refine lv_iload_n hx hb dX12_goesOn_12 rfl (lv_at hl 3 rfl) ?_
  obtain ⟨q_13, hq_13, h⟩ := ob_e h
  refine r_callS (As := [.int (G29.1 109 v1.toNatClampNeg), .int v2]) (rest := []) hx hb hml hts hown (c_X12_place l HB D y F n κ σ hN (G29.1 109 v1.toNatClampNeg) v2  q_13 hq_13) cal_X12_place st_X12_place lm_X12_387 ⟨Nat.le_of_ble_eq_true rfl, Nat.le_of_ble_eq_true rfl⟩ hI.nil hKK rfl hl.1 hI.2.2 rfl (Nat.le_of_ble_eq_true rfl) dX12_goesOn_13 ⟨Nat.le_of_ble_eq_true rfl, Nat.le_of_ble_eq_true rfl⟩ rfl rfl rfl (fun H locs hB hlo => ?_)
  have hI := hB.re hlo
  refine lv_istore (lv' := [(4, .int q_13), (3, .int q_2), (0, .ref (HB.size + 91)), (1, .int v1), (2, .int v2)]) hx hb dX12_goesOn_16 hl (by decide) rfl (fun ls hl => ?_)
  refine lv_aload_n hx hb dX12_goesOn_18 rfl (lv_at hl 2 rfl) ?_
  refine gf_X12_56 hx hb hts hown hKK hI hN dX12_goesOn_19 ?_
  refine lv_iload_n hx hb dX12_goesOn_22 rfl (lv_at hl 3 rfl) ?_
  obtain ⟨hin_, h⟩ := ck_e h
  refine la_47 hx hb hKK hI e29 (lc107 hN) (kc107 hk0) hin_ dX12_goesOn_23 ?_
  refine lv_iconst (v := 4) hx hb dX12_goesOn_24 (by decide) ?_
  refine lv_icmp_eq (tgt := 38) hx hb dX12_goesOn_25 (by decide) (fun hc => ?_) (fun hc => ?_)
  · replace h := ite_t hc h
    exact b38  σ H locs ls G29 G30 v1 v2 q_2 q_13  hI e29 e30 fr (lv_sub hl [2, 3, 4, 1, 0] rfl) h
  · replace h := ite_f hc h
    refine lv_aload_n hx hb dX12_goesOn_28 rfl (lv_at hl 2 rfl) ?_
    refine lv_iload hx hb dX12_goesOn_29 (lv_at hl 0 rfl) ?_
    refine lv_iload_n hx hb dX12_goesOn_31 rfl (lv_at hl 4 rfl) ?_
    obtain ⟨q_32, hq_32, h⟩ := ob_e h
    refine r_callV (As := [.int q_13, .int v2]) (rest := []) hx hb hml hts hown (c_X12_isEnd l HB D y F n κ σ hN q_13 v2 G30 e30 q_32 hq_32) cal_X12_isEnd im_X12_isEnd se_X12_isEnd lm_X12_401 ⟨Nat.le_of_ble_eq_true rfl, Nat.le_of_ble_eq_true rfl⟩ hI.nil hKK (r_recv hKK hI (hE12 HB.size y) rfl (lc91 hN) (kc91 hk0)) rfl hl.1 hI.2.2 rfl (Nat.le_of_ble_eq_true rfl) dX12_goesOn_32 ⟨Nat.le_of_ble_eq_true rfl, Nat.le_of_ble_eq_true rfl⟩ rfl rfl rfl (fun H locs hB hlo => ?_)
    have hI := hB.re hlo
    refine lv_if_eq (tgt := 44) hx hb dX12_goesOn_35 (by decide) (fun hc => ?_) (fun hc => ?_)
    · replace h := ite_t hc h
      refine lv_iload_n hx hb dX12_goesOn_44 rfl (lv_at hl 4 rfl) ?_
      refine lv_iconst (v := 1) hx hb dX12_goesOn_45 (by decide) ?_
      refine lv_iadd hx hb dX12_goesOn_46 ?_
      obtain ⟨v5_47, qq, h⟩ := bn_e h
      refine topi qq ?_
      refine lv_istore (lv' := [(5, .int v5_47), (4, .int q_13), (3, .int q_2), (0, .ref (HB.size + 91)), (1, .int v1), (2, .int v2)]) hx hb dX12_goesOn_47 hl (by decide) rfl (fun ls hl => ?_)
      exact b49  F σ H locs ls G29 G30 v1 q_2 q_13 v5_47  hI e29 e30 fr (lv_sub hl [3, 4, 2, 1, 0] rfl) h
    · replace h := ite_f hc h
      exact b38  σ H locs ls G29 G30 v1 v2 q_2 q_13  hI e29 e30 fr (lv_sub hl [2, 3, 4, 1, 0] rfl) h
