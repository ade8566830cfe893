noncomputable def f_X12_turns_l153b (F : Nat) (k91 : Grp → Grp → Grp → Grp → Grp → Grp → Int32 → Int32 → Int32 → Int32 → Option (Grp × Grp × Grp)) (k153 : Grp → Grp → Grp → Grp → Grp → Grp → Int32 → Int32 → Int32 → Int32 → Int32 → Option (Grp × Grp × Grp)) (G23 : Grp) (G24 : Grp) (G25 : Grp) (G32 : Grp) (G37 : Grp) (G38 : Grp) (v2 : Int32) (v3 : Int32) (v4 : Int32) (v5 : Int32) (v8 : Int32) : Option (Grp × Grp × Grp) :=
  if (G38.1 91 85) ≤ v8 then bn (v5 + 1) (fun v5_182 => k91 G23 G24 G25 G32 G37 G38 v2 v3 v4 v5_182) else ck v8 6 (ck v8 6 (bn (gI G38 154 v8.toNatClampNeg (G38.1 153 v8.toNatClampNeg)) (fun G38_175 => bn (v8 + 1) (fun v8_176 => k153 G23 G24 G25 G32 G37 G38_175 v2 v3 v4 v5 v8_176))))
noncomputable def f_X12_turns_l153 (F : Nat) (k91 : Grp → Grp → Grp → Grp → Grp → Grp → Int32 → Int32 → Int32 → Int32 → Option (Grp × Grp × Grp)) (fu : Nat) : Grp → Grp → Grp → Grp → Grp → Grp → Int32 → Int32 → Int32 → Int32 → Int32 → Option (Grp × Grp × Grp) := Nat.rec (motive := fun _ => Grp → Grp → Grp → Grp → Grp → Grp → Int32 → Int32 → Int32 → Int32 → Int32 → Option (Grp × Grp × Grp)) (fun _ _ _ _ _ _ _ _ _ _ _ => none) (fun _ ih => f_X12_turns_l153b F k91 ih) fu
noncomputable def f_X12_turns_l191b (F : Nat)  (k191 : Grp → Grp → Grp → Grp → Grp → Grp → Int32 → Option (Grp × Grp × Grp)) (G23 : Grp) (G24 : Grp) (G25 : Grp) (G32 : Grp) (G37 : Grp) (G38 : Grp) (v5 : Int32) : Option (Grp × Grp × Grp) :=
  if (G38.1 91 85) ≤ v5 then some (G25, G32, G38) else ck v5 6 (if (G38.1 154 v5.toNatClampNeg) = (G37.1 91 76) then bn (v5 + 1) (fun v5_272 => k191 G23 G24 G25 G32 G37 G38 v5_272) else ck v5 6 (ck v5 6 (ck (G38.1 155 v5.toNatClampNeg) 200 (bn (gI G32 138 (G38.1 155 v5.toNatClampNeg).toNatClampNeg (G38.1 154 v5.toNatClampNeg)) (fun G32_235 => ck v5 6 (ck (G38.1 155 v5.toNatClampNeg) 200 (ck v5 6 (ck (G32_235.1 132 (G38.1 155 v5.toNatClampNeg).toNatClampNeg) 40 (bn (gI G25 104 (G32_235.1 132 (G38.1 155 v5.toNatClampNeg).toNatClampNeg).toNatClampNeg (G38.1 154 v5.toNatClampNeg)) (fun G25_259 => ck v5 6 (ob (f_X12_moves F G23 G32_235 (G38.1 155 v5.toNatClampNeg) 5) (fun q_269 => bn (v5 + 1) (fun v5_272 => k191 G23 G24 G25_259 q_269 G37 G38 v5_272)))))))))))))
noncomputable def f_X12_turns_l191 (F : Nat)  (fu : Nat) : Grp → Grp → Grp → Grp → Grp → Grp → Int32 → Option (Grp × Grp × Grp) := Nat.rec (motive := fun _ => Grp → Grp → Grp → Grp → Grp → Grp → Int32 → Option (Grp × Grp × Grp)) (fun _ _ _ _ _ _ _ => none) (fun _ ih => f_X12_turns_l191b F  ih) fu
noncomputable def f_X12_turns_l91b (F : Nat)  (k91 : Grp → Grp → Grp → Grp → Grp → Grp → Int32 → Int32 → Int32 → Int32 → Option (Grp × Grp × Grp)) (G23 : Grp) (G24 : Grp) (G25 : Grp) (G32 : Grp) (G37 : Grp) (G38 : Grp) (v2 : Int32) (v3 : Int32) (v4 : Int32) (v5 : Int32) : Option (Grp × Grp × Grp) :=
  if v2 ≤ v5 then f_X12_turns_l191 F  F G23 G24 G25 G32 G37 G38 0 else ob (f_X12_isTurn F G23 G24 G25 G32 G37 G38 v5) (fun q_100 => if q_100.1 = 0 then bn (v5 + 1) (fun v5_182 => k91 G23 G24 G25 G32 G37 (q_100.2) v2 v3 v4 v5_182) else ob (f_X12_turnedIn F G37 (q_100.2)) (fun q_110 => ob (f_X12_keptIn F G25 G32 G37 (q_100.2)) (fun q_116 => if q_110 < v3 then bn (v5 + 1) (fun v5_182 => k91 G23 G24 G25 G32 G37 (q_100.2) v2 v3 v4 v5_182) else if q_110 = v3 then if v4 < q_116 then f_X12_turns_l153 F k91 F G23 G24 G25 G32 G37 (q_100.2) v2 q_110 q_116 v5 0 else bn (v5 + 1) (fun v5_182 => k91 G23 G24 G25 G32 G37 (q_100.2) v2 v3 v4 v5_182) else f_X12_turns_l153 F k91 F G23 G24 G25 G32 G37 (q_100.2) v2 q_110 q_116 v5 0)))
noncomputable def f_X12_turns_l91 (F : Nat)  (fu : Nat) : Grp → Grp → Grp → Grp → Grp → Grp → Int32 → Int32 → Int32 → Int32 → Option (Grp × Grp × Grp) := Nat.rec (motive := fun _ => Grp → Grp → Grp → Grp → Grp → Grp → Int32 → Int32 → Int32 → Int32 → Option (Grp × Grp × Grp)) (fun _ _ _ _ _ _ _ _ _ _ => none) (fun _ ih => f_X12_turns_l91b F  ih) fu
noncomputable def f_X12_turns_l60b (F : Nat)  (k60 : Grp → Grp → Grp → Grp → Grp → Grp → Int32 → Int32 → Option (Grp × Grp × Grp)) (G23 : Grp) (G24 : Grp) (G25 : Grp) (G32 : Grp) (G37 : Grp) (G38 : Grp) (v2 : Int32) (v3 : Int32) : Option (Grp × Grp × Grp) :=
  if (G38.1 91 85) ≤ v3 then f_X12_turns_l91 F  F G23 G24 G25 G32 G37 G38 v2 (-1) 0 0 else bn ((v2 * ((G37.1 91 76) + 1))) (fun v2_76 => bn (v3 + 1) (fun v3_77 => k60 G23 G24 G25 G32 G37 G38 v2_76 v3_77))
noncomputable def f_X12_turns_l60 (F : Nat)  (fu : Nat) : Grp → Grp → Grp → Grp → Grp → Grp → Int32 → Int32 → Option (Grp × Grp × Grp) := Nat.rec (motive := fun _ => Grp → Grp → Grp → Grp → Grp → Grp → Int32 → Int32 → Option (Grp × Grp × Grp)) (fun _ _ _ _ _ _ _ _ => none) (fun _ ih => f_X12_turns_l60b F  ih) fu
noncomputable def f_X12_turns_l12b (F : Nat)  (k12 : Grp → Grp → Grp → Grp → Grp → Grp → Int32 → Option (Grp × Grp × Grp)) (G23 : Grp) (G24 : Grp) (G25 : Grp) (G32 : Grp) (G37 : Grp) (G38 : Grp) (v1 : Int32) : Option (Grp × Grp × Grp) :=
  if v1 = (-1) then f_X12_turns_l60 F  F G23 G24 G25 G32 G37 G38 1 0 else if 6 ≤ (G38.1 91 85) then f_X12_turns_l60 F  F G23 G24 G25 G32 G37 G38 1 0 else ck (G38.1 91 85) 6 (bn (gI G38 155 (G38.1 91 85).toNatClampNeg v1) (fun G38_35 => bn (gI G38_35 91 85 ((G38_35.1 91 85) + 1)) (fun G38_43 => ob (f_X12_nextIn F G32 4 v1) (fun q_49 => k12 G23 G24 G25 G32 G37 G38_43 q_49))))
noncomputable def f_X12_turns_l12 (F : Nat)  (fu : Nat) : Grp → Grp → Grp → Grp → Grp → Grp → Int32 → Option (Grp × Grp × Grp) := Nat.rec (motive := fun _ => Grp → Grp → Grp → Grp → Grp → Grp → Int32 → Option (Grp × Grp × Grp)) (fun _ _ _ _ _ _ _ => none) (fun _ ih => f_X12_turns_l12b F  ih) fu
noncomputable def f_X12_turns (F : Nat) (G23 : Grp) (G24 : Grp) (G25 : Grp) (G32 : Grp) (G37 : Grp) (G38 : Grp)  : Option (Grp × Grp × Grp) :=
  bn (gI G38 91 85 0) (fun G38_2 => ob (f_X12_nextIn F G32 4 (-1)) (fun q_8 => f_X12_turns_l12 F  F G23 G24 G25 G32 G37 G38_2 q_8))
def RM_X12_turns : Room := { frames := 3, cells := 0, slots := 0, locals := 71 }
abbrev W_X12_turns : List Nat := [25, 32, 38]
abbrev B_X12_turns (HB : Heap) (D : va_G) (y : Nat → ClassId) (n : Nat) (κ : Nat → Nat) (σ0 : St) (q : Grp × Grp × Grp) : Heap → Prop := fun H => ∃ σ : St, IV HB D y n n κ σ [] H ∧ σ 25 = q.1 ∧ σ 32 = q.2.1 ∧ σ 38 = q.2.2 ∧ ∀ j, j ∉ W_X12_turns → σ j = σ0 j
set_option maxRecDepth 100000 in
set_option maxHeartbeats 4000000 in
theorem c_X12_turns (l : Launch) (HB : Heap) (D : va_G) (y : Nat → ClassId) (F n : Nat) (κ : Nat → Nat) (σ0 : St) (hN : N0 ≤ n)  (G23 : Grp) (e23 : σ0 23 = G23) (G24 : Grp) (e24 : σ0 24 = G24) (G25 : Grp) (e25 : σ0 25 = G25) (G32 : Grp) (e32 : σ0 32 = G32) (G37 : Grp) (e37 : σ0 37 = G37) (G38 : Grp) (e38 : σ0 38 = G38) (q : Grp × Grp × Grp) (h : f_X12_turns F G23 G24 G25 G32 G37 G38 = some q) : MT l HB D y yX12_turns cX12_turns 9 none RM_X12_turns [.ref (HB.size + 91)] (IV HB D y n n κ σ0 []) none (B_X12_turns HB D y n κ σ0 q) := by
  refine Met.ofW (cc := cX12_turns) (maxL := 9) (ret := none) (by decide) rfl ?_
  intro p e s m args below meth c s₁ BL hml hv
  obtain ⟨rfl, hI, hKK⟩ := hv
  have hx := BL.exec
  have hb := BL.bytes
  have hr := BL.returns
  have hts : ∀ w ∈ gtb, w.before _ s = true := fun w hw => atoms_spec BL.pre w (List.mem_cons_of_mem _ hw)
  have hml : c.maxLocals = 9 := hml
  have hown : s.vm.findClass RX12 = some m.cls := findClass_of_methodNamed BL.named
  have hlocks := BL.notSynchronized
  have hk0 := hI.1.2.2.2.2
  have hl := lv_entry ([.ref (HB.size + 91)]) (n := 9) (Nat.le_of_ble_eq_true rfl)
  rw [lg_entry_eq]
  generalize (lg_sl ([.ref (HB.size + 91)]) ++ List.replicate (9 - (lg_sl ([.ref (HB.size + 91)])).length) Slot.unset).toArray = ls at hl ⊢
  have hl : lv_has ls 9 [(0, .ref (HB.size + 91))] := hl
  generalize hargs : ([.ref (HB.size + 91)] : List Value).toArray = args at *
  have b153 : ∀ (k91 : Grp → Grp → Grp → Grp → Grp → Grp → Int32 → Int32 → Int32 → Int32 → Option (Grp × Grp × Grp)) (hk91 : ∀ (σ : St) (H : Heap) (locs : List Loc) (ls : Array Slot) (G23 : Grp) (G24 : Grp) (G25 : Grp) (G32 : Grp) (G37 : Grp) (G38 : Grp) (v2 : Int32) (v3 : Int32) (v4 : Int32) (v5 : Int32) , IV HB D y n n κ σ locs H → σ 23 = G23 → σ 24 = G24 → σ 25 = G25 → σ 32 = G32 → σ 37 = G37 → σ 38 = G38 → (∀ j, j ∉ W_X12_turns → σ j = σ0 j) → lv_has ls 9 [(0, .ref (HB.size + 91)), (2, .int v2), (3, .int v3), (4, .int v4), (5, .int v5)] → k91 G23 G24 G25 G32 G37 G38 v2 v3 v4 v5 = some q → WX RM_X12_turns p l e s m args below meth c HB none (B_X12_turns HB D y n κ σ0 q) H locs (F0 m 91 ls [])) (fu : Nat) (σ : St) (H : Heap) (locs : List Loc) (ls : Array Slot) (G23 : Grp) (G24 : Grp) (G25 : Grp) (G32 : Grp) (G37 : Grp) (G38 : Grp) (v2 : Int32) (v3 : Int32) (v4 : Int32) (v5 : Int32) (v8 : Int32) , IV HB D y n n κ σ locs H → σ 23 = G23 → σ 24 = G24 → σ 25 = G25 → σ 32 = G32 → σ 37 = G37 → σ 38 = G38 → (∀ j, j ∉ W_X12_turns → σ j = σ0 j) → lv_has ls 9 [(0, .ref (HB.size + 91)), (2, .int v2), (3, .int v3), (4, .int v4), (5, .int v5), (8, .int v8)] → f_X12_turns_l153 F k91 fu G23 G24 G25 G32 G37 G38 v2 v3 v4 v5 v8 = some q → WX RM_X12_turns p l e s m args below meth c HB none (B_X12_turns HB D y n κ σ0 q) H locs (F0 m 153 ls []) := by
    intro k91 hk91 fu
    induction fu with
    | zero =>
      intro σ H locs ls G23 G24 G25 G32 G37 G38 v2 v3 v4 v5 v8 hI e23 e24 e25 e32 e37 e38 fr hl h
      exact absurd h (by intro h; cases h)
    | succ fu hk153 =>
      intro σ H locs ls G23 G24 G25 G32 G37 G38 v2 v3 v4 v5 v8 hI e23 e24 e25 e32 e37 e38 fr hl h
      have h : f_X12_turns_l153b F k91 (f_X12_turns_l153 F k91 fu) G23 G24 G25 G32 G37 G38 v2 v3 v4 v5 v8 = some q := h
      generalize f_X12_turns_l153 F k91 fu = k153 at h hk153
      unfold f_X12_turns_l153b at h
      refine lv_iload hx hb dX12_turns_153 (lv_at hl 5 rfl) ?_
      refine lv_aload_n hx hb dX12_turns_155 rfl (lv_at hl 0 rfl) ?_
      refine gt_X12_480 hx hb hts hown hKK hI e38 (lc91 hN) (kc91 hk0) dX12_turns_156 ?_
      refine lv_icmp_ge (tgt := 182) hx hb dX12_turns_159 (by decide) (fun hc => ?_) (fun hc => ?_)
      · replace h := ite_t hc h
        obtain ⟨v5_182, qq, h⟩ := bn_e h
        refine lv_iinc (v := v5_182) (lv' := [(5, .int v5_182), (0, .ref (HB.size + 91)), (2, .int v2), (3, .int v3), (4, .int v4), (8, .int v8)]) hx hb dX12_turns_182 hl (k := 4) rfl (by rw [qq]; rfl) (by decide) rfl (fun ls hl => ?_)
        refine lv_goto (tgt := 91) hx hb dX12_turns_185 (by decide) ?_
        exact hk91 σ H locs ls G23 G24 G25 G32 G37 G38 v2 v3 v4 v5_182  hI e23 e24 e25 e32 e37 e38 fr (lv_sub hl [1, 2, 3, 4, 0] rfl) h
      · replace h := ite_f hc h
        refine lv_aload_n hx hb dX12_turns_162 rfl (lv_at hl 0 rfl) ?_
        refine gf_X12_200 hx hb hts hown hKK hI hN dX12_turns_163 ?_
        refine lv_iload hx hb dX12_turns_166 (lv_at hl 5 rfl) ?_
        refine lv_aload_n hx hb dX12_turns_168 rfl (lv_at hl 0 rfl) ?_
        refine gf_X12_197 hx hb hts hown hKK hI hN dX12_turns_169 ?_
        refine lv_iload hx hb dX12_turns_172 (lv_at hl 5 rfl) ?_
        obtain ⟨hin_, h⟩ := ck_e h
        refine la_66 hx hb hKK hI e38 (lc153 hN) (kc153 hk0) hin_ dX12_turns_174 ?_
        obtain ⟨hin_, h⟩ := ck_e h
        obtain ⟨G38_175, qq, h⟩ := bn_e h
        refine sa_66 hx hb hKK hI e38 (lc154 hN) (kc154 hk0) hin_ dX12_turns_175 (fun σ H locs hI ew ho => ?_)
        have e38 := ew.trans qq.symm
        have e23 := (ho 23 (nn rfl)).trans e23
        have e24 := (ho 24 (nn rfl)).trans e24
        have e25 := (ho 25 (nn rfl)).trans e25
        have e32 := (ho 32 (nn rfl)).trans e32
        have e37 := (ho 37 (nn rfl)).trans e37
        have fr := frs fr ho (by decide)
        obtain ⟨v8_176, qq, h⟩ := bn_e h
        refine lv_iinc (v := v8_176) (lv' := [(8, .int v8_176), (0, .ref (HB.size + 91)), (2, .int v2), (3, .int v3), (4, .int v4), (5, .int v5)]) hx hb dX12_turns_176 hl (k := 5) rfl (by rw [qq]; rfl) (by decide) rfl (fun ls hl => ?_)
        refine lv_goto (tgt := 153) hx hb dX12_turns_179 (by decide) ?_
        exact hk153 σ H locs ls G23 G24 G25 G32 G37 G38_175 v2 v3 v4 v5 v8_176  hI e23 e24 e25 e32 e37 e38 fr (lv_sub hl [1, 2, 3, 4, 5, 0] rfl) h
  have b191 : ∀ (fu : Nat) (σ : St) (H : Heap) (locs : List Loc) (ls : Array Slot) (G23 : Grp) (G24 : Grp) (G25 : Grp) (G32 : Grp) (G37 : Grp) (G38 : Grp) (v5 : Int32) , IV HB D y n n κ σ locs H → σ 23 = G23 → σ 24 = G24 → σ 25 = G25 → σ 32 = G32 → σ 37 = G37 → σ 38 = G38 → (∀ j, j ∉ W_X12_turns → σ j = σ0 j) → lv_has ls 9 [(0, .ref (HB.size + 91)), (5, .int v5)] → f_X12_turns_l191 F  fu G23 G24 G25 G32 G37 G38 v5 = some q → WX RM_X12_turns p l e s m args below meth c HB none (B_X12_turns HB D y n κ σ0 q) H locs (F0 m 191 ls []) := by
    intro  fu
    induction fu with
    | zero =>
      intro σ H locs ls G23 G24 G25 G32 G37 G38 v5 hI e23 e24 e25 e32 e37 e38 fr hl h
      exact absurd h (by intro h; cases h)
    | succ fu hk191 =>
      intro σ H locs ls G23 G24 G25 G32 G37 G38 v5 hI e23 e24 e25 e32 e37 e38 fr hl h
      have h : f_X12_turns_l191b F  (f_X12_turns_l191 F  fu) G23 G24 G25 G32 G37 G38 v5 = some q := h
      generalize f_X12_turns_l191 F  fu = k191 at h hk191
      unfold f_X12_turns_l191b at h
      refine lv_iload hx hb dX12_turns_191 (lv_at hl 1 rfl) ?_
      refine lv_aload_n hx hb dX12_turns_193 rfl (lv_at hl 0 rfl) ?_
      refine gt_X12_480 hx hb hts hown hKK hI e38 (lc91 hN) (kc91 hk0) dX12_turns_194 ?_
      refine lv_icmp_ge (tgt := 278) hx hb dX12_turns_197 (by decide) (fun hc => ?_) (fun hc => ?_)
      · replace h := ite_t hc h
        have hq := Option.some.inj h
        exact W.vret hx hb hr (fun t ht hW => qc_mk (rfl) (by rw [ht]; exact ⟨σ, hI.nil, e25.trans (congrArg (fun z => z.1) hq), e32.trans (congrArg (fun z => z.2.1) hq), e38.trans (congrArg (fun z => z.2.2) hq), fr⟩)) hI.2.2 dX12_turns_278 hlocks
      · replace h := ite_f hc h
        refine lv_aload_n hx hb dX12_turns_200 rfl (lv_at hl 0 rfl) ?_
        refine gf_X12_200 hx hb hts hown hKK hI hN dX12_turns_201 ?_
        refine lv_iload hx hb dX12_turns_204 (lv_at hl 1 rfl) ?_
        obtain ⟨hin_, h⟩ := ck_e h
        refine la_66 hx hb hKK hI e38 (lc154 hN) (kc154 hk0) hin_ dX12_turns_206 ?_
        refine lv_aload_n hx hb dX12_turns_207 rfl (lv_at hl 0 rfl) ?_
        refine gt_X12_477 hx hb hts hown hKK hI e37 (lc91 hN) (kc91 hk0) dX12_turns_208 ?_
        refine lv_icmp_ne (tgt := 217) hx hb dX12_turns_211 (by decide) (fun hc => ?_) (fun hc => ?_)
        · replace h := ite_f hc h
          refine lv_aload_n hx hb dX12_turns_217 rfl (lv_at hl 0 rfl) ?_
          refine gf_X12_151 hx hb hts hown hKK hI hN dX12_turns_218 ?_
          refine lv_aload_n hx hb dX12_turns_221 rfl (lv_at hl 0 rfl) ?_
          refine gf_X12_203 hx hb hts hown hKK hI hN dX12_turns_222 ?_
          refine lv_iload hx hb dX12_turns_225 (lv_at hl 1 rfl) ?_
          obtain ⟨hin_, h⟩ := ck_e h
          refine la_66 hx hb hKK hI e38 (lc155 hN) (kc155 hk0) hin_ dX12_turns_227 ?_
          refine lv_aload_n hx hb dX12_turns_228 rfl (lv_at hl 0 rfl) ?_
          refine gf_X12_200 hx hb hts hown hKK hI hN dX12_turns_229 ?_
          refine lv_iload hx hb dX12_turns_232 (lv_at hl 1 rfl) ?_
          obtain ⟨hin_, h⟩ := ck_e h
          refine la_66 hx hb hKK hI e38 (lc154 hN) (kc154 hk0) hin_ dX12_turns_234 ?_
          obtain ⟨hin_, h⟩ := ck_e h
          obtain ⟨G32_235, qq, h⟩ := bn_e h
          refine sa_57 hx hb hKK hI e32 (lc138 hN) (kc138 hk0) hin_ dX12_turns_235 (fun σ H locs hI ew ho => ?_)
          have e32 := ew.trans qq.symm
          have e23 := (ho 23 (nn rfl)).trans e23
          have e24 := (ho 24 (nn rfl)).trans e24
          have e25 := (ho 25 (nn rfl)).trans e25
          have e37 := (ho 37 (nn rfl)).trans e37
          have e38 := (ho 38 (nn rfl)).trans e38
          have fr := frs fr ho (by decide)
          refine lv_aload_n hx hb dX12_turns_236 rfl (lv_at hl 0 rfl) ?_
          refine gf_X12_46 hx hb hts hown hKK hI hN dX12_turns_237 ?_
          refine lv_aload_n hx hb dX12_turns_240 rfl (lv_at hl 0 rfl) ?_
          refine gf_X12_133 hx hb hts hown hKK hI hN dX12_turns_241 ?_
          refine lv_aload_n hx hb dX12_turns_244 rfl (lv_at hl 0 rfl) ?_
          refine gf_X12_203 hx hb hts hown hKK hI hN dX12_turns_245 ?_
          refine lv_iload hx hb dX12_turns_248 (lv_at hl 1 rfl) ?_
          obtain ⟨hin_, h⟩ := ck_e h
          refine la_66 hx hb hKK hI e38 (lc155 hN) (kc155 hk0) hin_ dX12_turns_250 ?_
          obtain ⟨hin_, h⟩ := ck_e h
          refine la_57 hx hb hKK hI e32 (lc132 hN) (kc132 hk0) hin_ dX12_turns_251 ?_
          refine lv_aload_n hx hb dX12_turns_252 rfl (lv_at hl 0 rfl) ?_
          refine gf_X12_200 hx hb hts hown hKK hI hN dX12_turns_253 ?_
          refine lv_iload hx hb dX12_turns_256 (lv_at hl 1 rfl) ?_
          obtain ⟨hin_, h⟩ := ck_e h
          refine la_66 hx hb hKK hI e38 (lc154 hN) (kc154 hk0) hin_ dX12_turns_258 ?_
          obtain ⟨hin_, h⟩ := ck_e h
          obtain ⟨G25_259, qq, h⟩ := bn_e h
          refine sa_44 hx hb hKK hI e25 (lc104 hN) (kc104 hk0) hin_ dX12_turns_259 (fun σ H locs hI ew ho => ?_)
          have e25 := ew.trans qq.symm
          have e23 := (ho 23 (nn rfl)).trans e23
          have e24 := (ho 24 (nn rfl)).trans e24
          have e32 := (ho 32 (nn rfl)).trans e32
          have e37 := (ho 37 (nn rfl)).trans e37
          have e38 := (ho 38 (nn rfl)).trans e38
          have fr := frs fr ho (by decide)
          refine lv_aload_n hx hb dX12_turns_260 rfl (lv_at hl 0 rfl) ?_
          refine lv_aload_n hx hb dX12_turns_261 rfl (lv_at hl 0 rfl) ?_
          refine gf_X12_203 hx hb hts hown hKK hI hN dX12_turns_262 ?_
          refine lv_iload hx hb dX12_turns_265 (lv_at hl 1 rfl) ?_
          obtain ⟨hin_, h⟩ := ck_e h
          refine la_66 hx hb hKK hI e38 (lc155 hN) (kc155 hk0) hin_ dX12_turns_267 ?_
          refine lv_iconst (v := 5) hx hb dX12_turns_268 (by decide) ?_
          obtain ⟨q_269, hq_269, h⟩ := ob_e h
          refine r_callV (As := [.int (G38.1 155 v5.toNatClampNeg), .int 5]) (rest := []) hx hb hml hts hown (c_X12_moves l HB D y F n κ σ hN (G38.1 155 v5.toNatClampNeg) 5 G23 e23 G32_235 e32 q_269 hq_269) cal_X12_moves im_X12_moves se_X12_moves lm_X12_455 ⟨Nat.le_of_ble_eq_true rfl, Nat.le_of_ble_eq_true rfl⟩ hI.nil hKK (r_recv hKK hI (hE12 HB.size y) rfl (lc91 hN) (kc91 hk0)) rfl hl.1 hI.2.2 rfl (Nat.le_of_ble_eq_true rfl) dX12_turns_269 ⟨Nat.le_of_ble_eq_true rfl, Nat.le_of_ble_eq_true rfl⟩ rfl rfl rfl (fun H locs hB hlo => ?_)
          obtain ⟨σ, hB, en32, ho⟩ := hB
          have hI := hB.re hlo
          have e32 := en32
          have e23 := (ho 23 (ni rfl)).trans e23
          have e24 := (ho 24 (ni rfl)).trans e24
          have e25 := (ho 25 (ni rfl)).trans e25
          have e37 := (ho 37 (ni rfl)).trans e37
          have e38 := (ho 38 (ni rfl)).trans e38
          have fr := frc fr ho (by decide)
          obtain ⟨v5_272, qq, h⟩ := bn_e h
          refine lv_iinc (v := v5_272) (lv' := [(5, .int v5_272), (0, .ref (HB.size + 91))]) hx hb dX12_turns_272 hl (k := 1) rfl (by rw [qq]; rfl) (by decide) rfl (fun ls hl => ?_)
          refine lv_goto (tgt := 191) hx hb dX12_turns_275 (by decide) ?_
          exact hk191 σ H locs ls G23 G24 G25_259 q_269 G37 G38 v5_272  hI e23 e24 e25 e32 e37 e38 fr (lv_sub hl [1, 0] rfl) h
        · replace h := ite_t hc h
          refine lv_goto (tgt := 272) hx hb dX12_turns_214 (by decide) ?_
          obtain ⟨v5_272, qq, h⟩ := bn_e h
          refine lv_iinc (v := v5_272) (lv' := [(5, .int v5_272), (0, .ref (HB.size + 91))]) hx hb dX12_turns_272 hl (k := 1) rfl (by rw [qq]; rfl) (by decide) rfl (fun ls hl => ?_)
          refine lv_goto (tgt := 191) hx hb dX12_turns_275 (by decide) ?_
          exact hk191 σ H locs ls G23 G24 G25 G32 G37 G38 v5_272  hI e23 e24 e25 e32 e37 e38 fr (lv_sub hl [1, 0] rfl) h
  have b91 : ∀ (fu : Nat) (σ : St) (H : Heap) (locs : List Loc) (ls : Array Slot) (G23 : Grp) (G24 : Grp) (G25 : Grp) (G32 : Grp) (G37 : Grp) (G38 : Grp) (v2 : Int32) (v3 : Int32) (v4 : Int32) (v5 : Int32) , IV HB D y n n κ σ locs H → σ 23 = G23 → σ 24 = G24 → σ 25 = G25 → σ 32 = G32 → σ 37 = G37 → σ 38 = G38 → (∀ j, j ∉ W_X12_turns → σ j = σ0 j) → lv_has ls 9 [(0, .ref (HB.size + 91)), (2, .int v2), (3, .int v3), (4, .int v4), (5, .int v5)] → f_X12_turns_l91 F  fu G23 G24 G25 G32 G37 G38 v2 v3 v4 v5 = some q → WX RM_X12_turns p l e s m args below meth c HB none (B_X12_turns HB D y n κ σ0 q) H locs (F0 m 91 ls []) := by
    intro  fu
    induction fu with
    | zero =>
      intro σ H locs ls G23 G24 G25 G32 G37 G38 v2 v3 v4 v5 hI e23 e24 e25 e32 e37 e38 fr hl h
      exact absurd h (by intro h; cases h)
    | succ fu hk91 =>
      intro σ H locs ls G23 G24 G25 G32 G37 G38 v2 v3 v4 v5 hI e23 e24 e25 e32 e37 e38 fr hl h
      have h : f_X12_turns_l91b F  (f_X12_turns_l91 F  fu) G23 G24 G25 G32 G37 G38 v2 v3 v4 v5 = some q := h
      generalize f_X12_turns_l91 F  fu = k91 at h hk91
      unfold f_X12_turns_l91b at h
      refine lv_iload hx hb dX12_turns_91 (lv_at hl 4 rfl) ?_
      refine lv_iload_n hx hb dX12_turns_93 rfl (lv_at hl 1 rfl) ?_
      refine lv_icmp_ge (tgt := 188) hx hb dX12_turns_94 (by decide) (fun hc => ?_) (fun hc => ?_)
      · replace h := ite_t hc h
        refine lv_iconst (v := 0) hx hb dX12_turns_188 (by decide) ?_
        refine lv_istore (lv' := [(5, .int 0), (0, .ref (HB.size + 91)), (2, .int v2), (3, .int v3), (4, .int v4)]) hx hb dX12_turns_189 hl (by decide) rfl (fun ls hl => ?_)
        exact b191  F σ H locs ls G23 G24 G25 G32 G37 G38 0  hI e23 e24 e25 e32 e37 e38 fr (lv_sub hl [1, 0] rfl) h
      · replace h := ite_f hc h
        refine lv_aload_n hx hb dX12_turns_97 rfl (lv_at hl 0 rfl) ?_
        refine lv_iload hx hb dX12_turns_98 (lv_at hl 4 rfl) ?_
        obtain ⟨q_100, hq_100, h⟩ := ob_e h
        refine r_callV (As := [.int v5]) (rest := []) hx hb hml hts hown (c_X12_isTurn l HB D y F n κ σ hN v5 G23 e23 G24 e24 G25 e25 G32 e32 G37 e37 G38 e38 q_100 hq_100) cal_X12_isTurn im_X12_isTurn se_X12_isTurn lm_X12_492 ⟨Nat.le_of_ble_eq_true rfl, Nat.le_of_ble_eq_true rfl⟩ hI.nil hKK (r_recv hKK hI (hE12 HB.size y) rfl (lc91 hN) (kc91 hk0)) rfl hl.1 hI.2.2 rfl (Nat.le_of_ble_eq_true rfl) dX12_turns_100 ⟨Nat.le_of_ble_eq_true rfl, Nat.le_of_ble_eq_true rfl⟩ rfl rfl rfl (fun H locs hB hlo => ?_)
        obtain ⟨σ, hB, en38, ho⟩ := hB
        have hI := hB.re hlo
        have e38 := en38
        have e23 := (ho 23 (ni rfl)).trans e23
        have e24 := (ho 24 (ni rfl)).trans e24
        have e25 := (ho 25 (ni rfl)).trans e25
        have e32 := (ho 32 (ni rfl)).trans e32
        have e37 := (ho 37 (ni rfl)).trans e37
        have fr := frc fr ho (by decide)
        refine lv_if_ne (tgt := 109) hx hb dX12_turns_103 (by decide) (fun hc => ?_) (fun hc => ?_)
        · replace h := ite_f hc h
          refine lv_aload_n hx hb dX12_turns_109 rfl (lv_at hl 0 rfl) ?_
          obtain ⟨q_110, hq_110, h⟩ := ob_e h
          refine r_callV (As := []) (rest := []) hx hb hml hts hown (c_X12_turnedIn l HB D y F n κ σ hN  G37 e37 (q_100.2) e38 q_110 hq_110) cal_X12_turnedIn im_X12_turnedIn se_X12_turnedIn lm_X12_495 ⟨Nat.le_of_ble_eq_true rfl, Nat.le_of_ble_eq_true rfl⟩ hI.nil hKK (r_recv hKK hI (hE12 HB.size y) rfl (lc91 hN) (kc91 hk0)) rfl hl.1 hI.2.2 rfl (Nat.le_of_ble_eq_true rfl) dX12_turns_110 ⟨Nat.le_of_ble_eq_true rfl, Nat.le_of_ble_eq_true rfl⟩ rfl rfl rfl (fun H locs hB hlo => ?_)
          have hI := hB.re hlo
          refine lv_istore (lv' := [(6, .int q_110), (0, .ref (HB.size + 91)), (2, .int v2), (3, .int v3), (4, .int v4), (5, .int v5)]) hx hb dX12_turns_113 hl (by decide) rfl (fun ls hl => ?_)
          refine lv_aload_n hx hb dX12_turns_115 rfl (lv_at hl 1 rfl) ?_
          obtain ⟨q_116, hq_116, h⟩ := ob_e h
          refine r_callV (As := []) (rest := []) hx hb hml hts hown (c_X12_keptIn l HB D y F n κ σ hN  G25 e25 G32 e32 G37 e37 (q_100.2) e38 q_116 hq_116) cal_X12_keptIn im_X12_keptIn se_X12_keptIn lm_X12_498 ⟨Nat.le_of_ble_eq_true rfl, Nat.le_of_ble_eq_true rfl⟩ hI.nil hKK (r_recv hKK hI (hE12 HB.size y) rfl (lc91 hN) (kc91 hk0)) rfl hl.1 hI.2.2 rfl (Nat.le_of_ble_eq_true rfl) dX12_turns_116 ⟨Nat.le_of_ble_eq_true rfl, Nat.le_of_ble_eq_true rfl⟩ rfl rfl rfl (fun H locs hB hlo => ?_)
          have hI := hB.re hlo
          refine lv_istore (lv' := [(7, .int q_116), (6, .int q_110), (0, .ref (HB.size + 91)), (2, .int v2), (3, .int v3), (4, .int v4), (5, .int v5)]) hx hb dX12_turns_119 hl (by decide) rfl (fun ls hl => ?_)
          refine lv_iload hx hb dX12_turns_121 (lv_at hl 1 rfl) ?_
          refine lv_iload_n hx hb dX12_turns_123 rfl (lv_at hl 4 rfl) ?_
          refine lv_icmp_lt (tgt := 182) hx hb dX12_turns_124 (by decide) (fun hc => ?_) (fun hc => ?_)
          · replace h := ite_t hc h
            obtain ⟨v5_182, qq, h⟩ := bn_e h
            refine lv_iinc (v := v5_182) (lv' := [(5, .int v5_182), (7, .int q_116), (6, .int q_110), (0, .ref (HB.size + 91)), (2, .int v2), (3, .int v3), (4, .int v4)]) hx hb dX12_turns_182 hl (k := 6) rfl (by rw [qq]; rfl) (by decide) rfl (fun ls hl => ?_)
            refine lv_goto (tgt := 91) hx hb dX12_turns_185 (by decide) ?_
            exact hk91 σ H locs ls G23 G24 G25 G32 G37 (q_100.2) v2 v3 v4 v5_182  hI e23 e24 e25 e32 e37 e38 fr (lv_sub hl [3, 4, 5, 6, 0] rfl) h
          · replace h := ite_f hc h
            refine lv_iload hx hb dX12_turns_127 (lv_at hl 1 rfl) ?_
            refine lv_iload_n hx hb dX12_turns_129 rfl (lv_at hl 4 rfl) ?_
            refine lv_icmp_ne (tgt := 143) hx hb dX12_turns_130 (by decide) (fun hc => ?_) (fun hc => ?_)
            · replace h := ite_f hc h
              refine lv_iload hx hb dX12_turns_143 (lv_at hl 1 rfl) ?_
              refine lv_istore_n (lv' := [(3, .int q_110), (7, .int q_116), (6, .int q_110), (0, .ref (HB.size + 91)), (2, .int v2), (4, .int v4), (5, .int v5)]) hx hb dX12_turns_145 rfl hl (by decide) rfl (fun ls hl => ?_)
              refine lv_iload hx hb dX12_turns_146 (lv_at hl 1 rfl) ?_
              refine lv_istore (lv' := [(4, .int q_116), (3, .int q_110), (7, .int q_116), (6, .int q_110), (0, .ref (HB.size + 91)), (2, .int v2), (5, .int v5)]) hx hb dX12_turns_148 hl (by decide) rfl (fun ls hl => ?_)
              refine lv_iconst (v := 0) hx hb dX12_turns_150 (by decide) ?_
              refine lv_istore (lv' := [(8, .int 0), (4, .int q_116), (3, .int q_110), (7, .int q_116), (6, .int q_110), (0, .ref (HB.size + 91)), (2, .int v2), (5, .int v5)]) hx hb dX12_turns_151 hl (by decide) rfl (fun ls hl => ?_)
              exact b153 k91 hk91 F σ H locs ls G23 G24 G25 G32 G37 (q_100.2) v2 q_110 q_116 v5 0  hI e23 e24 e25 e32 e37 e38 fr (lv_sub hl [5, 6, 2, 1, 7, 0] rfl) h
            · replace h := ite_t hc h
              refine lv_iload hx hb dX12_turns_133 (lv_at hl 0 rfl) ?_
              refine lv_iload hx hb dX12_turns_135 (lv_at hl 5 rfl) ?_
              refine lv_icmp_gt (tgt := 143) hx hb dX12_turns_137 (by decide) (fun hc => ?_) (fun hc => ?_)
              · replace h := ite_t hc h
                refine lv_iload hx hb dX12_turns_143 (lv_at hl 1 rfl) ?_
                refine lv_istore_n (lv' := [(3, .int q_110), (7, .int q_116), (6, .int q_110), (0, .ref (HB.size + 91)), (2, .int v2), (4, .int v4), (5, .int v5)]) hx hb dX12_turns_145 rfl hl (by decide) rfl (fun ls hl => ?_)
                refine lv_iload hx hb dX12_turns_146 (lv_at hl 1 rfl) ?_
                refine lv_istore (lv' := [(4, .int q_116), (3, .int q_110), (7, .int q_116), (6, .int q_110), (0, .ref (HB.size + 91)), (2, .int v2), (5, .int v5)]) hx hb dX12_turns_148 hl (by decide) rfl (fun ls hl => ?_)
                refine lv_iconst (v := 0) hx hb dX12_turns_150 (by decide) ?_
                refine lv_istore (lv' := [(8, .int 0), (4, .int q_116), (3, .int q_110), (7, .int q_116), (6, .int q_110), (0, .ref (HB.size + 91)), (2, .int v2), (5, .int v5)]) hx hb dX12_turns_151 hl (by decide) rfl (fun ls hl => ?_)
                exact b153 k91 hk91 F σ H locs ls G23 G24 G25 G32 G37 (q_100.2) v2 q_110 q_116 v5 0  hI e23 e24 e25 e32 e37 e38 fr (lv_sub hl [5, 6, 2, 1, 7, 0] rfl) h
              · replace h := ite_f hc h
                refine lv_goto (tgt := 182) hx hb dX12_turns_140 (by decide) ?_
                obtain ⟨v5_182, qq, h⟩ := bn_e h
                refine lv_iinc (v := v5_182) (lv' := [(5, .int v5_182), (7, .int q_116), (6, .int q_110), (0, .ref (HB.size + 91)), (2, .int v2), (3, .int v3), (4, .int v4)]) hx hb dX12_turns_182 hl (k := 6) rfl (by rw [qq]; rfl) (by decide) rfl (fun ls hl => ?_)
                refine lv_goto (tgt := 91) hx hb dX12_turns_185 (by decide) ?_
                exact hk91 σ H locs ls G23 G24 G25 G32 G37 (q_100.2) v2 v3 v4 v5_182  hI e23 e24 e25 e32 e37 e38 fr (lv_sub hl [3, 4, 5, 6, 0] rfl) h
        · replace h := ite_t hc h
          refine lv_goto (tgt := 182) hx hb dX12_turns_106 (by decide) ?_
          obtain ⟨v5_182, qq, h⟩ := bn_e h
          refine lv_iinc (v := v5_182) (lv' := [(5, .int v5_182), (0, .ref (HB.size + 91)), (2, .int v2), (3, .int v3), (4, .int v4)]) hx hb dX12_turns_182 hl (k := 4) rfl (by rw [qq]; rfl) (by decide) rfl (fun ls hl => ?_)
          refine lv_goto (tgt := 91) hx hb dX12_turns_185 (by decide) ?_
          exact hk91 σ H locs ls G23 G24 G25 G32 G37 (q_100.2) v2 v3 v4 v5_182  hI e23 e24 e25 e32 e37 e38 fr (lv_sub hl [1, 2, 3, 4, 0] rfl) h
  have b60 : ∀ (fu : Nat) (σ : St) (H : Heap) (locs : List Loc) (ls : Array Slot) (G23 : Grp) (G24 : Grp) (G25 : Grp) (G32 : Grp) (G37 : Grp) (G38 : Grp) (v2 : Int32) (v3 : Int32) , IV HB D y n n κ σ locs H → σ 23 = G23 → σ 24 = G24 → σ 25 = G25 → σ 32 = G32 → σ 37 = G37 → σ 38 = G38 → (∀ j, j ∉ W_X12_turns → σ j = σ0 j) → lv_has ls 9 [(0, .ref (HB.size + 91)), (2, .int v2), (3, .int v3)] → f_X12_turns_l60 F  fu G23 G24 G25 G32 G37 G38 v2 v3 = some q → WX RM_X12_turns p l e s m args below meth c HB none (B_X12_turns HB D y n κ σ0 q) H locs (F0 m 60 ls []) := by
    intro  fu
    induction fu with
    | zero =>
      intro σ H locs ls G23 G24 G25 G32 G37 G38 v2 v3 hI e23 e24 e25 e32 e37 e38 fr hl h
      exact absurd h (by intro h; cases h)
    | succ fu hk60 =>
      intro σ H locs ls G23 G24 G25 G32 G37 G38 v2 v3 hI e23 e24 e25 e32 e37 e38 fr hl h
      have h : f_X12_turns_l60b F  (f_X12_turns_l60 F  fu) G23 G24 G25 G32 G37 G38 v2 v3 = some q := h
      generalize f_X12_turns_l60 F  fu = k60 at h hk60
      unfold f_X12_turns_l60b at h
      refine lv_iload_n hx hb dX12_turns_60 rfl (lv_at hl 2 rfl) ?_
      refine lv_aload_n hx hb dX12_turns_61 rfl (lv_at hl 0 rfl) ?_
      refine gt_X12_480 hx hb hts hown hKK hI e38 (lc91 hN) (kc91 hk0) dX12_turns_62 ?_
      refine lv_icmp_ge (tgt := 83) hx hb dX12_turns_65 (by decide) (fun hc => ?_) (fun hc => ?_)
      · replace h := ite_t hc h
        refine lv_iconst (v := (-1)) hx hb dX12_turns_83 (by decide) ?_
        refine lv_istore_n (lv' := [(3, .int (-1)), (0, .ref (HB.size + 91)), (2, .int v2)]) hx hb dX12_turns_84 rfl hl (by decide) rfl (fun ls hl => ?_)
        refine lv_iconst (v := 0) hx hb dX12_turns_85 (by decide) ?_
        refine lv_istore (lv' := [(4, .int 0), (3, .int (-1)), (0, .ref (HB.size + 91)), (2, .int v2)]) hx hb dX12_turns_86 hl (by decide) rfl (fun ls hl => ?_)
        refine lv_iconst (v := 0) hx hb dX12_turns_88 (by decide) ?_
        refine lv_istore (lv' := [(5, .int 0), (4, .int 0), (3, .int (-1)), (0, .ref (HB.size + 91)), (2, .int v2)]) hx hb dX12_turns_89 hl (by decide) rfl (fun ls hl => ?_)
        exact b91  F σ H locs ls G23 G24 G25 G32 G37 G38 v2 (-1) 0 0  hI e23 e24 e25 e32 e37 e38 fr (lv_sub hl [3, 4, 2, 1, 0] rfl) h
      · replace h := ite_f hc h
        refine lv_iload_n hx hb dX12_turns_68 rfl (lv_at hl 1 rfl) ?_
        refine lv_aload_n hx hb dX12_turns_69 rfl (lv_at hl 0 rfl) ?_
        refine gt_X12_477 hx hb hts hown hKK hI e37 (lc91 hN) (kc91 hk0) dX12_turns_70 ?_
        refine lv_iconst (v := 1) hx hb dX12_turns_73 (by decide) ?_
        refine lv_iadd hx hb dX12_turns_74 ?_
        refine lv_imul hx hb dX12_turns_75 ?_
        obtain ⟨v2_76, qq, h⟩ := bn_e h
        refine topi qq ?_
        refine lv_istore_n (lv' := [(2, .int v2_76), (0, .ref (HB.size + 91)), (3, .int v3)]) hx hb dX12_turns_76 rfl hl (by decide) rfl (fun ls hl => ?_)
        obtain ⟨v3_77, qq, h⟩ := bn_e h
        refine lv_iinc (v := v3_77) (lv' := [(3, .int v3_77), (2, .int v2_76), (0, .ref (HB.size + 91))]) hx hb dX12_turns_77 hl (k := 2) rfl (by rw [qq]; rfl) (by decide) rfl (fun ls hl => ?_)
        refine lv_goto (tgt := 60) hx hb dX12_turns_80 (by decide) ?_
        exact hk60 σ H locs ls G23 G24 G25 G32 G37 G38 v2_76 v3_77  hI e23 e24 e25 e32 e37 e38 fr (lv_sub hl [2, 1, 0] rfl) h
  have b12 : ∀ (fu : Nat) (σ : St) (H : Heap) (locs : List Loc) (ls : Array Slot) (G23 : Grp) (G24 : Grp) (G25 : Grp) (G32 : Grp) (G37 : Grp) (G38 : Grp) (v1 : Int32) , IV HB D y n n κ σ locs H → σ 23 = G23 → σ 24 = G24 → σ 25 = G25 → σ 32 = G32 → σ 37 = G37 → σ 38 = G38 → (∀ j, j ∉ W_X12_turns → σ j = σ0 j) → lv_has ls 9 [(0, .ref (HB.size + 91)), (1, .int v1)] → f_X12_turns_l12 F  fu G23 G24 G25 G32 G37 G38 v1 = some q → WX RM_X12_turns p l e s m args below meth c HB none (B_X12_turns HB D y n κ σ0 q) H locs (F0 m 12 ls []) := by
    intro  fu
    induction fu with
    | zero =>
      intro σ H locs ls G23 G24 G25 G32 G37 G38 v1 hI e23 e24 e25 e32 e37 e38 fr hl h
      exact absurd h (by intro h; cases h)
    | succ fu hk12 =>
      intro σ H locs ls G23 G24 G25 G32 G37 G38 v1 hI e23 e24 e25 e32 e37 e38 fr hl h
      have h : f_X12_turns_l12b F  (f_X12_turns_l12 F  fu) G23 G24 G25 G32 G37 G38 v1 = some q := h
      generalize f_X12_turns_l12 F  fu = k12 at h hk12
      unfold f_X12_turns_l12b at h
      refine lv_iload_n hx hb dX12_turns_12 rfl (lv_at hl 1 rfl) ?_
      refine lv_iconst (v := (-1)) hx hb dX12_turns_13 (by decide) ?_
      refine lv_icmp_eq (tgt := 56) hx hb dX12_turns_14 (by decide) (fun hc => ?_) (fun hc => ?_)
      · replace h := ite_t hc h
        refine lv_iconst (v := 1) hx hb dX12_turns_56 (by decide) ?_
        refine lv_istore_n (lv' := [(2, .int 1), (0, .ref (HB.size + 91)), (1, .int v1)]) hx hb dX12_turns_57 rfl hl (by decide) rfl (fun ls hl => ?_)
        refine lv_iconst (v := 0) hx hb dX12_turns_58 (by decide) ?_
        refine lv_istore_n (lv' := [(3, .int 0), (2, .int 1), (0, .ref (HB.size + 91)), (1, .int v1)]) hx hb dX12_turns_59 rfl hl (by decide) rfl (fun ls hl => ?_)
        exact b60  F σ H locs ls G23 G24 G25 G32 G37 G38 1 0  hI e23 e24 e25 e32 e37 e38 fr (lv_sub hl [2, 1, 0] rfl) h
      · replace h := ite_f hc h
        refine lv_aload_n hx hb dX12_turns_17 rfl (lv_at hl 0 rfl) ?_
        refine gt_X12_480 hx hb hts hown hKK hI e38 (lc91 hN) (kc91 hk0) dX12_turns_18 ?_
        refine lv_bipush (v := 6) hx hb dX12_turns_21 (by decide) ?_
        refine lv_icmp_ge (tgt := 56) hx hb dX12_turns_23 (by decide) (fun hc => ?_) (fun hc => ?_)
        · replace h := ite_t hc h
          refine lv_iconst (v := 1) hx hb dX12_turns_56 (by decide) ?_
          refine lv_istore_n (lv' := [(2, .int 1), (0, .ref (HB.size + 91)), (1, .int v1)]) hx hb dX12_turns_57 rfl hl (by decide) rfl (fun ls hl => ?_)
          refine lv_iconst (v := 0) hx hb dX12_turns_58 (by decide) ?_
          refine lv_istore_n (lv' := [(3, .int 0), (2, .int 1), (0, .ref (HB.size + 91)), (1, .int v1)]) hx hb dX12_turns_59 rfl hl (by decide) rfl (fun ls hl => ?_)
          exact b60  F σ H locs ls G23 G24 G25 G32 G37 G38 1 0  hI e23 e24 e25 e32 e37 e38 fr (lv_sub hl [2, 1, 0] rfl) h
        · replace h := ite_f hc h
          refine lv_aload_n hx hb dX12_turns_26 rfl (lv_at hl 0 rfl) ?_
          refine gf_X12_203 hx hb hts hown hKK hI hN dX12_turns_27 ?_
          refine lv_aload_n hx hb dX12_turns_30 rfl (lv_at hl 0 rfl) ?_
          refine gt_X12_480 hx hb hts hown hKK hI e38 (lc91 hN) (kc91 hk0) dX12_turns_31 ?_
          refine lv_iload_n hx hb dX12_turns_34 rfl (lv_at hl 1 rfl) ?_
          obtain ⟨hin_, h⟩ := ck_e h
          obtain ⟨G38_35, qq, h⟩ := bn_e h
          refine sa_66 hx hb hKK hI e38 (lc155 hN) (kc155 hk0) hin_ dX12_turns_35 (fun σ H locs hI ew ho => ?_)
          have e38 := ew.trans qq.symm
          have e23 := (ho 23 (nn rfl)).trans e23
          have e24 := (ho 24 (nn rfl)).trans e24
          have e25 := (ho 25 (nn rfl)).trans e25
          have e32 := (ho 32 (nn rfl)).trans e32
          have e37 := (ho 37 (nn rfl)).trans e37
          have fr := frs fr ho (by decide)
          refine lv_aload_n hx hb dX12_turns_36 rfl (lv_at hl 0 rfl) ?_
          refine lv_aload_n hx hb dX12_turns_37 rfl (lv_at hl 0 rfl) ?_
          refine gt_X12_480 hx hb hts hown hKK hI e38 (lc91 hN) (kc91 hk0) dX12_turns_38 ?_
          refine lv_iconst (v := 1) hx hb dX12_turns_41 (by decide) ?_
          refine lv_iadd hx hb dX12_turns_42 ?_
          obtain ⟨G38_43, qq, h⟩ := bn_e h
          refine pt_X12_480 hx hb hts hown hKK hI e38 (lc91 hN) (kc91 hk0) dX12_turns_43 (fun σ H locs hI ew ho => ?_)
          have e38 := ew.trans qq.symm
          have e23 := (ho 23 (nn rfl)).trans e23
          have e24 := (ho 24 (nn rfl)).trans e24
          have e25 := (ho 25 (nn rfl)).trans e25
          have e32 := (ho 32 (nn rfl)).trans e32
          have e37 := (ho 37 (nn rfl)).trans e37
          have fr := frs fr ho (by decide)
          refine lv_aload_n hx hb dX12_turns_46 rfl (lv_at hl 0 rfl) ?_
          refine lv_iconst (v := 4) hx hb dX12_turns_47 (by decide) ?_
          refine lv_iload_n hx hb dX12_turns_48 rfl (lv_at hl 1 rfl) ?_
          obtain ⟨q_49, hq_49, h⟩ := ob_e h
          refine r_callV (As := [.int 4, .int v1]) (rest := []) hx hb hml hts hown (c_X12_nextIn l HB D y F n κ σ hN 4 v1 G32 e32 q_49 hq_49) cal_X12_nextIn im_X12_nextIn se_X12_nextIn lm_X12_489 ⟨Nat.le_of_ble_eq_true rfl, Nat.le_of_ble_eq_true rfl⟩ hI.nil hKK (r_recv hKK hI (hE12 HB.size y) rfl (lc91 hN) (kc91 hk0)) rfl hl.1 hI.2.2 rfl (Nat.le_of_ble_eq_true rfl) dX12_turns_49 ⟨Nat.le_of_ble_eq_true rfl, Nat.le_of_ble_eq_true rfl⟩ rfl rfl rfl (fun H locs hB hlo => ?_)
          have hI := hB.re hlo
          refine lv_istore_n (lv' := [(1, .int q_49), (0, .ref (HB.size + 91))]) hx hb dX12_turns_52 rfl hl (by decide) rfl (fun ls hl => ?_)
          refine lv_goto (tgt := 12) hx hb dX12_turns_53 (by decide) ?_
          exact hk12 σ H locs ls G23 G24 G25 G32 G37 G38_43 q_49  hI e23 e24 e25 e32 e37 e38 fr (lv_sub hl [1, 0] rfl) h
  obtain ⟨σ, hI, e23, e24, e25, e32, e37, e38, fr⟩ : ∃ σ : St, IV HB D y n n κ σ [] s.heap ∧ σ 23 = G23 ∧ σ 24 = G24 ∧ σ 25 = G25 ∧ σ 32 = G32 ∧ σ 37 = G37 ∧ σ 38 = G38 ∧ ∀ j, j ∉ W_X12_turns → σ j = σ0 j := ⟨σ0, hI, e23, e24, e25, e32, e37, e38, fun _ _ => rfl⟩
  show WX RM_X12_turns p l e s m args below meth c HB none (B_X12_turns HB D y n κ σ0 q) s.heap [] (F0 m 0 ls [])
  generalize s.heap = H at hI ⊢
  unfold f_X12_turns at h
  obtain ⟨locs, hlocs⟩ : ∃ x : List Loc, x = [] := ⟨_, rfl⟩
  rw [← hlocs] at hI ⊢
  refine lv_aload_n hx hb dX12_turns_0 rfl (lv_at hl 0 rfl) ?_
  refine lv_iconst (v := 0) hx hb dX12_turns_1 (by decide) ?_
  obtain ⟨G38_2, qq, h⟩ := bn_e h
  refine pt_X12_480 hx hb hts hown hKK hI e38 (lc91 hN) (kc91 hk0) dX12_turns_2 (fun σ H locs hI ew ho => ?_)
  have e38 := ew.trans qq.symm
  have e23 := (ho 23 (nn rfl)).trans e23
  have e24 := (ho 24 (nn rfl)).trans e24
  have e25 := (ho 25 (nn rfl)).trans e25
  have e32 := (ho 32 (nn rfl)).trans e32
  have e37 := (ho 37 (nn rfl)).trans e37
  have fr := frs fr ho (by decide)
  refine lv_aload_n hx hb dX12_turns_5 rfl (lv_at hl 0 rfl) ?_
  refine lv_iconst (v := 4) hx hb dX12_turns_6 (by decide) ?_
  refine lv_iconst (v := (-1)) hx hb dX12_turns_7 (by decide) ?_
  obtain ⟨q_8, hq_8, h⟩ := ob_e h
  refine r_callV (As := [.int 4, .int (-1)]) (rest := []) hx hb hml hts hown (c_X12_nextIn l HB D y F n κ σ hN 4 (-1) G32 e32 q_8 hq_8) cal_X12_nextIn im_X12_nextIn se_X12_nextIn lm_X12_489 ⟨Nat.le_of_ble_eq_true rfl, Nat.le_of_ble_eq_true rfl⟩ hI.nil hKK (r_recv hKK hI (hE12 HB.size y) rfl (lc91 hN) (kc91 hk0)) rfl hl.1 hI.2.2 rfl (Nat.le_of_ble_eq_true rfl) dX12_turns_8 ⟨Nat.le_of_ble_eq_true rfl, Nat.le_of_ble_eq_true rfl⟩ rfl rfl rfl (fun H locs hB hlo => ?_)
  have hI := hB.re hlo
  refine lv_istore_n (lv' := [(1, .int q_8), (0, .ref (HB.size + 91))]) hx hb dX12_turns_11 rfl hl (by decide) rfl (fun ls hl => ?_)
  exact b12  F σ H locs ls G23 G24 G25 G32 G37 G38_2 q_8  hI e23 e24 e25 e32 e37 e38 fr (lv_sub hl [1, 0] rfl) h
noncomputable def f_X12_sacksCome_l51b (F : Nat) (k2 : Grp → Grp → Grp → Int32 → Option (Grp × Grp)) (k51 : Grp → Grp → Grp → Int32 → Int32 → Option (Grp × Grp)) (G23 : Grp) (G32 : Grp) (G35 : Grp) (v1 : Int32) (v2 : Int32) : Option (Grp × Grp) :=
  if (G32.1 91 57) ≤ v2 then bn (v1 + 1) (fun v1_91 => k2 G23 G32 G35 v1_91) else ck v2 200 (if (G32.1 135 v2.toNatClampNeg) = 1 then ck v2 200 (if (G32.1 137 v2.toNatClampNeg) = v1 then ob (f_X12_moves F G23 G32 v2 2) (fun q_82 => bn (v2 + 1) (fun v2_85 => k51 G23 q_82 G35 v1 v2_85)) else bn (v2 + 1) (fun v2_85 => k51 G23 G32 G35 v1 v2_85)) else bn (v2 + 1) (fun v2_85 => k51 G23 G32 G35 v1 v2_85))
noncomputable def f_X12_sacksCome_l51 (F : Nat) (k2 : Grp → Grp → Grp → Int32 → Option (Grp × Grp)) (fu : Nat) : Grp → Grp → Grp → Int32 → Int32 → Option (Grp × Grp) := Nat.rec (motive := fun _ => Grp → Grp → Grp → Int32 → Int32 → Option (Grp × Grp)) (fun _ _ _ _ _ => none) (fun _ ih => f_X12_sacksCome_l51b F k2 ih) fu
noncomputable def f_X12_sacksCome_l2b (F : Nat)  (k2 : Grp → Grp → Grp → Int32 → Option (Grp × Grp)) (G23 : Grp) (G32 : Grp) (G35 : Grp) (v1 : Int32) : Option (Grp × Grp) :=
  if (G35.1 91 58) ≤ v1 then some (G32, G35) else ck v1 1300 (if (G35.1 146 v1.toNatClampNeg) = 0 then bn (v1 + 1) (fun v1_91 => k2 G23 G32 G35 v1_91) else ck v1 1300 (ck v1 1300 (if (G35.1 145 v1.toNatClampNeg) ≤ ((G23.1 91 0) - (G35.1 144 v1.toNatClampNeg)) then ck v1 1300 (bn (gI G35 146 v1.toNatClampNeg (vp_nar .boolean 0)) (fun G35_48 => f_X12_sacksCome_l51 F k2 F G23 G32 G35_48 v1 0)) else bn (v1 + 1) (fun v1_91 => k2 G23 G32 G35 v1_91))))
noncomputable def f_X12_sacksCome_l2 (F : Nat)  (fu : Nat) : Grp → Grp → Grp → Int32 → Option (Grp × Grp) := Nat.rec (motive := fun _ => Grp → Grp → Grp → Int32 → Option (Grp × Grp)) (fun _ _ _ _ => none) (fun _ ih => f_X12_sacksCome_l2b F  ih) fu
noncomputable def f_X12_sacksCome (F : Nat) (G23 : Grp) (G32 : Grp) (G35 : Grp)  : Option (Grp × Grp) :=
  f_X12_sacksCome_l2 F  F G23 G32 G35 0
def RM_X12_sacksCome : Room := { frames := 1, cells := 0, slots := 0, locals := 22 }
abbrev W_X12_sacksCome : List Nat := [32, 35]
abbrev B_X12_sacksCome (HB : Heap) (D : va_G) (y : Nat → ClassId) (n : Nat) (κ : Nat → Nat) (σ0 : St) (q : Grp × Grp) : Heap → Prop := fun H => ∃ σ : St, IV HB D y n n κ σ [] H ∧ σ 32 = q.1 ∧ σ 35 = q.2 ∧ ∀ j, j ∉ W_X12_sacksCome → σ j = σ0 j
set_option maxRecDepth 100000 in
set_option maxHeartbeats 4000000 in
theorem c_X12_sacksCome (l : Launch) (HB : Heap) (D : va_G) (y : Nat → ClassId) (F n : Nat) (κ : Nat → Nat) (σ0 : St) (hN : N0 ≤ n)  (G23 : Grp) (e23 : σ0 23 = G23) (G32 : Grp) (e32 : σ0 32 = G32) (G35 : Grp) (e35 : σ0 35 = G35) (q : Grp × Grp) (h : f_X12_sacksCome F G23 G32 G35 = some q) : MT l HB D y yX12_sacksCome cX12_sacksCome 3 none RM_X12_sacksCome [.ref (HB.size + 91)] (IV HB D y n n κ σ0 []) none (B_X12_sacksCome HB D y n κ σ0 q) := by
  refine Met.ofW (cc := cX12_sacksCome) (maxL := 3) (ret := none) (by decide) rfl ?_
  intro p e s m args below meth c s₁ BL hml hv
  obtain ⟨rfl, hI, hKK⟩ := hv
  have hx := BL.exec
  have hb := BL.bytes
  have hr := BL.returns
  have hts : ∀ w ∈ gtb, w.before _ s = true := fun w hw => atoms_spec BL.pre w (List.mem_cons_of_mem _ hw)
  have hml : c.maxLocals = 3 := hml
  have hown : s.vm.findClass RX12 = some m.cls := findClass_of_methodNamed BL.named
  have hlocks := BL.notSynchronized
  have hk0 := hI.1.2.2.2.2
  have hl := lv_entry ([.ref (HB.size + 91)]) (n := 3) (Nat.le_of_ble_eq_true rfl)
  rw [lg_entry_eq]
  generalize (lg_sl ([.ref (HB.size + 91)]) ++ List.replicate (3 - (lg_sl ([.ref (HB.size + 91)])).length) Slot.unset).toArray = ls at hl ⊢
  have hl : lv_has ls 3 [(0, .ref (HB.size + 91))] := hl
  generalize hargs : ([.ref (HB.size + 91)] : List Value).toArray = args at *
  have b51 : ∀ (k2 : Grp → Grp → Grp → Int32 → Option (Grp × Grp)) (hk2 : ∀ (σ : St) (H : Heap) (locs : List Loc) (ls : Array Slot) (G23 : Grp) (G32 : Grp) (G35 : Grp) (v1 : Int32) , IV HB D y n n κ σ locs H → σ 23 = G23 → σ 32 = G32 → σ 35 = G35 → (∀ j, j ∉ W_X12_sacksCome → σ j = σ0 j) → lv_has ls 3 [(0, .ref (HB.size + 91)), (1, .int v1)] → k2 G23 G32 G35 v1 = some q → WX RM_X12_sacksCome p l e s m args below meth c HB none (B_X12_sacksCome HB D y n κ σ0 q) H locs (F0 m 2 ls [])) (fu : Nat) (σ : St) (H : Heap) (locs : List Loc) (ls : Array Slot) (G23 : Grp) (G32 : Grp) (G35 : Grp) (v1 : Int32) (v2 : Int32) , IV HB D y n n κ σ locs H → σ 23 = G23 → σ 32 = G32 → σ 35 = G35 → (∀ j, j ∉ W_X12_sacksCome → σ j = σ0 j) → lv_has ls 3 [(0, .ref (HB.size + 91)), (1, .int v1), (2, .int v2)] → f_X12_sacksCome_l51 F k2 fu G23 G32 G35 v1 v2 = some q → WX RM_X12_sacksCome p l e s m args below meth c HB none (B_X12_sacksCome HB D y n κ σ0 q) H locs (F0 m 51 ls []) := by
    intro k2 hk2 fu
    induction fu with
    | zero =>
      intro σ H locs ls G23 G32 G35 v1 v2 hI e23 e32 e35 fr hl h
      exact absurd h (by intro h; cases h)
    | succ fu hk51 =>
      intro σ H locs ls G23 G32 G35 v1 v2 hI e23 e32 e35 fr hl h
      have h : f_X12_sacksCome_l51b F k2 (f_X12_sacksCome_l51 F k2 fu) G23 G32 G35 v1 v2 = some q := h
      generalize f_X12_sacksCome_l51 F k2 fu = k51 at h hk51
      unfold f_X12_sacksCome_l51b at h
      refine lv_iload_n hx hb dX12_sacksCome_51 rfl (lv_at hl 2 rfl) ?_
      refine lv_aload_n hx hb dX12_sacksCome_52 rfl (lv_at hl 0 rfl) ?_
      refine gt_X12_431 hx hb hts hown hKK hI e32 (lc91 hN) (kc91 hk0) dX12_sacksCome_53 ?_
      refine lv_icmp_ge (tgt := 91) hx hb dX12_sacksCome_56 (by decide) (fun hc => ?_) (fun hc => ?_)
      · replace h := ite_t hc h
        obtain ⟨v1_91, qq, h⟩ := bn_e h
        refine lv_iinc (v := v1_91) (lv' := [(1, .int v1_91), (0, .ref (HB.size + 91)), (2, .int v2)]) hx hb dX12_sacksCome_91 hl (k := 1) rfl (by rw [qq]; rfl) (by decide) rfl (fun ls hl => ?_)
        refine lv_goto (tgt := 2) hx hb dX12_sacksCome_94 (by decide) ?_
        exact hk2 σ H locs ls G23 G32 G35 v1_91  hI e23 e32 e35 fr (lv_sub hl [1, 0] rfl) h
      · replace h := ite_f hc h
        refine lv_aload_n hx hb dX12_sacksCome_59 rfl (lv_at hl 0 rfl) ?_
        refine gf_X12_142 hx hb hts hown hKK hI hN dX12_sacksCome_60 ?_
        refine lv_iload_n hx hb dX12_sacksCome_63 rfl (lv_at hl 2 rfl) ?_
        obtain ⟨hin_, h⟩ := ck_e h
        refine la_57 hx hb hKK hI e32 (lc135 hN) (kc135 hk0) hin_ dX12_sacksCome_64 ?_
        refine lv_iconst (v := 1) hx hb dX12_sacksCome_65 (by decide) ?_
        refine lv_icmp_ne (tgt := 85) hx hb dX12_sacksCome_66 (by decide) (fun hc => ?_) (fun hc => ?_)
        · replace h := ite_f hc h
          obtain ⟨v2_85, qq, h⟩ := bn_e h
          refine lv_iinc (v := v2_85) (lv' := [(2, .int v2_85), (0, .ref (HB.size + 91)), (1, .int v1)]) hx hb dX12_sacksCome_85 hl (k := 2) rfl (by rw [qq]; rfl) (by decide) rfl (fun ls hl => ?_)
          refine lv_goto (tgt := 51) hx hb dX12_sacksCome_88 (by decide) ?_
          exact hk51 σ H locs ls G23 G32 G35 v1 v2_85  hI e23 e32 e35 fr (lv_sub hl [1, 2, 0] rfl) h
        · replace h := ite_t hc h
          refine lv_aload_n hx hb dX12_sacksCome_69 rfl (lv_at hl 0 rfl) ?_
          refine gf_X12_148 hx hb hts hown hKK hI hN dX12_sacksCome_70 ?_
          refine lv_iload_n hx hb dX12_sacksCome_73 rfl (lv_at hl 2 rfl) ?_
          obtain ⟨hin_, h⟩ := ck_e h
          refine la_57 hx hb hKK hI e32 (lc137 hN) (kc137 hk0) hin_ dX12_sacksCome_74 ?_
          refine lv_iload_n hx hb dX12_sacksCome_75 rfl (lv_at hl 1 rfl) ?_
          refine lv_icmp_ne (tgt := 85) hx hb dX12_sacksCome_76 (by decide) (fun hc => ?_) (fun hc => ?_)
          · replace h := ite_f hc h
            obtain ⟨v2_85, qq, h⟩ := bn_e h
            refine lv_iinc (v := v2_85) (lv' := [(2, .int v2_85), (0, .ref (HB.size + 91)), (1, .int v1)]) hx hb dX12_sacksCome_85 hl (k := 2) rfl (by rw [qq]; rfl) (by decide) rfl (fun ls hl => ?_)
            refine lv_goto (tgt := 51) hx hb dX12_sacksCome_88 (by decide) ?_
            exact hk51 σ H locs ls G23 G32 G35 v1 v2_85  hI e23 e32 e35 fr (lv_sub hl [1, 2, 0] rfl) h
          · replace h := ite_t hc h
            refine lv_aload_n hx hb dX12_sacksCome_79 rfl (lv_at hl 0 rfl) ?_
            refine lv_iload_n hx hb dX12_sacksCome_80 rfl (lv_at hl 2 rfl) ?_
            refine lv_iconst (v := 2) hx hb dX12_sacksCome_81 (by decide) ?_
            obtain ⟨q_82, hq_82, h⟩ := ob_e h
            refine r_callV (As := [.int v2, .int 2]) (rest := []) hx hb hml hts hown (c_X12_moves l HB D y F n κ σ hN v2 2 G23 e23 G32 e32 q_82 hq_82) cal_X12_moves im_X12_moves se_X12_moves lm_X12_455 ⟨Nat.le_of_ble_eq_true rfl, Nat.le_of_ble_eq_true rfl⟩ hI.nil hKK (r_recv hKK hI (hE12 HB.size y) rfl (lc91 hN) (kc91 hk0)) rfl hl.1 hI.2.2 rfl (Nat.le_of_ble_eq_true rfl) dX12_sacksCome_82 ⟨Nat.le_of_ble_eq_true rfl, Nat.le_of_ble_eq_true rfl⟩ rfl rfl rfl (fun H locs hB hlo => ?_)
            obtain ⟨σ, hB, en32, ho⟩ := hB
            have hI := hB.re hlo
            have e32 := en32
            have e23 := (ho 23 (ni rfl)).trans e23
            have e35 := (ho 35 (ni rfl)).trans e35
            have fr := frc fr ho (by decide)
            obtain ⟨v2_85, qq, h⟩ := bn_e h
            refine lv_iinc (v := v2_85) (lv' := [(2, .int v2_85), (0, .ref (HB.size + 91)), (1, .int v1)]) hx hb dX12_sacksCome_85 hl (k := 2) rfl (by rw [qq]; rfl) (by decide) rfl (fun ls hl => ?_)
            refine lv_goto (tgt := 51) hx hb dX12_sacksCome_88 (by decide) ?_
            exact hk51 σ H locs ls G23 q_82 G35 v1 v2_85  hI e23 e32 e35 fr (lv_sub hl [1, 2, 0] rfl) h
  have b2 : ∀ (fu : Nat) (σ : St) (H : Heap) (locs : List Loc) (ls : Array Slot) (G23 : Grp) (G32 : Grp) (G35 : Grp) (v1 : Int32) , IV HB D y n n κ σ locs H → σ 23 = G23 → σ 32 = G32 → σ 35 = G35 → (∀ j, j ∉ W_X12_sacksCome → σ j = σ0 j) → lv_has ls 3 [(0, .ref (HB.size + 91)), (1, .int v1)] → f_X12_sacksCome_l2 F  fu G23 G32 G35 v1 = some q → WX RM_X12_sacksCome p l e s m args below meth c HB none (B_X12_sacksCome HB D y n κ σ0 q) H locs (F0 m 2 ls []) := by
    intro  fu
    induction fu with
    | zero =>
      intro σ H locs ls G23 G32 G35 v1 hI e23 e32 e35 fr hl h
      exact absurd h (by intro h; cases h)
    | succ fu hk2 =>
      intro σ H locs ls G23 G32 G35 v1 hI e23 e32 e35 fr hl h
      have h : f_X12_sacksCome_l2b F  (f_X12_sacksCome_l2 F  fu) G23 G32 G35 v1 = some q := h
      generalize f_X12_sacksCome_l2 F  fu = k2 at h hk2
      unfold f_X12_sacksCome_l2b at h
      refine lv_iload_n hx hb dX12_sacksCome_2 rfl (lv_at hl 1 rfl) ?_
      refine lv_aload_n hx hb dX12_sacksCome_3 rfl (lv_at hl 0 rfl) ?_
      refine gt_X12_470 hx hb hts hown hKK hI e35 (lc91 hN) (kc91 hk0) dX12_sacksCome_4 ?_
      refine lv_icmp_ge (tgt := 97) hx hb dX12_sacksCome_7 (by decide) (fun hc => ?_) (fun hc => ?_)
      · replace h := ite_t hc h
        have hq := Option.some.inj h
        exact W.vret hx hb hr (fun t ht hW => qc_mk (rfl) (by rw [ht]; exact ⟨σ, hI.nil, e32.trans (congrArg (fun z => z.1) hq), e35.trans (congrArg (fun z => z.2) hq), fr⟩)) hI.2.2 dX12_sacksCome_97 hlocks
      · replace h := ite_f hc h
        refine lv_aload_n hx hb dX12_sacksCome_10 rfl (lv_at hl 0 rfl) ?_
        refine gf_X12_175 hx hb hts hown hKK hI hN dX12_sacksCome_11 ?_
        refine lv_iload_n hx hb dX12_sacksCome_14 rfl (lv_at hl 1 rfl) ?_
        obtain ⟨hin_, h⟩ := ck_e h
        refine la_62 hx hb hKK hI e35 (lc146 hN) (kc146 hk0) hin_ dX12_sacksCome_15 ?_
        refine lv_if_eq (tgt := 91) hx hb dX12_sacksCome_16 (by decide) (fun hc => ?_) (fun hc => ?_)
        · replace h := ite_t hc h
          obtain ⟨v1_91, qq, h⟩ := bn_e h
          refine lv_iinc (v := v1_91) (lv' := [(1, .int v1_91), (0, .ref (HB.size + 91))]) hx hb dX12_sacksCome_91 hl (k := 1) rfl (by rw [qq]; rfl) (by decide) rfl (fun ls hl => ?_)
          refine lv_goto (tgt := 2) hx hb dX12_sacksCome_94 (by decide) ?_
          exact hk2 σ H locs ls G23 G32 G35 v1_91  hI e23 e32 e35 fr (lv_sub hl [1, 0] rfl) h
        · replace h := ite_f hc h
          refine lv_aload_n hx hb dX12_sacksCome_19 rfl (lv_at hl 0 rfl) ?_
          refine gt_X12_281 hx hb hts hown hKK hI e23 (lc91 hN) (kc91 hk0) dX12_sacksCome_20 ?_
          refine lv_aload_n hx hb dX12_sacksCome_23 rfl (lv_at hl 0 rfl) ?_
          refine gf_X12_169 hx hb hts hown hKK hI hN dX12_sacksCome_24 ?_
          refine lv_iload_n hx hb dX12_sacksCome_27 rfl (lv_at hl 1 rfl) ?_
          obtain ⟨hin_, h⟩ := ck_e h
          refine la_61 hx hb hKK hI e35 (lc144 hN) (kc144 hk0) hin_ dX12_sacksCome_28 ?_
          refine lv_isub hx hb dX12_sacksCome_29 ?_
          refine lv_aload_n hx hb dX12_sacksCome_30 rfl (lv_at hl 0 rfl) ?_
          refine gf_X12_172 hx hb hts hown hKK hI hN dX12_sacksCome_31 ?_
          refine lv_iload_n hx hb dX12_sacksCome_34 rfl (lv_at hl 1 rfl) ?_
          obtain ⟨hin_, h⟩ := ck_e h
          refine la_61 hx hb hKK hI e35 (lc145 hN) (kc145 hk0) hin_ dX12_sacksCome_35 ?_
          refine lv_icmp_ge (tgt := 42) hx hb dX12_sacksCome_36 (by decide) (fun hc => ?_) (fun hc => ?_)
          · replace h := ite_t hc h
            refine lv_aload_n hx hb dX12_sacksCome_42 rfl (lv_at hl 0 rfl) ?_
            refine gf_X12_175 hx hb hts hown hKK hI hN dX12_sacksCome_43 ?_
            refine lv_iload_n hx hb dX12_sacksCome_46 rfl (lv_at hl 1 rfl) ?_
            refine lv_iconst (v := 0) hx hb dX12_sacksCome_47 (by decide) ?_
            obtain ⟨hin_, h⟩ := ck_e h
            obtain ⟨G35_48, qq, h⟩ := bn_e h
            refine sa_62 hx hb hKK hI e35 (lc146 hN) (kc146 hk0) hin_ dX12_sacksCome_48 (fun σ H locs hI ew ho => ?_)
            have e35 := ew.trans qq.symm
            have e23 := (ho 23 (nn rfl)).trans e23
            have e32 := (ho 32 (nn rfl)).trans e32
            have fr := frs fr ho (by decide)
            refine lv_iconst (v := 0) hx hb dX12_sacksCome_49 (by decide) ?_
            refine lv_istore_n (lv' := [(2, .int 0), (0, .ref (HB.size + 91)), (1, .int v1)]) hx hb dX12_sacksCome_50 rfl hl (by decide) rfl (fun ls hl => ?_)
            exact b51 k2 hk2 F σ H locs ls G23 G32 G35_48 v1 0  hI e23 e32 e35 fr (lv_sub hl [1, 2, 0] rfl) h
          · replace h := ite_f hc h
            refine lv_goto (tgt := 91) hx hb dX12_sacksCome_39 (by decide) ?_
            obtain ⟨v1_91, qq, h⟩ := bn_e h
            refine lv_iinc (v := v1_91) (lv' := [(1, .int v1_91), (0, .ref (HB.size + 91))]) hx hb dX12_sacksCome_91 hl (k := 1) rfl (by rw [qq]; rfl) (by decide) rfl (fun ls hl => ?_)
            refine lv_goto (tgt := 2) hx hb dX12_sacksCome_94 (by decide) ?_
            exact hk2 σ H locs ls G23 G32 G35 v1_91  hI e23 e32 e35 fr (lv_sub hl [1, 0] rfl) h
  obtain ⟨σ, hI, e23, e32, e35, fr⟩ : ∃ σ : St, IV HB D y n n κ σ [] s.heap ∧ σ 23 = G23 ∧ σ 32 = G32 ∧ σ 35 = G35 ∧ ∀ j, j ∉ W_X12_sacksCome → σ j = σ0 j := ⟨σ0, hI, e23, e32, e35, fun _ _ => rfl⟩
  show WX RM_X12_sacksCome p l e s m args below meth c HB none (B_X12_sacksCome HB D y n κ σ0 q) s.heap [] (F0 m 0 ls [])
  generalize s.heap = H at hI ⊢
  unfold f_X12_sacksCome at h
  obtain ⟨locs, hlocs⟩ : ∃ x : List Loc, x = [] := ⟨_, rfl⟩
  rw [← hlocs] at hI ⊢
  refine lv_iconst (v := 0) hx hb dX12_sacksCome_0 (by decide) ?_
  refine lv_istore_n (lv' := [(1, .int 0), (0, .ref (HB.size + 91))]) hx hb dX12_sacksCome_1 rfl hl (by decide) rfl (fun ls hl => ?_)
  exact b2  F σ H locs ls G23 G32 G35 0  hI e23 e32 e35 fr (lv_sub hl [1, 0] rfl) h
noncomputable def f_X12_lettersCome_b102 (F : Nat) (k2 : Grp → Grp → Grp → Grp → Int32 → Option (Grp)) (G23 : Grp) (G24 : Grp) (G25 : Grp) (G32 : Grp) (v1 : Int32) (s1 : Int32) (s2 : Int32) : Option (Grp) :=
  ob (f_X12_moves F G23 G32 s1 s2) (fun q_102 => bn (v1 + 1) (fun v1_105 => k2 G23 G24 G25 q_102 v1_105))
noncomputable def f_X12_lettersCome_l2b (F : Nat)  (k2 : Grp → Grp → Grp → Grp → Int32 → Option (Grp)) (G23 : Grp) (G24 : Grp) (G25 : Grp) (G32 : Grp) (v1 : Int32) : Option (Grp) :=
  if (G32.1 91 57) ≤ v1 then some G32 else ck v1 200 (bn ((G32.1 132 v1.toNatClampNeg)) (fun v2_16 => ck v2_16 40 (ck (G25.1 100 v2_16.toNatClampNeg) 16 (bn ((G24.1 95 (G25.1 100 v2_16.toNatClampNeg).toNatClampNeg)) (fun v3_28 => ck v1 200 (if (G32.1 135 v1.toNatClampNeg) = 5 then ck v1 200 (ck v3_28 6 (if ((G23.1 91 0) - (G32.1 136 v1.toNatClampNeg)) < (G24.1 92 v3_28.toNatClampNeg) then bn (v1 + 1) (fun v1_105 => k2 G23 G24 G25 G32 v1_105) else ck v3_28 6 (if (((G24.1 93 v3_28.toNatClampNeg) >>> ((((G23.1 91 0) / 30) - ((G23.1 91 0) / 30) / 12 * 12) &&& 31)) &&& 1) = 1 then bn (v1 + 1) (fun v1_105 => k2 G23 G24 G25 G32 v1_105) else ob (f_X12_isOpen F G25 v2_16) (fun q_89 => if q_89 = 0 then f_X12_lettersCome_b102 F k2 G23 G24 G25 G32 v1 v1 7 else f_X12_lettersCome_b102 F k2 G23 G24 G25 G32 v1 v1 6)))) else bn (v1 + 1) (fun v1_105 => k2 G23 G24 G25 G32 v1_105)))))))
noncomputable def f_X12_lettersCome_l2 (F : Nat)  (fu : Nat) : Grp → Grp → Grp → Grp → Int32 → Option (Grp) := Nat.rec (motive := fun _ => Grp → Grp → Grp → Grp → Int32 → Option (Grp)) (fun _ _ _ _ _ => none) (fun _ ih => f_X12_lettersCome_l2b F  ih) fu
noncomputable def f_X12_lettersCome (F : Nat) (G23 : Grp) (G24 : Grp) (G25 : Grp) (G32 : Grp)  : Option (Grp) :=
  f_X12_lettersCome_l2 F  F G23 G24 G25 G32 0
def RM_X12_lettersCome : Room := { frames := 1, cells := 0, slots := 0, locals := 22 }
abbrev W_X12_lettersCome : List Nat := [32]
abbrev B_X12_lettersCome (HB : Heap) (D : va_G) (y : Nat → ClassId) (n : Nat) (κ : Nat → Nat) (σ0 : St) (q : Grp) : Heap → Prop := fun H => ∃ σ : St, IV HB D y n n κ σ [] H ∧ σ 32 = q ∧ ∀ j, j ∉ W_X12_lettersCome → σ j = σ0 j
set_option maxRecDepth 100000 in
set_option maxHeartbeats 4000000 in
theorem c_X12_lettersCome (l : Launch) (HB : Heap) (D : va_G) (y : Nat → ClassId) (F n : Nat) (κ : Nat → Nat) (σ0 : St) (hN : N0 ≤ n)  (G23 : Grp) (e23 : σ0 23 = G23) (G24 : Grp) (e24 : σ0 24 = G24) (G25 : Grp) (e25 : σ0 25 = G25) (G32 : Grp) (e32 : σ0 32 = G32) (q : Grp) (h : f_X12_lettersCome F G23 G24 G25 G32 = some q) : MT l HB D y yX12_lettersCome cX12_lettersCome 4 none RM_X12_lettersCome [.ref (HB.size + 91)] (IV HB D y n n κ σ0 []) none (B_X12_lettersCome HB D y n κ σ0 q) := by
  refine Met.ofW (cc := cX12_lettersCome) (maxL := 4) (ret := none) (by decide) rfl ?_
  intro p e s m args below meth c s₁ BL hml hv
  obtain ⟨rfl, hI, hKK⟩ := hv
  have hx := BL.exec
  have hb := BL.bytes
  have hr := BL.returns
  have hts : ∀ w ∈ gtb, w.before _ s = true := fun w hw => atoms_spec BL.pre w (List.mem_cons_of_mem _ hw)
  have hml : c.maxLocals = 4 := hml
  have hown : s.vm.findClass RX12 = some m.cls := findClass_of_methodNamed BL.named
  have hlocks := BL.notSynchronized
  have hk0 := hI.1.2.2.2.2
  have hl := lv_entry ([.ref (HB.size + 91)]) (n := 4) (Nat.le_of_ble_eq_true rfl)
  rw [lg_entry_eq]
  generalize (lg_sl ([.ref (HB.size + 91)]) ++ List.replicate (4 - (lg_sl ([.ref (HB.size + 91)])).length) Slot.unset).toArray = ls at hl ⊢
  have hl : lv_has ls 4 [(0, .ref (HB.size + 91))] := hl
  generalize hargs : ([.ref (HB.size + 91)] : List Value).toArray = args at *
  have b102 : ∀ (k2 : Grp → Grp → Grp → Grp → Int32 → Option (Grp)) (hk2 : ∀ (σ : St) (H : Heap) (locs : List Loc) (ls : Array Slot) (G23 : Grp) (G24 : Grp) (G25 : Grp) (G32 : Grp) (v1 : Int32) , IV HB D y n n κ σ locs H → σ 23 = G23 → σ 24 = G24 → σ 25 = G25 → σ 32 = G32 → (∀ j, j ∉ W_X12_lettersCome → σ j = σ0 j) → lv_has ls 4 [(0, .ref (HB.size + 91)), (1, .int v1)] → k2 G23 G24 G25 G32 v1 = some q → WX RM_X12_lettersCome p l e s m args below meth c HB none (B_X12_lettersCome HB D y n κ σ0 q) H locs (F0 m 2 ls [])) (σ : St) (H : Heap) (locs : List Loc) (ls : Array Slot) (G23 : Grp) (G24 : Grp) (G25 : Grp) (G32 : Grp) (v1 : Int32) (s1 : Int32) (s2 : Int32) , IV HB D y n n κ σ locs H → σ 23 = G23 → σ 24 = G24 → σ 25 = G25 → σ 32 = G32 → (∀ j, j ∉ W_X12_lettersCome → σ j = σ0 j) → lv_has ls 4 [(0, .ref (HB.size + 91)), (1, .int v1)] → f_X12_lettersCome_b102 F k2 G23 G24 G25 G32 v1 s1 s2 = some q → WX RM_X12_lettersCome p l e s m args below meth c HB none (B_X12_lettersCome HB D y n κ σ0 q) H locs (F0 m 102 ls [.int s2, .int s1, .ref (HB.size + 91)]) := by
    intro k2 hk2 σ H locs ls G23 G24 G25 G32 v1 s1 s2 hI e23 e24 e25 e32 fr hl h
    unfold f_X12_lettersCome_b102 at h
    obtain ⟨q_102, hq_102, h⟩ := ob_e h
    refine r_callV (As := [.int s1, .int s2]) (rest := []) hx hb hml hts hown (c_X12_moves l HB D y F n κ σ hN s1 s2 G23 e23 G32 e32 q_102 hq_102) cal_X12_moves im_X12_moves se_X12_moves lm_X12_455 ⟨Nat.le_of_ble_eq_true rfl, Nat.le_of_ble_eq_true rfl⟩ hI.nil hKK (r_recv hKK hI (hE12 HB.size y) rfl (lc91 hN) (kc91 hk0)) rfl hl.1 hI.2.2 rfl (Nat.le_of_ble_eq_true rfl) dX12_lettersCome_102 ⟨Nat.le_of_ble_eq_true rfl, Nat.le_of_ble_eq_true rfl⟩ rfl rfl rfl (fun H locs hB hlo => ?_)
    obtain ⟨σ, hB, en32, ho⟩ := hB
    have hI := hB.re hlo
    have e32 := en32
    have e23 := (ho 23 (ni rfl)).trans e23
    have e24 := (ho 24 (ni rfl)).trans e24
    have e25 := (ho 25 (ni rfl)).trans e25
    have fr := frc fr ho (by decide)
    obtain ⟨v1_105, qq, h⟩ := bn_e h
    refine lv_iinc (v := v1_105) (lv' := [(1, .int v1_105), (0, .ref (HB.size + 91))]) hx hb dX12_lettersCome_105 hl (k := 1) rfl (by rw [qq]; rfl) (by decide) rfl (fun ls hl => ?_)
    refine lv_goto (tgt := 2) hx hb dX12_lettersCome_108 (by decide) ?_
    exact hk2 σ H locs ls G23 G24 G25 q_102 v1_105  hI e23 e24 e25 e32 fr (lv_sub hl [1, 0] rfl) h
  have b2 : ∀ (fu : Nat) (σ : St) (H : Heap) (locs : List Loc) (ls : Array Slot) (G23 : Grp) (G24 : Grp) (G25 : Grp) (G32 : Grp) (v1 : Int32) , IV HB D y n n κ σ locs H → σ 23 = G23 → σ 24 = G24 → σ 25 = G25 → σ 32 = G32 → (∀ j, j ∉ W_X12_lettersCome → σ j = σ0 j) → lv_has ls 4 [(0, .ref (HB.size + 91)), (1, .int v1)] → f_X12_lettersCome_l2 F  fu G23 G24 G25 G32 v1 = some q → WX RM_X12_lettersCome p l e s m args below meth c HB none (B_X12_lettersCome HB D y n κ σ0 q) H locs (F0 m 2 ls []) := by
    intro  fu
    induction fu with
    | zero =>
      intro σ H locs ls G23 G24 G25 G32 v1 hI e23 e24 e25 e32 fr hl h
      exact absurd h (by intro h; cases h)
    | succ fu hk2 =>
      intro σ H locs ls G23 G24 G25 G32 v1 hI e23 e24 e25 e32 fr hl h
      have h : f_X12_lettersCome_l2b F  (f_X12_lettersCome_l2 F  fu) G23 G24 G25 G32 v1 = some q := h
      generalize f_X12_lettersCome_l2 F  fu = k2 at h hk2
      unfold f_X12_lettersCome_l2b at h
      refine lv_iload_n hx hb dX12_lettersCome_2 rfl (lv_at hl 1 rfl) ?_
      refine lv_aload_n hx hb dX12_lettersCome_3 rfl (lv_at hl 0 rfl) ?_
      refine gt_X12_431 hx hb hts hown hKK hI e32 (lc91 hN) (kc91 hk0) dX12_lettersCome_4 ?_
      refine lv_icmp_ge (tgt := 111) hx hb dX12_lettersCome_7 (by decide) (fun hc => ?_) (fun hc => ?_)
      · replace h := ite_t hc h
        have hq := Option.some.inj h
        exact W.vret hx hb hr (fun t ht hW => qc_mk (rfl) (by rw [ht]; exact ⟨σ, hI.nil, e32.trans (congrArg (fun z => z) hq), fr⟩)) hI.2.2 dX12_lettersCome_111 hlocks
      · replace h := ite_f hc h
        refine lv_aload_n hx hb dX12_lettersCome_10 rfl (lv_at hl 0 rfl) ?_
        refine gf_X12_133 hx hb hts hown hKK hI hN dX12_lettersCome_11 ?_
        refine lv_iload_n hx hb dX12_lettersCome_14 rfl (lv_at hl 1 rfl) ?_
        obtain ⟨hin_, h⟩ := ck_e h
        refine la_57 hx hb hKK hI e32 (lc132 hN) (kc132 hk0) hin_ dX12_lettersCome_15 ?_
        obtain ⟨v2_16, qq, h⟩ := bn_e h
        refine topi qq ?_
        refine lv_istore_n (lv' := [(2, .int v2_16), (0, .ref (HB.size + 91)), (1, .int v1)]) hx hb dX12_lettersCome_16 rfl hl (by decide) rfl (fun ls hl => ?_)
        refine lv_aload_n hx hb dX12_lettersCome_17 rfl (lv_at hl 1 rfl) ?_
        refine gf_X12_19 hx hb hts hown hKK hI hN dX12_lettersCome_18 ?_
        refine lv_aload_n hx hb dX12_lettersCome_21 rfl (lv_at hl 1 rfl) ?_
        refine gf_X12_34 hx hb hts hown hKK hI hN dX12_lettersCome_22 ?_
        refine lv_iload_n hx hb dX12_lettersCome_25 rfl (lv_at hl 0 rfl) ?_
        obtain ⟨hin_, h⟩ := ck_e h
        refine la_44 hx hb hKK hI e25 (lc100 hN) (kc100 hk0) hin_ dX12_lettersCome_26 ?_
        obtain ⟨hin_, h⟩ := ck_e h
        refine la_43 hx hb hKK hI e24 (lc95 hN) (kc95 hk0) hin_ dX12_lettersCome_27 ?_
        obtain ⟨v3_28, qq, h⟩ := bn_e h
        refine topi qq ?_
        refine lv_istore_n (lv' := [(3, .int v3_28), (2, .int v2_16), (0, .ref (HB.size + 91)), (1, .int v1)]) hx hb dX12_lettersCome_28 rfl hl (by decide) rfl (fun ls hl => ?_)
        refine lv_aload_n hx hb dX12_lettersCome_29 rfl (lv_at hl 2 rfl) ?_
        refine gf_X12_142 hx hb hts hown hKK hI hN dX12_lettersCome_30 ?_
        refine lv_iload_n hx hb dX12_lettersCome_33 rfl (lv_at hl 3 rfl) ?_
        obtain ⟨hin_, h⟩ := ck_e h
        refine la_57 hx hb hKK hI e32 (lc135 hN) (kc135 hk0) hin_ dX12_lettersCome_34 ?_
        refine lv_iconst (v := 5) hx hb dX12_lettersCome_35 (by decide) ?_
        refine lv_icmp_ne (tgt := 105) hx hb dX12_lettersCome_36 (by decide) (fun hc => ?_) (fun hc => ?_)
        · replace h := ite_f hc h
          obtain ⟨v1_105, qq, h⟩ := bn_e h
          refine lv_iinc (v := v1_105) (lv' := [(1, .int v1_105), (3, .int v3_28), (2, .int v2_16), (0, .ref (HB.size + 91))]) hx hb dX12_lettersCome_105 hl (k := 3) rfl (by rw [qq]; rfl) (by decide) rfl (fun ls hl => ?_)
          refine lv_goto (tgt := 2) hx hb dX12_lettersCome_108 (by decide) ?_
          exact hk2 σ H locs ls G23 G24 G25 G32 v1_105  hI e23 e24 e25 e32 fr (lv_sub hl [3, 0] rfl) h
        · replace h := ite_t hc h
          refine lv_aload_n hx hb dX12_lettersCome_39 rfl (lv_at hl 2 rfl) ?_
          refine gt_X12_281 hx hb hts hown hKK hI e23 (lc91 hN) (kc91 hk0) dX12_lettersCome_40 ?_
          refine lv_aload_n hx hb dX12_lettersCome_43 rfl (lv_at hl 2 rfl) ?_
          refine gf_X12_145 hx hb hts hown hKK hI hN dX12_lettersCome_44 ?_
          refine lv_iload_n hx hb dX12_lettersCome_47 rfl (lv_at hl 3 rfl) ?_
          obtain ⟨hin_, h⟩ := ck_e h
          refine la_57 hx hb hKK hI e32 (lc136 hN) (kc136 hk0) hin_ dX12_lettersCome_48 ?_
          refine lv_isub hx hb dX12_lettersCome_49 ?_
          refine lv_aload_n hx hb dX12_lettersCome_50 rfl (lv_at hl 2 rfl) ?_
          refine gf_X12_7 hx hb hts hown hKK hI hN dX12_lettersCome_51 ?_
          refine lv_iload_n hx hb dX12_lettersCome_54 rfl (lv_at hl 0 rfl) ?_
          obtain ⟨hin_, h⟩ := ck_e h
          refine la_42 hx hb hKK hI e24 (lc92 hN) (kc92 hk0) hin_ dX12_lettersCome_55 ?_
          refine lv_icmp_lt (tgt := 105) hx hb dX12_lettersCome_56 (by decide) (fun hc => ?_) (fun hc => ?_)
          · replace h := ite_t hc h
            obtain ⟨v1_105, qq, h⟩ := bn_e h
            refine lv_iinc (v := v1_105) (lv' := [(1, .int v1_105), (3, .int v3_28), (2, .int v2_16), (0, .ref (HB.size + 91))]) hx hb dX12_lettersCome_105 hl (k := 3) rfl (by rw [qq]; rfl) (by decide) rfl (fun ls hl => ?_)
            refine lv_goto (tgt := 2) hx hb dX12_lettersCome_108 (by decide) ?_
            exact hk2 σ H locs ls G23 G24 G25 G32 v1_105  hI e23 e24 e25 e32 fr (lv_sub hl [3, 0] rfl) h
          · replace h := ite_f hc h
            refine lv_aload_n hx hb dX12_lettersCome_59 rfl (lv_at hl 2 rfl) ?_
            refine gf_X12_13 hx hb hts hown hKK hI hN dX12_lettersCome_60 ?_
            refine lv_iload_n hx hb dX12_lettersCome_63 rfl (lv_at hl 0 rfl) ?_
            obtain ⟨hin_, h⟩ := ck_e h
            refine la_42 hx hb hKK hI e24 (lc93 hN) (kc93 hk0) hin_ dX12_lettersCome_64 ?_
            refine lv_aload_n hx hb dX12_lettersCome_65 rfl (lv_at hl 2 rfl) ?_
            refine gt_X12_281 hx hb hts hown hKK hI e23 (lc91 hN) (kc91 hk0) dX12_lettersCome_66 ?_
            refine lv_bipush (v := 30) hx hb dX12_lettersCome_69 (by decide) ?_
            refine lv_idiv hx hb dX12_lettersCome_71 (by decide) ?_
            refine lv_bipush (v := 12) hx hb dX12_lettersCome_72 (by decide) ?_
            refine lv_irem hx hb dX12_lettersCome_74 (by decide) ?_
            refine lv_ishr hx hb dX12_lettersCome_75 ?_
            refine lv_iconst (v := 1) hx hb dX12_lettersCome_76 (by decide) ?_
            refine lv_iand hx hb dX12_lettersCome_77 ?_
            refine lv_iconst (v := 1) hx hb dX12_lettersCome_78 (by decide) ?_
            refine lv_icmp_ne (tgt := 85) hx hb dX12_lettersCome_79 (by decide) (fun hc => ?_) (fun hc => ?_)
            · replace h := ite_f hc h
              refine lv_aload_n hx hb dX12_lettersCome_85 rfl (lv_at hl 2 rfl) ?_
              refine lv_iload_n hx hb dX12_lettersCome_86 rfl (lv_at hl 3 rfl) ?_
              refine lv_aload_n hx hb dX12_lettersCome_87 rfl (lv_at hl 2 rfl) ?_
              refine lv_iload_n hx hb dX12_lettersCome_88 rfl (lv_at hl 1 rfl) ?_
              obtain ⟨q_89, hq_89, h⟩ := ob_e h
              refine r_callV (As := [.int v2_16]) (rest := [.int v1, .ref (HB.size + 91)]) hx hb hml hts hown (c_X12_isOpen l HB D y F n κ σ hN v2_16 G25 e25 q_89 hq_89) cal_X12_isOpen im_X12_isOpen se_X12_isOpen lm_X12_277 ⟨Nat.le_of_ble_eq_true rfl, Nat.le_of_ble_eq_true rfl⟩ hI.nil hKK (r_recv hKK hI (hE12 HB.size y) rfl (lc91 hN) (kc91 hk0)) rfl hl.1 hI.2.2 rfl (Nat.le_of_ble_eq_true rfl) dX12_lettersCome_89 ⟨Nat.le_of_ble_eq_true rfl, Nat.le_of_ble_eq_true rfl⟩ rfl rfl rfl (fun H locs hB hlo => ?_)
              have hI := hB.re hlo
              refine lv_if_eq (tgt := 100) hx hb dX12_lettersCome_92 (by decide) (fun hc => ?_) (fun hc => ?_)
              · replace h := ite_t hc h
                refine lv_bipush (v := 7) hx hb dX12_lettersCome_100 (by decide) ?_
                exact b102 k2 hk2 σ H locs ls G23 G24 G25 G32 v1 v1 7  hI e23 e24 e25 e32 fr (lv_sub hl [2, 3] rfl) h
              · replace h := ite_f hc h
                refine lv_bipush (v := 6) hx hb dX12_lettersCome_95 (by decide) ?_
                refine lv_goto (tgt := 102) hx hb dX12_lettersCome_97 (by decide) ?_
                exact b102 k2 hk2 σ H locs ls G23 G24 G25 G32 v1 v1 6  hI e23 e24 e25 e32 fr (lv_sub hl [2, 3] rfl) h
            · replace h := ite_t hc h
              refine lv_goto (tgt := 105) hx hb dX12_lettersCome_82 (by decide) ?_
              obtain ⟨v1_105, qq, h⟩ := bn_e h
              refine lv_iinc (v := v1_105) (lv' := [(1, .int v1_105), (3, .int v3_28), (2, .int v2_16), (0, .ref (HB.size + 91))]) hx hb dX12_lettersCome_105 hl (k := 3) rfl (by rw [qq]; rfl) (by decide) rfl (fun ls hl => ?_)
              refine lv_goto (tgt := 2) hx hb dX12_lettersCome_108 (by decide) ?_
              exact hk2 σ H locs ls G23 G24 G25 G32 v1_105  hI e23 e24 e25 e32 fr (lv_sub hl [3, 0] rfl) h
  obtain ⟨σ, hI, e23, e24, e25, e32, fr⟩ : ∃ σ : St, IV HB D y n n κ σ [] s.heap ∧ σ 23 = G23 ∧ σ 24 = G24 ∧ σ 25 = G25 ∧ σ 32 = G32 ∧ ∀ j, j ∉ W_X12_lettersCome → σ j = σ0 j := ⟨σ0, hI, e23, e24, e25, e32, fun _ _ => rfl⟩
  show WX RM_X12_lettersCome p l e s m args below meth c HB none (B_X12_lettersCome HB D y n κ σ0 q) s.heap [] (F0 m 0 ls [])
  generalize s.heap = H at hI ⊢
  unfold f_X12_lettersCome at h
  obtain ⟨locs, hlocs⟩ : ∃ x : List Loc, x = [] := ⟨_, rfl⟩
  rw [← hlocs] at hI ⊢
  refine lv_iconst (v := 0) hx hb dX12_lettersCome_0 (by decide) ?_
  refine lv_istore_n (lv' := [(1, .int 0), (0, .ref (HB.size + 91))]) hx hb dX12_lettersCome_1 rfl hl (by decide) rfl (fun ls hl => ?_)
  exact b2  F σ H locs ls G23 G24 G25 G32 0  hI e23 e24 e25 e32 fr (lv_sub hl [1, 0] rfl) h
noncomputable def f_X12_sacksGo_l24b (F : Nat)  (k24 : Grp → Grp → Grp → Grp → Int32 → Int32 → Option (Grp × Grp)) (G23 : Grp) (G26 : Grp) (G32 : Grp) (G35 : Grp) (v1 : Int32) (v2 : Int32) : Option (Grp × Grp) :=
  if (G32.1 91 57) ≤ v2 then if v1 = 0 then some (G32, G35) else ck (G35.1 91 58) 1300 (bn (gI G35 144 (G35.1 91 58).toNatClampNeg (G23.1 91 0)) (fun G35_85 => ck 0 8 (ck (G35_85.1 91 58) 1300 (bn (gI G35_85 145 (G35_85.1 91 58).toNatClampNeg (G26.1 105 (0 : Int32).toNatClampNeg)) (fun G35_100 => ck (G35_100.1 91 58) 1300 (bn (gI G35_100 146 (G35_100.1 91 58).toNatClampNeg (vp_nar .boolean 1)) (fun G35_110 => bn (gI G35_110 91 58 ((G35_110.1 91 58) + 1)) (fun G35_118 => some (G32, G35_118))))))))) else ck v2 200 (if (G32.1 135 v2.toNatClampNeg) = 0 then ck v2 200 (bn (gI G32 137 v2.toNatClampNeg (G35.1 91 58)) (fun G32_55 => ob (f_X12_moves F G23 G32_55 v2 1) (fun q_59 => bn (v2 + 1) (fun v2_62 => k24 G23 G26 q_59 G35 1 v2_62)))) else bn (v2 + 1) (fun v2_62 => k24 G23 G26 G32 G35 v1 v2_62))
noncomputable def f_X12_sacksGo_l24 (F : Nat)  (fu : Nat) : Grp → Grp → Grp → Grp → Int32 → Int32 → Option (Grp × Grp) := Nat.rec (motive := fun _ => Grp → Grp → Grp → Grp → Int32 → Int32 → Option (Grp × Grp)) (fun _ _ _ _ _ _ => none) (fun _ ih => f_X12_sacksGo_l24b F  ih) fu
noncomputable def f_X12_sacksGo (F : Nat) (G23 : Grp) (G26 : Grp) (G32 : Grp) (G35 : Grp)  : Option (Grp × Grp) :=
  ck 1 8 (if (((G26.1 105 (1 : Int32).toNatClampNeg) >>> (((G23.1 91 0) - (G23.1 91 0) / 7 * 7) &&& 31)) &&& 1) = 0 then some (G32, G35) else f_X12_sacksGo_l24 F  F G23 G26 G32 G35 0 0)
def RM_X12_sacksGo : Room := { frames := 1, cells := 0, slots := 0, locals := 22 }
abbrev W_X12_sacksGo : List Nat := [32, 35]
abbrev B_X12_sacksGo (HB : Heap) (D : va_G) (y : Nat → ClassId) (n : Nat) (κ : Nat → Nat) (σ0 : St) (q : Grp × Grp) : Heap → Prop := fun H => ∃ σ : St, IV HB D y n n κ σ [] H ∧ σ 32 = q.1 ∧ σ 35 = q.2 ∧ ∀ j, j ∉ W_X12_sacksGo → σ j = σ0 j
set_option maxRecDepth 100000 in
set_option maxHeartbeats 4000000 in
theorem c_X12_sacksGo (l : Launch) (HB : Heap) (D : va_G) (y : Nat → ClassId) (F n : Nat) (κ : Nat → Nat) (σ0 : St) (hN : N0 ≤ n)  (G23 : Grp) (e23 : σ0 23 = G23) (G26 : Grp) (e26 : σ0 26 = G26) (G32 : Grp) (e32 : σ0 32 = G32) (G35 : Grp) (e35 : σ0 35 = G35) (q : Grp × Grp) (h : f_X12_sacksGo F G23 G26 G32 G35 = some q) : MT l HB D y yX12_sacksGo cX12_sacksGo 3 none RM_X12_sacksGo [.ref (HB.size + 91)] (IV HB D y n n κ σ0 []) none (B_X12_sacksGo HB D y n κ σ0 q) := by
  refine Met.ofW (cc := cX12_sacksGo) (maxL := 3) (ret := none) (by decide) rfl ?_
  intro p e s m args below meth c s₁ BL hml hv
  obtain ⟨rfl, hI, hKK⟩ := hv
  have hx := BL.exec
  have hb := BL.bytes
  have hr := BL.returns
  have hts : ∀ w ∈ gtb, w.before _ s = true := fun w hw => atoms_spec BL.pre w (List.mem_cons_of_mem _ hw)
  have hml : c.maxLocals = 3 := hml
  have hown : s.vm.findClass RX12 = some m.cls := findClass_of_methodNamed BL.named
  have hlocks := BL.notSynchronized
  have hk0 := hI.1.2.2.2.2
  have hl := lv_entry ([.ref (HB.size + 91)]) (n := 3) (Nat.le_of_ble_eq_true rfl)
  rw [lg_entry_eq]
  generalize (lg_sl ([.ref (HB.size + 91)]) ++ List.replicate (3 - (lg_sl ([.ref (HB.size + 91)])).length) Slot.unset).toArray = ls at hl ⊢
  have hl : lv_has ls 3 [(0, .ref (HB.size + 91))] := hl
  generalize hargs : ([.ref (HB.size + 91)] : List Value).toArray = args at *
  have b24 : ∀ (fu : Nat) (σ : St) (H : Heap) (locs : List Loc) (ls : Array Slot) (G23 : Grp) (G26 : Grp) (G32 : Grp) (G35 : Grp) (v1 : Int32) (v2 : Int32) , IV HB D y n n κ σ locs H → σ 23 = G23 → σ 26 = G26 → σ 32 = G32 → σ 35 = G35 → (∀ j, j ∉ W_X12_sacksGo → σ j = σ0 j) → lv_has ls 3 [(0, .ref (HB.size + 91)), (1, .int v1), (2, .int v2)] → f_X12_sacksGo_l24 F  fu G23 G26 G32 G35 v1 v2 = some q → WX RM_X12_sacksGo p l e s m args below meth c HB none (B_X12_sacksGo HB D y n κ σ0 q) H locs (F0 m 24 ls []) := by
    intro  fu
    induction fu with
    | zero =>
      intro σ H locs ls G23 G26 G32 G35 v1 v2 hI e23 e26 e32 e35 fr hl h
      exact absurd h (by intro h; cases h)
    | succ fu hk24 =>
      intro σ H locs ls G23 G26 G32 G35 v1 v2 hI e23 e26 e32 e35 fr hl h
      have h : f_X12_sacksGo_l24b F  (f_X12_sacksGo_l24 F  fu) G23 G26 G32 G35 v1 v2 = some q := h
      generalize f_X12_sacksGo_l24 F  fu = k24 at h hk24
      unfold f_X12_sacksGo_l24b at h
      refine lv_iload_n hx hb dX12_sacksGo_24 rfl (lv_at hl 2 rfl) ?_
      refine lv_aload_n hx hb dX12_sacksGo_25 rfl (lv_at hl 0 rfl) ?_
      refine gt_X12_431 hx hb hts hown hKK hI e32 (lc91 hN) (kc91 hk0) dX12_sacksGo_26 ?_
      refine lv_icmp_ge (tgt := 68) hx hb dX12_sacksGo_29 (by decide) (fun hc => ?_) (fun hc => ?_)
      · replace h := ite_t hc h
        refine lv_iload_n hx hb dX12_sacksGo_68 rfl (lv_at hl 1 rfl) ?_
        refine lv_if_ne (tgt := 73) hx hb dX12_sacksGo_69 (by decide) (fun hc => ?_) (fun hc => ?_)
        · replace h := ite_f hc h
          refine lv_aload_n hx hb dX12_sacksGo_73 rfl (lv_at hl 0 rfl) ?_
          refine gf_X12_169 hx hb hts hown hKK hI hN dX12_sacksGo_74 ?_
          refine lv_aload_n hx hb dX12_sacksGo_77 rfl (lv_at hl 0 rfl) ?_
          refine gt_X12_470 hx hb hts hown hKK hI e35 (lc91 hN) (kc91 hk0) dX12_sacksGo_78 ?_
          refine lv_aload_n hx hb dX12_sacksGo_81 rfl (lv_at hl 0 rfl) ?_
          refine gt_X12_281 hx hb hts hown hKK hI e23 (lc91 hN) (kc91 hk0) dX12_sacksGo_82 ?_
          obtain ⟨hin_, h⟩ := ck_e h
          obtain ⟨G35_85, qq, h⟩ := bn_e h
          refine sa_61 hx hb hKK hI e35 (lc144 hN) (kc144 hk0) hin_ dX12_sacksGo_85 (fun σ H locs hI ew ho => ?_)
          have e35 := ew.trans qq.symm
          have e23 := (ho 23 (nn rfl)).trans e23
          have e26 := (ho 26 (nn rfl)).trans e26
          have e32 := (ho 32 (nn rfl)).trans e32
          have fr := frs fr ho (by decide)
          refine lv_aload_n hx hb dX12_sacksGo_86 rfl (lv_at hl 0 rfl) ?_
          refine gf_X12_172 hx hb hts hown hKK hI hN dX12_sacksGo_87 ?_
          refine lv_aload_n hx hb dX12_sacksGo_90 rfl (lv_at hl 0 rfl) ?_
          refine gt_X12_470 hx hb hts hown hKK hI e35 (lc91 hN) (kc91 hk0) dX12_sacksGo_91 ?_
          refine lv_aload_n hx hb dX12_sacksGo_94 rfl (lv_at hl 0 rfl) ?_
          refine gf_X12_49 hx hb hts hown hKK hI hN dX12_sacksGo_95 ?_
          refine lv_iconst (v := 0) hx hb dX12_sacksGo_98 (by decide) ?_
          obtain ⟨hin_, h⟩ := ck_e h
          refine la_45 hx hb hKK hI e26 (lc105 hN) (kc105 hk0) hin_ dX12_sacksGo_99 ?_
          obtain ⟨hin_, h⟩ := ck_e h
          obtain ⟨G35_100, qq, h⟩ := bn_e h
          refine sa_61 hx hb hKK hI e35 (lc145 hN) (kc145 hk0) hin_ dX12_sacksGo_100 (fun σ H locs hI ew ho => ?_)
          have e35 := ew.trans qq.symm
          have e23 := (ho 23 (nn rfl)).trans e23
          have e26 := (ho 26 (nn rfl)).trans e26
          have e32 := (ho 32 (nn rfl)).trans e32
          have fr := frs fr ho (by decide)
          refine lv_aload_n hx hb dX12_sacksGo_101 rfl (lv_at hl 0 rfl) ?_
          refine gf_X12_175 hx hb hts hown hKK hI hN dX12_sacksGo_102 ?_
          refine lv_aload_n hx hb dX12_sacksGo_105 rfl (lv_at hl 0 rfl) ?_
          refine gt_X12_470 hx hb hts hown hKK hI e35 (lc91 hN) (kc91 hk0) dX12_sacksGo_106 ?_
          refine lv_iconst (v := 1) hx hb dX12_sacksGo_109 (by decide) ?_
          obtain ⟨hin_, h⟩ := ck_e h
          obtain ⟨G35_110, qq, h⟩ := bn_e h
          refine sa_62 hx hb hKK hI e35 (lc146 hN) (kc146 hk0) hin_ dX12_sacksGo_110 (fun σ H locs hI ew ho => ?_)
          have e35 := ew.trans qq.symm
          have e23 := (ho 23 (nn rfl)).trans e23
          have e26 := (ho 26 (nn rfl)).trans e26
          have e32 := (ho 32 (nn rfl)).trans e32
          have fr := frs fr ho (by decide)
          refine lv_aload_n hx hb dX12_sacksGo_111 rfl (lv_at hl 0 rfl) ?_
          refine lv_aload_n hx hb dX12_sacksGo_112 rfl (lv_at hl 0 rfl) ?_
          refine gt_X12_470 hx hb hts hown hKK hI e35 (lc91 hN) (kc91 hk0) dX12_sacksGo_113 ?_
          refine lv_iconst (v := 1) hx hb dX12_sacksGo_116 (by decide) ?_
          refine lv_iadd hx hb dX12_sacksGo_117 ?_
          obtain ⟨G35_118, qq, h⟩ := bn_e h
          refine pt_X12_470 hx hb hts hown hKK hI e35 (lc91 hN) (kc91 hk0) dX12_sacksGo_118 (fun σ H locs hI ew ho => ?_)
          have e35 := ew.trans qq.symm
          have e23 := (ho 23 (nn rfl)).trans e23
          have e26 := (ho 26 (nn rfl)).trans e26
          have e32 := (ho 32 (nn rfl)).trans e32
          have fr := frs fr ho (by decide)
          have hq := Option.some.inj h
          exact W.vret hx hb hr (fun t ht hW => qc_mk (rfl) (by rw [ht]; exact ⟨σ, hI.nil, e32.trans (congrArg (fun z => z.1) hq), e35.trans (congrArg (fun z => z.2) hq), fr⟩)) hI.2.2 dX12_sacksGo_121 hlocks
        · replace h := ite_t hc h
          have hq := Option.some.inj h
          exact W.vret hx hb hr (fun t ht hW => qc_mk (rfl) (by rw [ht]; exact ⟨σ, hI.nil, e32.trans (congrArg (fun z => z.1) hq), e35.trans (congrArg (fun z => z.2) hq), fr⟩)) hI.2.2 dX12_sacksGo_72 hlocks
      · replace h := ite_f hc h
        refine lv_aload_n hx hb dX12_sacksGo_32 rfl (lv_at hl 0 rfl) ?_
        refine gf_X12_142 hx hb hts hown hKK hI hN dX12_sacksGo_33 ?_
        refine lv_iload_n hx hb dX12_sacksGo_36 rfl (lv_at hl 2 rfl) ?_
        obtain ⟨hin_, h⟩ := ck_e h
        refine la_57 hx hb hKK hI e32 (lc135 hN) (kc135 hk0) hin_ dX12_sacksGo_37 ?_
        refine lv_if_eq (tgt := 44) hx hb dX12_sacksGo_38 (by decide) (fun hc => ?_) (fun hc => ?_)
        · replace h := ite_t hc h
          refine lv_iconst (v := 1) hx hb dX12_sacksGo_44 (by decide) ?_
          refine lv_istore_n (lv' := [(1, .int 1), (0, .ref (HB.size + 91)), (2, .int v2)]) hx hb dX12_sacksGo_45 rfl hl (by decide) rfl (fun ls hl => ?_)
          refine lv_aload_n hx hb dX12_sacksGo_46 rfl (lv_at hl 1 rfl) ?_
          refine gf_X12_148 hx hb hts hown hKK hI hN dX12_sacksGo_47 ?_
          refine lv_iload_n hx hb dX12_sacksGo_50 rfl (lv_at hl 2 rfl) ?_
          refine lv_aload_n hx hb dX12_sacksGo_51 rfl (lv_at hl 1 rfl) ?_
          refine gt_X12_470 hx hb hts hown hKK hI e35 (lc91 hN) (kc91 hk0) dX12_sacksGo_52 ?_
          obtain ⟨hin_, h⟩ := ck_e h
          obtain ⟨G32_55, qq, h⟩ := bn_e h
          refine sa_57 hx hb hKK hI e32 (lc137 hN) (kc137 hk0) hin_ dX12_sacksGo_55 (fun σ H locs hI ew ho => ?_)
          have e32 := ew.trans qq.symm
          have e23 := (ho 23 (nn rfl)).trans e23
          have e26 := (ho 26 (nn rfl)).trans e26
          have e35 := (ho 35 (nn rfl)).trans e35
          have fr := frs fr ho (by decide)
          refine lv_aload_n hx hb dX12_sacksGo_56 rfl (lv_at hl 1 rfl) ?_
          refine lv_iload_n hx hb dX12_sacksGo_57 rfl (lv_at hl 2 rfl) ?_
          refine lv_iconst (v := 1) hx hb dX12_sacksGo_58 (by decide) ?_
          obtain ⟨q_59, hq_59, h⟩ := ob_e h
          refine r_callV (As := [.int v2, .int 1]) (rest := []) hx hb hml hts hown (c_X12_moves l HB D y F n κ σ hN v2 1 G23 e23 G32_55 e32 q_59 hq_59) cal_X12_moves im_X12_moves se_X12_moves lm_X12_455 ⟨Nat.le_of_ble_eq_true rfl, Nat.le_of_ble_eq_true rfl⟩ hI.nil hKK (r_recv hKK hI (hE12 HB.size y) rfl (lc91 hN) (kc91 hk0)) rfl hl.1 hI.2.2 rfl (Nat.le_of_ble_eq_true rfl) dX12_sacksGo_59 ⟨Nat.le_of_ble_eq_true rfl, Nat.le_of_ble_eq_true rfl⟩ rfl rfl rfl (fun H locs hB hlo => ?_)
          obtain ⟨σ, hB, en32, ho⟩ := hB
          have hI := hB.re hlo
          have e32 := en32
          have e23 := (ho 23 (ni rfl)).trans e23
          have e26 := (ho 26 (ni rfl)).trans e26
          have e35 := (ho 35 (ni rfl)).trans e35
          have fr := frc fr ho (by decide)
          obtain ⟨v2_62, qq, h⟩ := bn_e h
          refine lv_iinc (v := v2_62) (lv' := [(2, .int v2_62), (1, .int 1), (0, .ref (HB.size + 91))]) hx hb dX12_sacksGo_62 hl (k := 2) rfl (by rw [qq]; rfl) (by decide) rfl (fun ls hl => ?_)
          refine lv_goto (tgt := 24) hx hb dX12_sacksGo_65 (by decide) ?_
          exact hk24 σ H locs ls G23 G26 q_59 G35 1 v2_62  hI e23 e26 e32 e35 fr (lv_sub hl [2, 1, 0] rfl) h
        · replace h := ite_f hc h
          refine lv_goto (tgt := 62) hx hb dX12_sacksGo_41 (by decide) ?_
          obtain ⟨v2_62, qq, h⟩ := bn_e h
          refine lv_iinc (v := v2_62) (lv' := [(2, .int v2_62), (0, .ref (HB.size + 91)), (1, .int v1)]) hx hb dX12_sacksGo_62 hl (k := 2) rfl (by rw [qq]; rfl) (by decide) rfl (fun ls hl => ?_)
          refine lv_goto (tgt := 24) hx hb dX12_sacksGo_65 (by decide) ?_
          exact hk24 σ H locs ls G23 G26 G32 G35 v1 v2_62  hI e23 e26 e32 e35 fr (lv_sub hl [1, 2, 0] rfl) h
  obtain ⟨σ, hI, e23, e26, e32, e35, fr⟩ : ∃ σ : St, IV HB D y n n κ σ [] s.heap ∧ σ 23 = G23 ∧ σ 26 = G26 ∧ σ 32 = G32 ∧ σ 35 = G35 ∧ ∀ j, j ∉ W_X12_sacksGo → σ j = σ0 j := ⟨σ0, hI, e23, e26, e32, e35, fun _ _ => rfl⟩
  show WX RM_X12_sacksGo p l e s m args below meth c HB none (B_X12_sacksGo HB D y n κ σ0 q) s.heap [] (F0 m 0 ls [])
  generalize s.heap = H at hI ⊢
  unfold f_X12_sacksGo at h
  obtain ⟨locs, hlocs⟩ : ∃ x : List Loc, x = [] := ⟨_, rfl⟩
  rw [← hlocs] at hI ⊢
  refine lv_aload_n hx hb dX12_sacksGo_0 rfl (lv_at hl 0 rfl) ?_
  refine gf_X12_49 hx hb hts hown hKK hI hN dX12_sacksGo_1 ?_
  refine lv_iconst (v := 1) hx hb dX12_sacksGo_4 (by decide) ?_
  obtain ⟨hin_, h⟩ := ck_e h
  refine la_45 hx hb hKK hI e26 (lc105 hN) (kc105 hk0) hin_ dX12_sacksGo_5 ?_
  refine lv_aload_n hx hb dX12_sacksGo_6 rfl (lv_at hl 0 rfl) ?_
  refine gt_X12_281 hx hb hts hown hKK hI e23 (lc91 hN) (kc91 hk0) dX12_sacksGo_7 ?_
  refine lv_bipush (v := 7) hx hb dX12_sacksGo_10 (by decide) ?_
  refine lv_irem hx hb dX12_sacksGo_12 (by decide) ?_
  refine lv_ishr hx hb dX12_sacksGo_13 ?_
  refine lv_iconst (v := 1) hx hb dX12_sacksGo_14 (by decide) ?_
  refine lv_iand hx hb dX12_sacksGo_15 ?_
  refine lv_if_ne (tgt := 20) hx hb dX12_sacksGo_16 (by decide) (fun hc => ?_) (fun hc => ?_)
  · replace h := ite_f hc h
    refine lv_iconst (v := 0) hx hb dX12_sacksGo_20 (by decide) ?_
    refine lv_istore_n (lv' := [(1, .int 0), (0, .ref (HB.size + 91))]) hx hb dX12_sacksGo_21 rfl hl (by decide) rfl (fun ls hl => ?_)
    refine lv_iconst (v := 0) hx hb dX12_sacksGo_22 (by decide) ?_
    refine lv_istore_n (lv' := [(2, .int 0), (1, .int 0), (0, .ref (HB.size + 91))]) hx hb dX12_sacksGo_23 rfl hl (by decide) rfl (fun ls hl => ?_)
    exact b24  F σ H locs ls G23 G26 G32 G35 0 0  hI e23 e26 e32 e35 fr (lv_sub hl [2, 1, 0] rfl) h
  · replace h := ite_t hc h
    have hq := Option.some.inj h
    exact W.vret hx hb hr (fun t ht hW => qc_mk (rfl) (by rw [ht]; exact ⟨σ, hI.nil, e32.trans (congrArg (fun z => z.1) hq), e35.trans (congrArg (fun z => z.2) hq), fr⟩)) hI.2.2 dX12_sacksGo_19 hlocks
noncomputable def f_X12_day_l75b (F : Nat)  (k75 : Grp → Grp → Grp → Grp → Grp → Grp → Grp → Grp → Grp → Grp → Grp → Grp → Grp → Int32 → Option (Int32 × Grp × Grp × Grp × Grp × Grp × Grp × Grp × Grp)) (G23 : Grp) (G24 : Grp) (G25 : Grp) (G26 : Grp) (G29 : Grp) (G30 : Grp) (G32 : Grp) (G33 : Grp) (G34 : Grp) (G35 : Grp) (G36 : Grp) (G37 : Grp) (G38 : Grp) (v1 : Int32) : Option (Int32 × Grp × Grp × Grp × Grp × Grp × Grp × Grp × Grp) :=
  if (G32.1 91 57) ≤ v1 then some ((G23.1 91 0), G23, G25, G30, G32, G34, G35, G36, G38) else ck v1 200 (if 5 < (G32.1 135 v1.toNatClampNeg) then bn (v1 + 1) (fun v1_127 => k75 G23 G24 G25 G26 G29 G30 G32 G33 G34 G35 G36 G37 G38 v1_127) else ck v1 200 (ck v1 200 (ck ((6 * v1) + (G32.1 135 v1.toNatClampNeg)) 1200 (ck ((6 * v1) + (G32.1 135 v1.toNatClampNeg)) 1200 (bn (gI G34 142 ((6 * v1) + (G32.1 135 v1.toNatClampNeg)).toNatClampNeg ((G34.1 142 ((6 * v1) + (G32.1 135 v1.toNatClampNeg)).toNatClampNeg) + 1)) (fun G34_126 => bn (v1 + 1) (fun v1_127 => k75 G23 G24 G25 G26 G29 G30 G32 G33 G34_126 G35 G36 G37 G38 v1_127)))))))
noncomputable def f_X12_day_l75 (F : Nat)  (fu : Nat) : Grp → Grp → Grp → Grp → Grp → Grp → Grp → Grp → Grp → Grp → Grp → Grp → Grp → Int32 → Option (Int32 × Grp × Grp × Grp × Grp × Grp × Grp × Grp × Grp) := Nat.rec (motive := fun _ => Grp → Grp → Grp → Grp → Grp → Grp → Grp → Grp → Grp → Grp → Grp → Grp → Grp → Int32 → Option (Int32 × Grp × Grp × Grp × Grp × Grp × Grp × Grp × Grp)) (fun _ _ _ _ _ _ _ _ _ _ _ _ _ _ => none) (fun _ ih => f_X12_day_l75b F  ih) fu
noncomputable def f_X12_day_l28b (F : Nat)  (k28 : Grp → Grp → Grp → Grp → Grp → Grp → Grp → Grp → Grp → Grp → Grp → Grp → Grp → Int32 → Option (Int32 × Grp × Grp × Grp × Grp × Grp × Grp × Grp × Grp)) (G23 : Grp) (G24 : Grp) (G25 : Grp) (G26 : Grp) (G29 : Grp) (G30 : Grp) (G32 : Grp) (G33 : Grp) (G34 : Grp) (G35 : Grp) (G36 : Grp) (G37 : Grp) (G38 : Grp) (v1 : Int32) : Option (Int32 × Grp × Grp × Grp × Grp × Grp × Grp × Grp × Grp) :=
  ck 2 8 (if (G26.1 105 (2 : Int32).toNatClampNeg) ≤ v1 then ob (f_X12_turns F G23 G24 G25 G32 G37 G38) (fun q_62 => ob (f_X12_lettersCome F G23 G24 (q_62.1) (q_62.2.1)) (fun q_66 => ob (f_X12_sacksGo F G23 G26 q_66 G35) (fun q_70 => f_X12_day_l75 F  F G23 G24 (q_62.1) G26 G29 G30 (q_70.1) G33 G34 (q_70.2) G36 G37 (q_62.2.2) 0))) else ob (f_X12_nextIn F G32 2 (-1)) (fun q_41 => if q_41 = (-1) then bn (v1 + 1) (fun v1_55 => k28 G23 G24 G25 G26 G29 G30 G32 G33 G34 G35 G36 G37 G38 v1_55) else ob (f_X12_reads F G23 G24 G25 G26 G29 G30 G32 G33 G36 q_41) (fun q_52 => bn (v1 + 1) (fun v1_55 => k28 G23 G24 (q_52.1) G26 G29 (q_52.2.1) (q_52.2.2.1) G33 G34 G35 (q_52.2.2.2) G37 G38 v1_55))))
noncomputable def f_X12_day_l28 (F : Nat)  (fu : Nat) : Grp → Grp → Grp → Grp → Grp → Grp → Grp → Grp → Grp → Grp → Grp → Grp → Grp → Int32 → Option (Int32 × Grp × Grp × Grp × Grp × Grp × Grp × Grp × Grp) := Nat.rec (motive := fun _ => Grp → Grp → Grp → Grp → Grp → Grp → Grp → Grp → Grp → Grp → Grp → Grp → Grp → Int32 → Option (Int32 × Grp × Grp × Grp × Grp × Grp × Grp × Grp × Grp)) (fun _ _ _ _ _ _ _ _ _ _ _ _ _ _ => none) (fun _ ih => f_X12_day_l28b F  ih) fu
noncomputable def f_X12_day (F : Nat) (G23 : Grp) (G24 : Grp) (G25 : Grp) (G26 : Grp) (G29 : Grp) (G30 : Grp) (G32 : Grp) (G33 : Grp) (G34 : Grp) (G35 : Grp) (G36 : Grp) (G37 : Grp) (G38 : Grp)  : Option (Int32 × Grp × Grp × Grp × Grp × Grp × Grp × Grp × Grp) :=
  if (G23.1 91 0) = 3599 then some ((-1), G23, G25, G30, G32, G34, G35, G36, G38) else bn (gI G23 91 0 ((G23.1 91 0) + 1)) (fun G23_19 => ob (f_X12_sacksCome F G23_19 G32 G35) (fun q_23 => f_X12_day_l28 F  F G23_19 G24 G25 G26 G29 G30 (q_23.1) G33 G34 (q_23.2) G36 G37 G38 0))
def RM_X12_day : Room := { frames := 6, cells := 0, slots := 0, locals := 142 }
abbrev W_X12_day : List Nat := [23, 25, 30, 32, 34, 35, 36, 38]
abbrev B_X12_day (HB : Heap) (D : va_G) (y : Nat → ClassId) (n : Nat) (κ : Nat → Nat) (σ0 : St) (q : Int32 × Grp × Grp × Grp × Grp × Grp × Grp × Grp × Grp) : Heap → Prop := fun H => ∃ σ : St, IV HB D y n n κ σ [] H ∧ σ 23 = q.2.1 ∧ σ 25 = q.2.2.1 ∧ σ 30 = q.2.2.2.1 ∧ σ 32 = q.2.2.2.2.1 ∧ σ 34 = q.2.2.2.2.2.1 ∧ σ 35 = q.2.2.2.2.2.2.1 ∧ σ 36 = q.2.2.2.2.2.2.2.1 ∧ σ 38 = q.2.2.2.2.2.2.2.2 ∧ ∀ j, j ∉ W_X12_day → σ j = σ0 j
set_option maxRecDepth 100000 in
set_option maxHeartbeats 4000000 in
theorem c_X12_day (l : Launch) (HB : Heap) (D : va_G) (y : Nat → ClassId) (F n : Nat) (κ : Nat → Nat) (σ0 : St) (hN : N0 ≤ n)  (G23 : Grp) (e23 : σ0 23 = G23) (G24 : Grp) (e24 : σ0 24 = G24) (G25 : Grp) (e25 : σ0 25 = G25) (G26 : Grp) (e26 : σ0 26 = G26) (G29 : Grp) (e29 : σ0 29 = G29) (G30 : Grp) (e30 : σ0 30 = G30) (G32 : Grp) (e32 : σ0 32 = G32) (G33 : Grp) (e33 : σ0 33 = G33) (G34 : Grp) (e34 : σ0 34 = G34) (G35 : Grp) (e35 : σ0 35 = G35) (G36 : Grp) (e36 : σ0 36 = G36) (G37 : Grp) (e37 : σ0 37 = G37) (G38 : Grp) (e38 : σ0 38 = G38) (q : Int32 × Grp × Grp × Grp × Grp × Grp × Grp × Grp × Grp) (h : f_X12_day F G23 G24 G25 G26 G29 G30 G32 G33 G34 G35 G36 G37 G38 = some q) : MT l HB D y yX12_day cX12_day 3 (some .int) RM_X12_day [.ref (HB.size + 91)] (IV HB D y n n κ σ0 []) (some (.int q.1)) (B_X12_day HB D y n κ σ0 q) := by
  refine Met.ofW (cc := cX12_day) (maxL := 3) (ret := (some .int)) (by decide) rfl ?_
  intro p e s m args below meth c s₁ BL hml hv
  obtain ⟨rfl, hI, hKK⟩ := hv
  have hx := BL.exec
  have hb := BL.bytes
  have hr := BL.returns
  have hts : ∀ w ∈ gtb, w.before _ s = true := fun w hw => atoms_spec BL.pre w (List.mem_cons_of_mem _ hw)
  have hml : c.maxLocals = 3 := hml
  have hown : s.vm.findClass RX12 = some m.cls := findClass_of_methodNamed BL.named
  have hlocks := BL.notSynchronized
  have hk0 := hI.1.2.2.2.2
  have hl := lv_entry ([.ref (HB.size + 91)]) (n := 3) (Nat.le_of_ble_eq_true rfl)
  rw [lg_entry_eq]
  generalize (lg_sl ([.ref (HB.size + 91)]) ++ List.replicate (3 - (lg_sl ([.ref (HB.size + 91)])).length) Slot.unset).toArray = ls at hl ⊢
  have hl : lv_has ls 3 [(0, .ref (HB.size + 91))] := hl
  generalize hargs : ([.ref (HB.size + 91)] : List Value).toArray = args at *
  have b75 : ∀ (fu : Nat) (σ : St) (H : Heap) (locs : List Loc) (ls : Array Slot) (G23 : Grp) (G24 : Grp) (G25 : Grp) (G26 : Grp) (G29 : Grp) (G30 : Grp) (G32 : Grp) (G33 : Grp) (G34 : Grp) (G35 : Grp) (G36 : Grp) (G37 : Grp) (G38 : Grp) (v1 : Int32) , IV HB D y n n κ σ locs H → σ 23 = G23 → σ 24 = G24 → σ 25 = G25 → σ 26 = G26 → σ 29 = G29 → σ 30 = G30 → σ 32 = G32 → σ 33 = G33 → σ 34 = G34 → σ 35 = G35 → σ 36 = G36 → σ 37 = G37 → σ 38 = G38 → (∀ j, j ∉ W_X12_day → σ j = σ0 j) → lv_has ls 3 [(0, .ref (HB.size + 91)), (1, .int v1)] → f_X12_day_l75 F  fu G23 G24 G25 G26 G29 G30 G32 G33 G34 G35 G36 G37 G38 v1 = some q → WX RM_X12_day p l e s m args below meth c HB (some (.int q.1)) (B_X12_day HB D y n κ σ0 q) H locs (F0 m 75 ls []) := by
    intro  fu
    induction fu with
    | zero =>
      intro σ H locs ls G23 G24 G25 G26 G29 G30 G32 G33 G34 G35 G36 G37 G38 v1 hI e23 e24 e25 e26 e29 e30 e32 e33 e34 e35 e36 e37 e38 fr hl h
      exact absurd h (by intro h; cases h)
    | succ fu hk75 =>
      intro σ H locs ls G23 G24 G25 G26 G29 G30 G32 G33 G34 G35 G36 G37 G38 v1 hI e23 e24 e25 e26 e29 e30 e32 e33 e34 e35 e36 e37 e38 fr hl h
      have h : f_X12_day_l75b F  (f_X12_day_l75 F  fu) G23 G24 G25 G26 G29 G30 G32 G33 G34 G35 G36 G37 G38 v1 = some q := h
      generalize f_X12_day_l75 F  fu = k75 at h hk75
      unfold f_X12_day_l75b at h
      refine lv_iload_n hx hb dX12_day_75 rfl (lv_at hl 1 rfl) ?_
      refine lv_aload_n hx hb dX12_day_76 rfl (lv_at hl 0 rfl) ?_
      refine gt_X12_431 hx hb hts hown hKK hI e32 (lc91 hN) (kc91 hk0) dX12_day_77 ?_
      refine lv_icmp_ge (tgt := 133) hx hb dX12_day_80 (by decide) (fun hc => ?_) (fun hc => ?_)
      · replace h := ite_t hc h
        refine lv_aload_n hx hb dX12_day_133 rfl (lv_at hl 0 rfl) ?_
        refine gt_X12_281 hx hb hts hown hKK hI e23 (lc91 hN) (kc91 hk0) dX12_day_134 ?_
        have hq := Option.some.inj h
        exact W.iret (v := (G23.1 91 0)) hx hb hr (fun t ht hW => qc_mk (congrArg (fun z => Outcome.returned (some (Value.int z.1))) hq) (by rw [ht]; exact ⟨σ, hI.nil, e23.trans (congrArg (fun z => z.2.1) hq), e25.trans (congrArg (fun z => z.2.2.1) hq), e30.trans (congrArg (fun z => z.2.2.2.1) hq), e32.trans (congrArg (fun z => z.2.2.2.2.1) hq), e34.trans (congrArg (fun z => z.2.2.2.2.2.1) hq), e35.trans (congrArg (fun z => z.2.2.2.2.2.2.1) hq), e36.trans (congrArg (fun z => z.2.2.2.2.2.2.2.1) hq), e38.trans (congrArg (fun z => z.2.2.2.2.2.2.2.2) hq), fr⟩)) hI.2.2 dX12_day_137 hlocks
      · replace h := ite_f hc h
        refine lv_aload_n hx hb dX12_day_83 rfl (lv_at hl 0 rfl) ?_
        refine gf_X12_142 hx hb hts hown hKK hI hN dX12_day_84 ?_
        refine lv_iload_n hx hb dX12_day_87 rfl (lv_at hl 1 rfl) ?_
        obtain ⟨hin_, h⟩ := ck_e h
        refine la_57 hx hb hKK hI e32 (lc135 hN) (kc135 hk0) hin_ dX12_day_88 ?_
        refine lv_iconst (v := 5) hx hb dX12_day_89 (by decide) ?_
        refine lv_icmp_gt (tgt := 127) hx hb dX12_day_90 (by decide) (fun hc => ?_) (fun hc => ?_)
        · replace h := ite_t hc h
          obtain ⟨v1_127, qq, h⟩ := bn_e h
          refine lv_iinc (v := v1_127) (lv' := [(1, .int v1_127), (0, .ref (HB.size + 91))]) hx hb dX12_day_127 hl (k := 1) rfl (by rw [qq]; rfl) (by decide) rfl (fun ls hl => ?_)
          refine lv_goto (tgt := 75) hx hb dX12_day_130 (by decide) ?_
          exact hk75 σ H locs ls G23 G24 G25 G26 G29 G30 G32 G33 G34 G35 G36 G37 G38 v1_127  hI e23 e24 e25 e26 e29 e30 e32 e33 e34 e35 e36 e37 e38 fr (lv_sub hl [1, 0] rfl) h
        · replace h := ite_f hc h
          refine lv_aload_n hx hb dX12_day_93 rfl (lv_at hl 0 rfl) ?_
          refine gf_X12_163 hx hb hts hown hKK hI hN dX12_day_94 ?_
          refine lv_bipush (v := 6) hx hb dX12_day_97 (by decide) ?_
          refine lv_iload_n hx hb dX12_day_99 rfl (lv_at hl 1 rfl) ?_
          refine lv_imul hx hb dX12_day_100 ?_
          refine lv_aload_n hx hb dX12_day_101 rfl (lv_at hl 0 rfl) ?_
          refine gf_X12_142 hx hb hts hown hKK hI hN dX12_day_102 ?_
          refine lv_iload_n hx hb dX12_day_105 rfl (lv_at hl 1 rfl) ?_
          obtain ⟨hin_, h⟩ := ck_e h
          refine la_57 hx hb hKK hI e32 (lc135 hN) (kc135 hk0) hin_ dX12_day_106 ?_
          refine lv_iadd hx hb dX12_day_107 ?_
          refine lv_aload_n hx hb dX12_day_108 rfl (lv_at hl 0 rfl) ?_
          refine gf_X12_163 hx hb hts hown hKK hI hN dX12_day_109 ?_
          refine lv_bipush (v := 6) hx hb dX12_day_112 (by decide) ?_
          refine lv_iload_n hx hb dX12_day_114 rfl (lv_at hl 1 rfl) ?_
          refine lv_imul hx hb dX12_day_115 ?_
          refine lv_aload_n hx hb dX12_day_116 rfl (lv_at hl 0 rfl) ?_
          refine gf_X12_142 hx hb hts hown hKK hI hN dX12_day_117 ?_
          refine lv_iload_n hx hb dX12_day_120 rfl (lv_at hl 1 rfl) ?_
          obtain ⟨hin_, h⟩ := ck_e h
          refine la_57 hx hb hKK hI e32 (lc135 hN) (kc135 hk0) hin_ dX12_day_121 ?_
          refine lv_iadd hx hb dX12_day_122 ?_
          obtain ⟨hin_, h⟩ := ck_e h
          refine la_59 hx hb hKK hI e34 (lc142 hN) (kc142 hk0) hin_ dX12_day_123 ?_
          refine lv_iconst (v := 1) hx hb dX12_day_124 (by decide) ?_
          refine lv_iadd hx hb dX12_day_125 ?_
          obtain ⟨hin_, h⟩ := ck_e h
          obtain ⟨G34_126, qq, h⟩ := bn_e h
          refine sa_59 hx hb hKK hI e34 (lc142 hN) (kc142 hk0) hin_ dX12_day_126 (fun σ H locs hI ew ho => ?_)
          have e34 := ew.trans qq.symm
          have e23 := (ho 23 (nn rfl)).trans e23
          have e24 := (ho 24 (nn rfl)).trans e24
          have e25 := (ho 25 (nn rfl)).trans e25
          have e26 := (ho 26 (nn rfl)).trans e26
          have e29 := (ho 29 (nn rfl)).trans e29
          have e30 := (ho 30 (nn rfl)).trans e30
          have e32 := (ho 32 (nn rfl)).trans e32
          have e33 := (ho 33 (nn rfl)).trans e33
          have e35 := (ho 35 (nn rfl)).trans e35
          have e36 := (ho 36 (nn rfl)).trans e36
          have e37 := (ho 37 (nn rfl)).trans e37
          have e38 := (ho 38 (nn rfl)).trans e38
          have fr := frs fr ho (by decide)
          obtain ⟨v1_127, qq, h⟩ := bn_e h
          refine lv_iinc (v := v1_127) (lv' := [(1, .int v1_127), (0, .ref (HB.size + 91))]) hx hb dX12_day_127 hl (k := 1) rfl (by rw [qq]; rfl) (by decide) rfl (fun ls hl => ?_)
          refine lv_goto (tgt := 75) hx hb dX12_day_130 (by decide) ?_
          exact hk75 σ H locs ls G23 G24 G25 G26 G29 G30 G32 G33 G34_126 G35 G36 G37 G38 v1_127  hI e23 e24 e25 e26 e29 e30 e32 e33 e34 e35 e36 e37 e38 fr (lv_sub hl [1, 0] rfl) h
  have b28 : ∀ (fu : Nat) (σ : St) (H : Heap) (locs : List Loc) (ls : Array Slot) (G23 : Grp) (G24 : Grp) (G25 : Grp) (G26 : Grp) (G29 : Grp) (G30 : Grp) (G32 : Grp) (G33 : Grp) (G34 : Grp) (G35 : Grp) (G36 : Grp) (G37 : Grp) (G38 : Grp) (v1 : Int32) , IV HB D y n n κ σ locs H → σ 23 = G23 → σ 24 = G24 → σ 25 = G25 → σ 26 = G26 → σ 29 = G29 → σ 30 = G30 → σ 32 = G32 → σ 33 = G33 → σ 34 = G34 → σ 35 = G35 → σ 36 = G36 → σ 37 = G37 → σ 38 = G38 → (∀ j, j ∉ W_X12_day → σ j = σ0 j) → lv_has ls 3 [(0, .ref (HB.size + 91)), (1, .int v1)] → f_X12_day_l28 F  fu G23 G24 G25 G26 G29 G30 G32 G33 G34 G35 G36 G37 G38 v1 = some q → WX RM_X12_day p l e s m args below meth c HB (some (.int q.1)) (B_X12_day HB D y n κ σ0 q) H locs (F0 m 28 ls []) := by
    intro  fu
    induction fu with
    | zero =>
      intro σ H locs ls G23 G24 G25 G26 G29 G30 G32 G33 G34 G35 G36 G37 G38 v1 hI e23 e24 e25 e26 e29 e30 e32 e33 e34 e35 e36 e37 e38 fr hl h
      exact absurd h (by intro h; cases h)
    | succ fu hk28 =>
      intro σ H locs ls G23 G24 G25 G26 G29 G30 G32 G33 G34 G35 G36 G37 G38 v1 hI e23 e24 e25 e26 e29 e30 e32 e33 e34 e35 e36 e37 e38 fr hl h
      have h : f_X12_day_l28b F  (f_X12_day_l28 F  fu) G23 G24 G25 G26 G29 G30 G32 G33 G34 G35 G36 G37 G38 v1 = some q := h
      generalize f_X12_day_l28 F  fu = k28 at h hk28
      unfold f_X12_day_l28b at h
      refine lv_iload_n hx hb dX12_day_28 rfl (lv_at hl 1 rfl) ?_
      refine lv_aload_n hx hb dX12_day_29 rfl (lv_at hl 0 rfl) ?_
      refine gf_X12_49 hx hb hts hown hKK hI hN dX12_day_30 ?_
      refine lv_iconst (v := 2) hx hb dX12_day_33 (by decide) ?_
      obtain ⟨hin_, h⟩ := ck_e h
      refine la_45 hx hb hKK hI e26 (lc105 hN) (kc105 hk0) hin_ dX12_day_34 ?_
      refine lv_icmp_ge (tgt := 61) hx hb dX12_day_35 (by decide) (fun hc => ?_) (fun hc => ?_)
      · replace h := ite_t hc h
        refine lv_aload_n hx hb dX12_day_61 rfl (lv_at hl 0 rfl) ?_
        obtain ⟨q_62, hq_62, h⟩ := ob_e h
        refine r_callV (As := []) (rest := []) hx hb hml hts hown (c_X12_turns l HB D y F n κ σ hN  G23 e23 G24 e24 G25 e25 G32 e32 G37 e37 G38 e38 q_62 hq_62) cal_X12_turns im_X12_turns se_X12_turns lm_X12_507 ⟨Nat.le_of_ble_eq_true rfl, Nat.le_of_ble_eq_true rfl⟩ hI.nil hKK (r_recv hKK hI (hE12 HB.size y) rfl (lc91 hN) (kc91 hk0)) rfl hl.1 hI.2.2 rfl (Nat.le_of_ble_eq_true rfl) dX12_day_62 ⟨Nat.le_of_ble_eq_true rfl, Nat.le_of_ble_eq_true rfl⟩ rfl rfl rfl (fun H locs hB hlo => ?_)
        obtain ⟨σ, hB, en25, en32, en38, ho⟩ := hB
        have hI := hB.re hlo
        have e25 := en25
        have e32 := en32
        have e38 := en38
        have e23 := (ho 23 (ni rfl)).trans e23
        have e24 := (ho 24 (ni rfl)).trans e24
        have e26 := (ho 26 (ni rfl)).trans e26
        have e29 := (ho 29 (ni rfl)).trans e29
        have e30 := (ho 30 (ni rfl)).trans e30
        have e33 := (ho 33 (ni rfl)).trans e33
        have e34 := (ho 34 (ni rfl)).trans e34
        have e35 := (ho 35 (ni rfl)).trans e35
        have e36 := (ho 36 (ni rfl)).trans e36
        have e37 := (ho 37 (ni rfl)).trans e37
        have fr := frc fr ho (by decide)
        refine lv_aload_n hx hb dX12_day_65 rfl (lv_at hl 0 rfl) ?_
        obtain ⟨q_66, hq_66, h⟩ := ob_e h
        refine r_callV (As := []) (rest := []) hx hb hml hts hown (c_X12_lettersCome l HB D y F n κ σ hN  G23 e23 G24 e24 (q_62.1) e25 (q_62.2.1) e32 q_66 hq_66) cal_X12_lettersCome im_X12_lettersCome se_X12_lettersCome lm_X12_510 ⟨Nat.le_of_ble_eq_true rfl, Nat.le_of_ble_eq_true rfl⟩ hI.nil hKK (r_recv hKK hI (hE12 HB.size y) rfl (lc91 hN) (kc91 hk0)) rfl hl.1 hI.2.2 rfl (Nat.le_of_ble_eq_true rfl) dX12_day_66 ⟨Nat.le_of_ble_eq_true rfl, Nat.le_of_ble_eq_true rfl⟩ rfl rfl rfl (fun H locs hB hlo => ?_)
        obtain ⟨σ, hB, en32, ho⟩ := hB
        have hI := hB.re hlo
        have e32 := en32
        have e23 := (ho 23 (ni rfl)).trans e23
        have e24 := (ho 24 (ni rfl)).trans e24
        have e25 := (ho 25 (ni rfl)).trans e25
        have e26 := (ho 26 (ni rfl)).trans e26
        have e29 := (ho 29 (ni rfl)).trans e29
        have e30 := (ho 30 (ni rfl)).trans e30
        have e33 := (ho 33 (ni rfl)).trans e33
        have e34 := (ho 34 (ni rfl)).trans e34
        have e35 := (ho 35 (ni rfl)).trans e35
        have e36 := (ho 36 (ni rfl)).trans e36
        have e37 := (ho 37 (ni rfl)).trans e37
        have e38 := (ho 38 (ni rfl)).trans e38
        have fr := frc fr ho (by decide)
        refine lv_aload_n hx hb dX12_day_69 rfl (lv_at hl 0 rfl) ?_
        obtain ⟨q_70, hq_70, h⟩ := ob_e h
        refine r_callV (As := []) (rest := []) hx hb hml hts hown (c_X12_sacksGo l HB D y F n κ σ hN  G23 e23 G26 e26 q_66 e32 G35 e35 q_70 hq_70) cal_X12_sacksGo im_X12_sacksGo se_X12_sacksGo lm_X12_513 ⟨Nat.le_of_ble_eq_true rfl, Nat.le_of_ble_eq_true rfl⟩ hI.nil hKK (r_recv hKK hI (hE12 HB.size y) rfl (lc91 hN) (kc91 hk0)) rfl hl.1 hI.2.2 rfl (Nat.le_of_ble_eq_true rfl) dX12_day_70 ⟨Nat.le_of_ble_eq_true rfl, Nat.le_of_ble_eq_true rfl⟩ rfl rfl rfl (fun H locs hB hlo => ?_)
        obtain ⟨σ, hB, en32, en35, ho⟩ := hB
        have hI := hB.re hlo
        have e32 := en32
        have e35 := en35
        have e23 := (ho 23 (ni rfl)).trans e23
        have e24 := (ho 24 (ni rfl)).trans e24
        have e25 := (ho 25 (ni rfl)).trans e25
        have e26 := (ho 26 (ni rfl)).trans e26
        have e29 := (ho 29 (ni rfl)).trans e29
        have e30 := (ho 30 (ni rfl)).trans e30
        have e33 := (ho 33 (ni rfl)).trans e33
        have e34 := (ho 34 (ni rfl)).trans e34
        have e36 := (ho 36 (ni rfl)).trans e36
        have e37 := (ho 37 (ni rfl)).trans e37
        have e38 := (ho 38 (ni rfl)).trans e38
        have fr := frc fr ho (by decide)
        refine lv_iconst (v := 0) hx hb dX12_day_73 (by decide) ?_
        refine lv_istore_n (lv' := [(1, .int 0), (0, .ref (HB.size + 91))]) hx hb dX12_day_74 rfl hl (by decide) rfl (fun ls hl => ?_)
        exact b75  F σ H locs ls G23 G24 (q_62.1) G26 G29 G30 (q_70.1) G33 G34 (q_70.2) G36 G37 (q_62.2.2) 0  hI e23 e24 e25 e26 e29 e30 e32 e33 e34 e35 e36 e37 e38 fr (lv_sub hl [1, 0] rfl) h
      · replace h := ite_f hc h
        refine lv_aload_n hx hb dX12_day_38 rfl (lv_at hl 0 rfl) ?_
        refine lv_iconst (v := 2) hx hb dX12_day_39 (by decide) ?_
        refine lv_iconst (v := (-1)) hx hb dX12_day_40 (by decide) ?_
        obtain ⟨q_41, hq_41, h⟩ := ob_e h
        refine r_callV (As := [.int 2, .int (-1)]) (rest := []) hx hb hml hts hown (c_X12_nextIn l HB D y F n κ σ hN 2 (-1) G32 e32 q_41 hq_41) cal_X12_nextIn im_X12_nextIn se_X12_nextIn lm_X12_489 ⟨Nat.le_of_ble_eq_true rfl, Nat.le_of_ble_eq_true rfl⟩ hI.nil hKK (r_recv hKK hI (hE12 HB.size y) rfl (lc91 hN) (kc91 hk0)) rfl hl.1 hI.2.2 rfl (Nat.le_of_ble_eq_true rfl) dX12_day_41 ⟨Nat.le_of_ble_eq_true rfl, Nat.le_of_ble_eq_true rfl⟩ rfl rfl rfl (fun H locs hB hlo => ?_)
        have hI := hB.re hlo
        refine lv_istore_n (lv' := [(2, .int q_41), (0, .ref (HB.size + 91)), (1, .int v1)]) hx hb dX12_day_44 rfl hl (by decide) rfl (fun ls hl => ?_)
        refine lv_iload_n hx hb dX12_day_45 rfl (lv_at hl 0 rfl) ?_
        refine lv_iconst (v := (-1)) hx hb dX12_day_46 (by decide) ?_
        refine lv_icmp_eq (tgt := 55) hx hb dX12_day_47 (by decide) (fun hc => ?_) (fun hc => ?_)
        · replace h := ite_t hc h
          obtain ⟨v1_55, qq, h⟩ := bn_e h
          refine lv_iinc (v := v1_55) (lv' := [(1, .int v1_55), (2, .int q_41), (0, .ref (HB.size + 91))]) hx hb dX12_day_55 hl (k := 2) rfl (by rw [qq]; rfl) (by decide) rfl (fun ls hl => ?_)
          refine lv_goto (tgt := 28) hx hb dX12_day_58 (by decide) ?_
          exact hk28 σ H locs ls G23 G24 G25 G26 G29 G30 G32 G33 G34 G35 G36 G37 G38 v1_55  hI e23 e24 e25 e26 e29 e30 e32 e33 e34 e35 e36 e37 e38 fr (lv_sub hl [2, 0] rfl) h
        · replace h := ite_f hc h
          refine lv_aload_n hx hb dX12_day_50 rfl (lv_at hl 1 rfl) ?_
          refine lv_iload_n hx hb dX12_day_51 rfl (lv_at hl 0 rfl) ?_
          obtain ⟨q_52, hq_52, h⟩ := ob_e h
          refine r_callV (As := [.int q_41]) (rest := []) hx hb hml hts hown (c_X12_reads l HB D y F n κ σ hN q_41 G23 e23 G24 e24 G25 e25 G26 e26 G29 e29 G30 e30 G32 e32 G33 e33 G36 e36 q_52 hq_52) cal_X12_reads im_X12_reads se_X12_reads lm_X12_504 ⟨Nat.le_of_ble_eq_true rfl, Nat.le_of_ble_eq_true rfl⟩ hI.nil hKK (r_recv hKK hI (hE12 HB.size y) rfl (lc91 hN) (kc91 hk0)) rfl hl.1 hI.2.2 rfl (Nat.le_of_ble_eq_true rfl) dX12_day_52 ⟨Nat.le_of_ble_eq_true rfl, Nat.le_of_ble_eq_true rfl⟩ rfl rfl rfl (fun H locs hB hlo => ?_)
          obtain ⟨σ, hB, en25, en30, en32, en36, ho⟩ := hB
          have hI := hB.re hlo
          have e25 := en25
          have e30 := en30
          have e32 := en32
          have e36 := en36
          have e23 := (ho 23 (ni rfl)).trans e23
          have e24 := (ho 24 (ni rfl)).trans e24
          have e26 := (ho 26 (ni rfl)).trans e26
          have e29 := (ho 29 (ni rfl)).trans e29
          have e33 := (ho 33 (ni rfl)).trans e33
          have e34 := (ho 34 (ni rfl)).trans e34
          have e35 := (ho 35 (ni rfl)).trans e35
          have e37 := (ho 37 (ni rfl)).trans e37
          have e38 := (ho 38 (ni rfl)).trans e38
          have fr := frc fr ho (by decide)
          obtain ⟨v1_55, qq, h⟩ := bn_e h
          refine lv_iinc (v := v1_55) (lv' := [(1, .int v1_55), (2, .int q_41), (0, .ref (HB.size + 91))]) hx hb dX12_day_55 hl (k := 2) rfl (by rw [qq]; rfl) (by decide) rfl (fun ls hl => ?_)
          refine lv_goto (tgt := 28) hx hb dX12_day_58 (by decide) ?_
          exact hk28 σ H locs ls G23 G24 (q_52.1) G26 G29 (q_52.2.1) (q_52.2.2.1) G33 G34 G35 (q_52.2.2.2) G37 G38 v1_55  hI e23 e24 e25 e26 e29 e30 e32 e33 e34 e35 e36 e37 e38 fr (lv_sub hl [2, 0] rfl) h
  obtain ⟨σ, hI, e23, e24, e25, e26, e29, e30, e32, e33, e34, e35, e36, e37, e38, fr⟩ : ∃ σ : St, IV HB D y n n κ σ [] s.heap ∧ σ 23 = G23 ∧ σ 24 = G24 ∧ σ 25 = G25 ∧ σ 26 = G26 ∧ σ 29 = G29 ∧ σ 30 = G30 ∧ σ 32 = G32 ∧ σ 33 = G33 ∧ σ 34 = G34 ∧ σ 35 = G35 ∧ σ 36 = G36 ∧ σ 37 = G37 ∧ σ 38 = G38 ∧ ∀ j, j ∉ W_X12_day → σ j = σ0 j := ⟨σ0, hI, e23, e24, e25, e26, e29, e30, e32, e33, e34, e35, e36, e37, e38, fun _ _ => rfl⟩
  show WX RM_X12_day p l e s m args below meth c HB (some (.int q.1)) (B_X12_day HB D y n κ σ0 q) s.heap [] (F0 m 0 ls [])
  generalize s.heap = H at hI ⊢
  unfold f_X12_day at h
  obtain ⟨locs, hlocs⟩ : ∃ x : List Loc, x = [] := ⟨_, rfl⟩
  rw [← hlocs] at hI ⊢
  refine lv_aload_n hx hb dX12_day_0 rfl (lv_at hl 0 rfl) ?_
  refine gt_X12_281 hx hb hts hown hKK hI e23 (lc91 hN) (kc91 hk0) dX12_day_1 ?_
  refine lv_sipush (v := 3599) hx hb dX12_day_4 (by decide) ?_
  refine lv_icmp_ne (tgt := 12) hx hb dX12_day_7 (by decide) (fun hc => ?_) (fun hc => ?_)
  · replace h := ite_f hc h
    refine lv_aload_n hx hb dX12_day_12 rfl (lv_at hl 0 rfl) ?_
    refine lv_aload_n hx hb dX12_day_13 rfl (lv_at hl 0 rfl) ?_
    refine gt_X12_281 hx hb hts hown hKK hI e23 (lc91 hN) (kc91 hk0) dX12_day_14 ?_
    refine lv_iconst (v := 1) hx hb dX12_day_17 (by decide) ?_
    refine lv_iadd hx hb dX12_day_18 ?_
    obtain ⟨G23_19, qq, h⟩ := bn_e h
    refine pt_X12_281 hx hb hts hown hKK hI e23 (lc91 hN) (kc91 hk0) dX12_day_19 (fun σ H locs hI ew ho => ?_)
    have e23 := ew.trans qq.symm
    have e24 := (ho 24 (nn rfl)).trans e24
    have e25 := (ho 25 (nn rfl)).trans e25
    have e26 := (ho 26 (nn rfl)).trans e26
    have e29 := (ho 29 (nn rfl)).trans e29
    have e30 := (ho 30 (nn rfl)).trans e30
    have e32 := (ho 32 (nn rfl)).trans e32
    have e33 := (ho 33 (nn rfl)).trans e33
    have e34 := (ho 34 (nn rfl)).trans e34
    have e35 := (ho 35 (nn rfl)).trans e35
    have e36 := (ho 36 (nn rfl)).trans e36
    have e37 := (ho 37 (nn rfl)).trans e37
    have e38 := (ho 38 (nn rfl)).trans e38
    have fr := frs fr ho (by decide)
    refine lv_aload_n hx hb dX12_day_22 rfl (lv_at hl 0 rfl) ?_
    obtain ⟨q_23, hq_23, h⟩ := ob_e h
    refine r_callV (As := []) (rest := []) hx hb hml hts hown (c_X12_sacksCome l HB D y F n κ σ hN  G23_19 e23 G32 e32 G35 e35 q_23 hq_23) cal_X12_sacksCome im_X12_sacksCome se_X12_sacksCome lm_X12_501 ⟨Nat.le_of_ble_eq_true rfl, Nat.le_of_ble_eq_true rfl⟩ hI.nil hKK (r_recv hKK hI (hE12 HB.size y) rfl (lc91 hN) (kc91 hk0)) rfl hl.1 hI.2.2 rfl (Nat.le_of_ble_eq_true rfl) dX12_day_23 ⟨Nat.le_of_ble_eq_true rfl, Nat.le_of_ble_eq_true rfl⟩ rfl rfl rfl (fun H locs hB hlo => ?_)
    obtain ⟨σ, hB, en32, en35, ho⟩ := hB
    have hI := hB.re hlo
    have e32 := en32
    have e35 := en35
    have e23 := (ho 23 (ni rfl)).trans e23
    have e24 := (ho 24 (ni rfl)).trans e24
    have e25 := (ho 25 (ni rfl)).trans e25
    have e26 := (ho 26 (ni rfl)).trans e26
    have e29 := (ho 29 (ni rfl)).trans e29
    have e30 := (ho 30 (ni rfl)).trans e30
    have e33 := (ho 33 (ni rfl)).trans e33
    have e34 := (ho 34 (ni rfl)).trans e34
    have e36 := (ho 36 (ni rfl)).trans e36
    have e37 := (ho 37 (ni rfl)).trans e37
    have e38 := (ho 38 (ni rfl)).trans e38
    have fr := frc fr ho (by decide)
    refine lv_iconst (v := 0) hx hb dX12_day_26 (by decide) ?_
    refine lv_istore_n (lv' := [(1, .int 0), (0, .ref (HB.size + 91))]) hx hb dX12_day_27 rfl hl (by decide) rfl (fun ls hl => ?_)
    exact b28  F σ H locs ls G23_19 G24 G25 G26 G29 G30 (q_23.1) G33 G34 (q_23.2) G36 G37 G38 0  hI e23 e24 e25 e26 e29 e30 e32 e33 e34 e35 e36 e37 e38 fr (lv_sub hl [1, 0] rfl) h
  · replace h := ite_t hc h
    refine lv_iconst (v := (-1)) hx hb dX12_day_10 (by decide) ?_
    have hq := Option.some.inj h
    exact W.iret (v := (-1)) hx hb hr (fun t ht hW => qc_mk (congrArg (fun z => Outcome.returned (some (Value.int z.1))) hq) (by rw [ht]; exact ⟨σ, hI.nil, e23.trans (congrArg (fun z => z.2.1) hq), e25.trans (congrArg (fun z => z.2.2.1) hq), e30.trans (congrArg (fun z => z.2.2.2.1) hq), e32.trans (congrArg (fun z => z.2.2.2.2.1) hq), e34.trans (congrArg (fun z => z.2.2.2.2.2.1) hq), e35.trans (congrArg (fun z => z.2.2.2.2.2.2.1) hq), e36.trans (congrArg (fun z => z.2.2.2.2.2.2.2.1) hq), e38.trans (congrArg (fun z => z.2.2.2.2.2.2.2.2) hq), fr⟩)) hI.2.2 dX12_day_11 hlocks
noncomputable def f_X12_lag_l15b (F : Nat)  (k15 : Grp → Grp → Int32 → Int32 → Int32 → Option (Int32)) (G32 : Grp) (G34 : Grp) (v1 : Int32) (v2 : Int32) (v3 : Int32) : Option (Int32) :=
  if (G32.1 91 57) ≤ v3 then some v2 else ck ((6 * v3) + v1) 1200 (bn ((v2 + (G34.1 142 ((6 * v3) + v1).toNatClampNeg))) (fun v2_36 => bn (v3 + 1) (fun v3_37 => k15 G32 G34 v1 v2_36 v3_37)))
noncomputable def f_X12_lag_l15 (F : Nat)  (fu : Nat) : Grp → Grp → Int32 → Int32 → Int32 → Option (Int32) := Nat.rec (motive := fun _ => Grp → Grp → Int32 → Int32 → Int32 → Option (Int32)) (fun _ _ _ _ _ => none) (fun _ ih => f_X12_lag_l15b F  ih) fu
noncomputable def f_X12_lag (F : Nat) (G32 : Grp) (G34 : Grp) (v1 : Int32) : Option (Int32) :=
  ob (f_X12_in F v1 0 5) (fun q_3 => if q_3 = 0 then some (-1) else f_X12_lag_l15 F  F G32 G34 v1 0 0)
def RM_X12_lag : Room := { frames := 1, cells := 0, slots := 0, locals := 22 }
abbrev B_X12_lag (HB : Heap) (D : va_G) (y : Nat → ClassId) (n : Nat) (κ : Nat → Nat) (σ : St) (q : Int32) : Heap → Prop := fun H => IV HB D y n n κ σ [] H
set_option maxRecDepth 100000 in
set_option maxHeartbeats 4000000 in
theorem c_X12_lag (l : Launch) (HB : Heap) (D : va_G) (y : Nat → ClassId) (F n : Nat) (κ : Nat → Nat) (σ : St) (hN : N0 ≤ n) (v1 : Int32)  (G32 : Grp) (e32 : σ 32 = G32) (G34 : Grp) (e34 : σ 34 = G34) (q : Int32) (h : f_X12_lag F G32 G34 v1 = some q) : MT l HB D y yX12_lag cX12_lag 4 (some .int) RM_X12_lag [.ref (HB.size + 91), .int v1] (IV HB D y n n κ σ []) (some (.int q)) (B_X12_lag HB D y n κ σ q) := by
  refine Met.ofW (cc := cX12_lag) (maxL := 4) (ret := (some .int)) (by decide) rfl ?_
  intro p e s m args below meth c s₁ BL hml hv
  obtain ⟨rfl, hI, hKK⟩ := hv
  have hx := BL.exec
  have hb := BL.bytes
  have hr := BL.returns
  have hts : ∀ w ∈ gtb, w.before _ s = true := fun w hw => atoms_spec BL.pre w (List.mem_cons_of_mem _ hw)
  have hml : c.maxLocals = 4 := hml
  have hown : s.vm.findClass RX12 = some m.cls := findClass_of_methodNamed BL.named
  have hlocks := BL.notSynchronized
  have hk0 := hI.1.2.2.2.2
  have hl := lv_entry ([.ref (HB.size + 91), .int v1]) (n := 4) (Nat.le_of_ble_eq_true rfl)
  rw [lg_entry_eq]
  generalize (lg_sl ([.ref (HB.size + 91), .int v1]) ++ List.replicate (4 - (lg_sl ([.ref (HB.size + 91), .int v1])).length) Slot.unset).toArray = ls at hl ⊢
  have hl : lv_has ls 4 [(0, .ref (HB.size + 91)), (1, .int v1)] := hl
  generalize hargs : ([.ref (HB.size + 91), .int v1] : List Value).toArray = args at *
  have b15 : ∀ (fu : Nat) (H : Heap) (locs : List Loc) (ls : Array Slot) (G32 : Grp) (G34 : Grp) (v1 : Int32) (v2 : Int32) (v3 : Int32) , IV HB D y n n κ σ locs H → σ 32 = G32 → σ 34 = G34 → lv_has ls 4 [(0, .ref (HB.size + 91)), (1, .int v1), (2, .int v2), (3, .int v3)] → f_X12_lag_l15 F  fu G32 G34 v1 v2 v3 = some q → WX RM_X12_lag p l e s m args below meth c HB (some (.int q)) (B_X12_lag HB D y n κ σ q) H locs (F0 m 15 ls []) := by
    intro  fu
    induction fu with
    | zero =>
      intro H locs ls G32 G34 v1 v2 v3 hI e32 e34 hl h
      exact absurd h (by intro h; cases h)
    | succ fu hk15 =>
      intro H locs ls G32 G34 v1 v2 v3 hI e32 e34 hl h
      have h : f_X12_lag_l15b F  (f_X12_lag_l15 F  fu) G32 G34 v1 v2 v3 = some q := h
      generalize f_X12_lag_l15 F  fu = k15 at h hk15
      unfold f_X12_lag_l15b at h
      refine lv_iload_n hx hb dX12_lag_15 rfl (lv_at hl 3 rfl) ?_
      refine lv_aload_n hx hb dX12_lag_16 rfl (lv_at hl 0 rfl) ?_
      refine gt_X12_431 hx hb hts hown hKK hI e32 (lc91 hN) (kc91 hk0) dX12_lag_17 ?_
      refine lv_icmp_ge (tgt := 43) hx hb dX12_lag_20 (by decide) (fun hc => ?_) (fun hc => ?_)
      · replace h := ite_t hc h
        refine lv_iload_n hx hb dX12_lag_43 rfl (lv_at hl 2 rfl) ?_
        have hq := Option.some.inj h
        exact W.iret (v := v2) hx hb hr (fun t ht hW => qc_mk (congrArg (fun z => Outcome.returned (some (Value.int z))) hq) (by rw [ht]; exact hI.nil)) hI.2.2 dX12_lag_44 hlocks
      · replace h := ite_f hc h
        refine lv_iload_n hx hb dX12_lag_23 rfl (lv_at hl 2 rfl) ?_
        refine lv_aload_n hx hb dX12_lag_24 rfl (lv_at hl 0 rfl) ?_
        refine gf_X12_163 hx hb hts hown hKK hI hN dX12_lag_25 ?_
        refine lv_bipush (v := 6) hx hb dX12_lag_28 (by decide) ?_
        refine lv_iload_n hx hb dX12_lag_30 rfl (lv_at hl 3 rfl) ?_
        refine lv_imul hx hb dX12_lag_31 ?_
        refine lv_iload_n hx hb dX12_lag_32 rfl (lv_at hl 1 rfl) ?_
        refine lv_iadd hx hb dX12_lag_33 ?_
        obtain ⟨hin_, h⟩ := ck_e h
        refine la_59 hx hb hKK hI e34 (lc142 hN) (kc142 hk0) hin_ dX12_lag_34 ?_
        refine lv_iadd hx hb dX12_lag_35 ?_
        obtain ⟨v2_36, qq, h⟩ := bn_e h
        refine topi qq ?_
        refine lv_istore_n (lv' := [(2, .int v2_36), (0, .ref (HB.size + 91)), (1, .int v1), (3, .int v3)]) hx hb dX12_lag_36 rfl hl (by decide) rfl (fun ls hl => ?_)
        obtain ⟨v3_37, qq, h⟩ := bn_e h
        refine lv_iinc (v := v3_37) (lv' := [(3, .int v3_37), (2, .int v2_36), (0, .ref (HB.size + 91)), (1, .int v1)]) hx hb dX12_lag_37 hl (k := 3) rfl (by rw [qq]; rfl) (by decide) rfl (fun ls hl => ?_)
        refine lv_goto (tgt := 15) hx hb dX12_lag_40 (by decide) ?_
        exact hk15 H locs ls G32 G34 v1 v2_36 v3_37  hI e32 e34 (lv_sub hl [2, 3, 1, 0] rfl) h
  show WX RM_X12_lag p l e s m args below meth c HB (some (.int q)) (B_X12_lag HB D y n κ σ q) s.heap [] (F0 m 0 ls [])
  generalize s.heap = H at hI ⊢
  unfold f_X12_lag at h
  obtain ⟨locs, hlocs⟩ : ∃ x : List Loc, x = [] := ⟨_, rfl⟩
  rw [← hlocs] at hI ⊢
  refine lv_iload_n hx hb dX12_lag_0 rfl (lv_at hl 1 rfl) ?_
  refine lv_iconst (v := 0) hx hb dX12_lag_1 (by decide) ?_
  refine lv_iconst (v := 5) hx hb dX12_lag_2 (by decide) ?_
  obtain ⟨q_3, hq_3, h⟩ := ob_e h
  refine r_callS (As := [.int v1, .int 0, .int 5]) (rest := []) hx hb hml hts hown (c_X12_in l HB D y F n κ σ hN v1 0 5  q_3 hq_3) cal_X12_in st_X12_in lm_X12_260 ⟨Nat.le_of_ble_eq_true rfl, Nat.le_of_ble_eq_true rfl⟩ hI.nil hKK rfl hl.1 hI.2.2 rfl (Nat.le_of_ble_eq_true rfl) dX12_lag_3 ⟨Nat.le_of_ble_eq_true rfl, Nat.le_of_ble_eq_true rfl⟩ rfl rfl rfl (fun H locs hB hlo => ?_)
  have hI := hB.re hlo
  refine lv_if_ne (tgt := 11) hx hb dX12_lag_6 (by decide) (fun hc => ?_) (fun hc => ?_)
  · replace h := ite_f hc h
    refine lv_iconst (v := 0) hx hb dX12_lag_11 (by decide) ?_
    refine lv_istore_n (lv' := [(2, .int 0), (0, .ref (HB.size + 91)), (1, .int v1)]) hx hb dX12_lag_12 rfl hl (by decide) rfl (fun ls hl => ?_)
    refine lv_iconst (v := 0) hx hb dX12_lag_13 (by decide) ?_
    refine lv_istore_n (lv' := [(3, .int 0), (2, .int 0), (0, .ref (HB.size + 91)), (1, .int v1)]) hx hb dX12_lag_14 rfl hl (by decide) rfl (fun ls hl => ?_)
    exact b15  F H locs ls G32 G34 v1 0 0  hI e32 e34 (lv_sub hl [2, 3, 1, 0] rfl) h
  · replace h := ite_t hc h
    refine lv_iconst (v := (-1)) hx hb dX12_lag_9 (by decide) ?_
    have hq := Option.some.inj h
    exact W.iret (v := (-1)) hx hb hr (fun t ht hW => qc_mk (congrArg (fun z => Outcome.returned (some (Value.int z))) hq) (by rw [ht]; exact hI.nil)) hI.2.2 dX12_lag_10 hlocks
noncomputable def f_X12_hints (F : Nat) (G25 : Grp) (v1 : Int32) : Option (Int32) :=
  ob (f_X12_isPair F G25 v1) (fun q_2 => if q_2 = 0 then some (-1) else ck v1 40 (some (G25.1 103 v1.toNatClampNeg)))
def RM_X12_hints : Room := { frames := 1, cells := 0, slots := 0, locals := 21 }
abbrev B_X12_hints (HB : Heap) (D : va_G) (y : Nat → ClassId) (n : Nat) (κ : Nat → Nat) (σ : St) (q : Int32) : Heap → Prop := fun H => IV HB D y n n κ σ [] H
set_option maxRecDepth 100000 in
set_option maxHeartbeats 4000000 in
theorem c_X12_hints (l : Launch) (HB : Heap) (D : va_G) (y : Nat → ClassId) (F n : Nat) (κ : Nat → Nat) (σ : St) (hN : N0 ≤ n) (v1 : Int32)  (G25 : Grp) (e25 : σ 25 = G25) (q : Int32) (h : f_X12_hints F G25 v1 = some q) : MT l HB D y yX12_hints cX12_hints 2 (some .int) RM_X12_hints [.ref (HB.size + 91), .int v1] (IV HB D y n n κ σ []) (some (.int q)) (B_X12_hints HB D y n κ σ q) := by
  refine Met.ofW (cc := cX12_hints) (maxL := 2) (ret := (some .int)) (by decide) rfl ?_
  intro p e s m args below meth c s₁ BL hml hv
  obtain ⟨rfl, hI, hKK⟩ := hv
  have hx := BL.exec
  have hb := BL.bytes
  have hr := BL.returns
  have hts : ∀ w ∈ gtb, w.before _ s = true := fun w hw => atoms_spec BL.pre w (List.mem_cons_of_mem _ hw)
  have hml : c.maxLocals = 2 := hml
  have hown : s.vm.findClass RX12 = some m.cls := findClass_of_methodNamed BL.named
  have hlocks := BL.notSynchronized
  have hk0 := hI.1.2.2.2.2
  have hl := lv_entry ([.ref (HB.size + 91), .int v1]) (n := 2) (Nat.le_of_ble_eq_true rfl)
  rw [lg_entry_eq]
  generalize (lg_sl ([.ref (HB.size + 91), .int v1]) ++ List.replicate (2 - (lg_sl ([.ref (HB.size + 91), .int v1])).length) Slot.unset).toArray = ls at hl ⊢
  have hl : lv_has ls 2 [(0, .ref (HB.size + 91)), (1, .int v1)] := hl
  generalize hargs : ([.ref (HB.size + 91), .int v1] : List Value).toArray = args at *
  show WX RM_X12_hints p l e s m args below meth c HB (some (.int q)) (B_X12_hints HB D y n κ σ q) s.heap [] (F0 m 0 ls [])
  generalize s.heap = H at hI ⊢
  unfold f_X12_hints at h
  obtain ⟨locs, hlocs⟩ : ∃ x : List Loc, x = [] := ⟨_, rfl⟩
  rw [← hlocs] at hI ⊢
  refine lv_aload_n hx hb dX12_hints_0 rfl (lv_at hl 0 rfl) ?_
  refine lv_iload_n hx hb dX12_hints_1 rfl (lv_at hl 1 rfl) ?_
  obtain ⟨q_2, hq_2, h⟩ := ob_e h
  refine r_callV (As := [.int v1]) (rest := []) hx hb hml hts hown (c_X12_isPair l HB D y F n κ σ hN v1 G25 e25 q_2 hq_2) cal_X12_isPair im_X12_isPair se_X12_isPair lm_X12_304 ⟨Nat.le_of_ble_eq_true rfl, Nat.le_of_ble_eq_true rfl⟩ hI.nil hKK (r_recv hKK hI (hE12 HB.size y) rfl (lc91 hN) (kc91 hk0)) rfl hl.1 hI.2.2 rfl (Nat.le_of_ble_eq_true rfl) dX12_hints_2 ⟨Nat.le_of_ble_eq_true rfl, Nat.le_of_ble_eq_true rfl⟩ rfl rfl rfl (fun H locs hB hlo => ?_)
  have hI := hB.re hlo
  refine lv_if_eq (tgt := 17) hx hb dX12_hints_5 (by decide) (fun hc => ?_) (fun hc => ?_)
  · replace h := ite_t hc h
    refine lv_iconst (v := (-1)) hx hb dX12_hints_17 (by decide) ?_
    have hq := Option.some.inj h
    exact W.iret (v := (-1)) hx hb hr (fun t ht hW => qc_mk (congrArg (fun z => Outcome.returned (some (Value.int z))) hq) (by rw [ht]; exact hI.nil)) hI.2.2 dX12_hints_18 hlocks
  · replace h := ite_f hc h
    refine lv_aload_n hx hb dX12_hints_8 rfl (lv_at hl 0 rfl) ?_
    refine gf_X12_43 hx hb hts hown hKK hI hN dX12_hints_9 ?_
    refine lv_iload_n hx hb dX12_hints_12 rfl (lv_at hl 1 rfl) ?_
    obtain ⟨hin_, h⟩ := ck_e h
    refine la_44 hx hb hKK hI e25 (lc103 hN) (kc103 hk0) hin_ dX12_hints_13 ?_
    refine lv_goto (tgt := 18) hx hb dX12_hints_14 (by decide) ?_
    have hq := Option.some.inj h
    exact W.iret (v := (G25.1 103 v1.toNatClampNeg)) hx hb hr (fun t ht hW => qc_mk (congrArg (fun z => Outcome.returned (some (Value.int z))) hq) (by rw [ht]; exact hI.nil)) hI.2.2 dX12_hints_18 hlocks
noncomputable def f_X12_about (F : Nat) (G32 : Grp) (G34 : Grp) (v1 : Int32) (v2 : Int32) : Option (Int32) :=
  ob (f_X12_isLetterThere F G32 v1) (fun q_2 => if q_2 = 0 then some (-1) else if v2 = 0 then ck v1 200 (some (G32.1 135 v1.toNatClampNeg)) else if v2 = 1 then ck v1 200 (some (G32.1 132 v1.toNatClampNeg)) else if v2 = 2 then ck v1 200 (some (G32.1 133 v1.toNatClampNeg)) else if v2 = 3 then ck v1 200 (some (G32.1 134 v1.toNatClampNeg)) else if v2 = 4 then ck v1 200 (some (G32.1 136 v1.toNatClampNeg)) else if v2 = 5 then ck v1 200 (some (G32.1 137 v1.toNatClampNeg)) else if v2 = 6 then ck v1 200 (some (G32.1 138 v1.toNatClampNeg)) else if v2 = 7 then ck v1 200 (some (G32.1 139 v1.toNatClampNeg)) else if v2 = 8 then ck v1 200 (some (G32.1 140 v1.toNatClampNeg)) else ob (f_X12_in F v2 10 15) (fun q_128 => if q_128 = 0 then ck v1 200 (ob (f_X12_in F v2 20 (19 + (G32.1 139 v1.toNatClampNeg))) (fun q_161 => if q_161 = 0 then some (-1) else ck (((160 * v1) + v2) - 20) 32000 (some (G32.1 143 (((160 * v1) + v2) - 20).toNatClampNeg)))) else ck (((6 * v1) + v2) - 10) 1200 (some (G34.1 142 (((6 * v1) + v2) - 10).toNatClampNeg))))
def RM_X12_about : Room := { frames := 1, cells := 0, slots := 0, locals := 22 }
abbrev B_X12_about (HB : Heap) (D : va_G) (y : Nat → ClassId) (n : Nat) (κ : Nat → Nat) (σ : St) (q : Int32) : Heap → Prop := fun H => IV HB D y n n κ σ [] H
set_option maxRecDepth 100000 in
set_option maxHeartbeats 4000000 in
theorem c_X12_about (l : Launch) (HB : Heap) (D : va_G) (y : Nat → ClassId) (F n : Nat) (κ : Nat → Nat) (σ : St) (hN : N0 ≤ n) (v1 : Int32)  (v2 : Int32)  (G32 : Grp) (e32 : σ 32 = G32) (G34 : Grp) (e34 : σ 34 = G34) (q : Int32) (h : f_X12_about F G32 G34 v1 v2 = some q) : MT l HB D y yX12_about cX12_about 3 (some .int) RM_X12_about [.ref (HB.size + 91), .int v1, .int v2] (IV HB D y n n κ σ []) (some (.int q)) (B_X12_about HB D y n κ σ q) := by
  refine Met.ofW (cc := cX12_about) (maxL := 3) (ret := (some .int)) (by decide) rfl ?_
  intro p e s m args below meth c s₁ BL hml hv
  obtain ⟨rfl, hI, hKK⟩ := hv
  have hx := BL.exec
  have hb := BL.bytes
  have hr := BL.returns
  have hts : ∀ w ∈ gtb, w.before _ s = true := fun w hw => atoms_spec BL.pre w (List.mem_cons_of_mem _ hw)
  have hml : c.maxLocals = 3 := hml
  have hown : s.vm.findClass RX12 = some m.cls := findClass_of_methodNamed BL.named
  have hlocks := BL.notSynchronized
  have hk0 := hI.1.2.2.2.2
  have hl := lv_entry ([.ref (HB.size + 91), .int v1, .int v2]) (n := 3) (Nat.le_of_ble_eq_true rfl)
  rw [lg_entry_eq]
  generalize (lg_sl ([.ref (HB.size + 91), .int v1, .int v2]) ++ List.replicate (3 - (lg_sl ([.ref (HB.size + 91), .int v1, .int v2])).length) Slot.unset).toArray = ls at hl ⊢
  have hl : lv_has ls 3 [(0, .ref (HB.size + 91)), (1, .int v1), (2, .int v2)] := hl
  generalize hargs : ([.ref (HB.size + 91), .int v1, .int v2] : List Value).toArray = args at *
  show WX RM_X12_about p l e s m args below meth c HB (some (.int q)) (B_X12_about HB D y n κ σ q) s.heap [] (F0 m 0 ls [])
  generalize s.heap = H at hI ⊢
  unfold f_X12_about at h
  obtain ⟨locs, hlocs⟩ : ∃ x : List Loc, x = [] := ⟨_, rfl⟩
  rw [← hlocs] at hI ⊢
  refine lv_aload_n hx hb dX12_about_0 rfl (lv_at hl 0 rfl) ?_
  refine lv_iload_n hx hb dX12_about_1 rfl (lv_at hl 1 rfl) ?_
  obtain ⟨q_2, hq_2, h⟩ := ob_e h
  refine r_callV (As := [.int v1]) (rest := []) hx hb hml hts hown (c_X12_isLetterThere l HB D y F n κ σ hN v1 G32 e32 q_2 hq_2) cal_X12_isLetterThere im_X12_isLetterThere se_X12_isLetterThere lm_X12_440 ⟨Nat.le_of_ble_eq_true rfl, Nat.le_of_ble_eq_true rfl⟩ hI.nil hKK (r_recv hKK hI (hE12 HB.size y) rfl (lc91 hN) (kc91 hk0)) rfl hl.1 hI.2.2 rfl (Nat.le_of_ble_eq_true rfl) dX12_about_2 ⟨Nat.le_of_ble_eq_true rfl, Nat.le_of_ble_eq_true rfl⟩ rfl rfl rfl (fun H locs hB hlo => ?_)
  have hI := hB.re hlo
  refine lv_if_ne (tgt := 10) hx hb dX12_about_5 (by decide) (fun hc => ?_) (fun hc => ?_)
  · replace h := ite_f hc h
    refine lv_iload_n hx hb dX12_about_10 rfl (lv_at hl 2 rfl) ?_
    by_cases hc0 : v2 = 0
    · replace h := ite_t hc0 h
      refine lv_tableIn (off := 49) (tgt := 60) hx hb dX12_about_11 (by rw [hc0]; decide) (by rw [hc0]; decide) (by rw [hc0]; decide) (by decide) ?_
      refine lv_aload_n hx hb dX12_about_60 rfl (lv_at hl 0 rfl) ?_
      refine gf_X12_142 hx hb hts hown hKK hI hN dX12_about_61 ?_
      refine lv_iload_n hx hb dX12_about_64 rfl (lv_at hl 1 rfl) ?_
      obtain ⟨hin_, h⟩ := ck_e h
      refine la_57 hx hb hKK hI e32 (lc135 hN) (kc135 hk0) hin_ dX12_about_65 ?_
      have hq := Option.some.inj h
      exact W.iret (v := (G32.1 135 v1.toNatClampNeg)) hx hb hr (fun t ht hW => qc_mk (congrArg (fun z => Outcome.returned (some (Value.int z))) hq) (by rw [ht]; exact hI.nil)) hI.2.2 dX12_about_66 hlocks
    · replace h := ite_f hc0 h
      by_cases hc1 : v2 = 1
      · replace h := ite_t hc1 h
        refine lv_tableIn (off := 56) (tgt := 67) hx hb dX12_about_11 (by rw [hc1]; decide) (by rw [hc1]; decide) (by rw [hc1]; decide) (by decide) ?_
        refine lv_aload_n hx hb dX12_about_67 rfl (lv_at hl 0 rfl) ?_
        refine gf_X12_133 hx hb hts hown hKK hI hN dX12_about_68 ?_
        refine lv_iload_n hx hb dX12_about_71 rfl (lv_at hl 1 rfl) ?_
        obtain ⟨hin_, h⟩ := ck_e h
        refine la_57 hx hb hKK hI e32 (lc132 hN) (kc132 hk0) hin_ dX12_about_72 ?_
        have hq := Option.some.inj h
        exact W.iret (v := (G32.1 132 v1.toNatClampNeg)) hx hb hr (fun t ht hW => qc_mk (congrArg (fun z => Outcome.returned (some (Value.int z))) hq) (by rw [ht]; exact hI.nil)) hI.2.2 dX12_about_73 hlocks
      · replace h := ite_f hc1 h
        by_cases hc2 : v2 = 2
        · replace h := ite_t hc2 h
          refine lv_tableIn (off := 63) (tgt := 74) hx hb dX12_about_11 (by rw [hc2]; decide) (by rw [hc2]; decide) (by rw [hc2]; decide) (by decide) ?_
          refine lv_aload_n hx hb dX12_about_74 rfl (lv_at hl 0 rfl) ?_
          refine gf_X12_136 hx hb hts hown hKK hI hN dX12_about_75 ?_
          refine lv_iload_n hx hb dX12_about_78 rfl (lv_at hl 1 rfl) ?_
          obtain ⟨hin_, h⟩ := ck_e h
          refine la_57 hx hb hKK hI e32 (lc133 hN) (kc133 hk0) hin_ dX12_about_79 ?_
          have hq := Option.some.inj h
          exact W.iret (v := (G32.1 133 v1.toNatClampNeg)) hx hb hr (fun t ht hW => qc_mk (congrArg (fun z => Outcome.returned (some (Value.int z))) hq) (by rw [ht]; exact hI.nil)) hI.2.2 dX12_about_80 hlocks
        · replace h := ite_f hc2 h
          by_cases hc3 : v2 = 3
          · replace h := ite_t hc3 h
            refine lv_tableIn (off := 70) (tgt := 81) hx hb dX12_about_11 (by rw [hc3]; decide) (by rw [hc3]; decide) (by rw [hc3]; decide) (by decide) ?_
            refine lv_aload_n hx hb dX12_about_81 rfl (lv_at hl 0 rfl) ?_
            refine gf_X12_139 hx hb hts hown hKK hI hN dX12_about_82 ?_
            refine lv_iload_n hx hb dX12_about_85 rfl (lv_at hl 1 rfl) ?_
            obtain ⟨hin_, h⟩ := ck_e h
            refine la_57 hx hb hKK hI e32 (lc134 hN) (kc134 hk0) hin_ dX12_about_86 ?_
            have hq := Option.some.inj h
            exact W.iret (v := (G32.1 134 v1.toNatClampNeg)) hx hb hr (fun t ht hW => qc_mk (congrArg (fun z => Outcome.returned (some (Value.int z))) hq) (by rw [ht]; exact hI.nil)) hI.2.2 dX12_about_87 hlocks
          · replace h := ite_f hc3 h
            by_cases hc4 : v2 = 4
            · replace h := ite_t hc4 h
              refine lv_tableIn (off := 77) (tgt := 88) hx hb dX12_about_11 (by rw [hc4]; decide) (by rw [hc4]; decide) (by rw [hc4]; decide) (by decide) ?_
              refine lv_aload_n hx hb dX12_about_88 rfl (lv_at hl 0 rfl) ?_
              refine gf_X12_145 hx hb hts hown hKK hI hN dX12_about_89 ?_
              refine lv_iload_n hx hb dX12_about_92 rfl (lv_at hl 1 rfl) ?_
              obtain ⟨hin_, h⟩ := ck_e h
              refine la_57 hx hb hKK hI e32 (lc136 hN) (kc136 hk0) hin_ dX12_about_93 ?_
              have hq := Option.some.inj h
              exact W.iret (v := (G32.1 136 v1.toNatClampNeg)) hx hb hr (fun t ht hW => qc_mk (congrArg (fun z => Outcome.returned (some (Value.int z))) hq) (by rw [ht]; exact hI.nil)) hI.2.2 dX12_about_94 hlocks
            · replace h := ite_f hc4 h
              by_cases hc5 : v2 = 5
              · replace h := ite_t hc5 h
                refine lv_tableIn (off := 84) (tgt := 95) hx hb dX12_about_11 (by rw [hc5]; decide) (by rw [hc5]; decide) (by rw [hc5]; decide) (by decide) ?_
                refine lv_aload_n hx hb dX12_about_95 rfl (lv_at hl 0 rfl) ?_
                refine gf_X12_148 hx hb hts hown hKK hI hN dX12_about_96 ?_
                refine lv_iload_n hx hb dX12_about_99 rfl (lv_at hl 1 rfl) ?_
                obtain ⟨hin_, h⟩ := ck_e h
                refine la_57 hx hb hKK hI e32 (lc137 hN) (kc137 hk0) hin_ dX12_about_100 ?_
                have hq := Option.some.inj h
                exact W.iret (v := (G32.1 137 v1.toNatClampNeg)) hx hb hr (fun t ht hW => qc_mk (congrArg (fun z => Outcome.returned (some (Value.int z))) hq) (by rw [ht]; exact hI.nil)) hI.2.2 dX12_about_101 hlocks
              · replace h := ite_f hc5 h
                by_cases hc6 : v2 = 6
                · replace h := ite_t hc6 h
                  refine lv_tableIn (off := 91) (tgt := 102) hx hb dX12_about_11 (by rw [hc6]; decide) (by rw [hc6]; decide) (by rw [hc6]; decide) (by decide) ?_
                  refine lv_aload_n hx hb dX12_about_102 rfl (lv_at hl 0 rfl) ?_
                  refine gf_X12_151 hx hb hts hown hKK hI hN dX12_about_103 ?_
                  refine lv_iload_n hx hb dX12_about_106 rfl (lv_at hl 1 rfl) ?_
                  obtain ⟨hin_, h⟩ := ck_e h
                  refine la_57 hx hb hKK hI e32 (lc138 hN) (kc138 hk0) hin_ dX12_about_107 ?_
                  have hq := Option.some.inj h
                  exact W.iret (v := (G32.1 138 v1.toNatClampNeg)) hx hb hr (fun t ht hW => qc_mk (congrArg (fun z => Outcome.returned (some (Value.int z))) hq) (by rw [ht]; exact hI.nil)) hI.2.2 dX12_about_108 hlocks
                · replace h := ite_f hc6 h
                  by_cases hc7 : v2 = 7
                  · replace h := ite_t hc7 h
                    refine lv_tableIn (off := 98) (tgt := 109) hx hb dX12_about_11 (by rw [hc7]; decide) (by rw [hc7]; decide) (by rw [hc7]; decide) (by decide) ?_
                    refine lv_aload_n hx hb dX12_about_109 rfl (lv_at hl 0 rfl) ?_
                    refine gf_X12_154 hx hb hts hown hKK hI hN dX12_about_110 ?_
                    refine lv_iload_n hx hb dX12_about_113 rfl (lv_at hl 1 rfl) ?_
                    obtain ⟨hin_, h⟩ := ck_e h
                    refine la_57 hx hb hKK hI e32 (lc139 hN) (kc139 hk0) hin_ dX12_about_114 ?_
                    have hq := Option.some.inj h
                    exact W.iret (v := (G32.1 139 v1.toNatClampNeg)) hx hb hr (fun t ht hW => qc_mk (congrArg (fun z => Outcome.returned (some (Value.int z))) hq) (by rw [ht]; exact hI.nil)) hI.2.2 dX12_about_115 hlocks
                  · replace h := ite_f hc7 h
                    by_cases hc8 : v2 = 8
                    · replace h := ite_t hc8 h
                      refine lv_tableIn (off := 105) (tgt := 116) hx hb dX12_about_11 (by rw [hc8]; decide) (by rw [hc8]; decide) (by rw [hc8]; decide) (by decide) ?_
                      refine lv_aload_n hx hb dX12_about_116 rfl (lv_at hl 0 rfl) ?_
                      refine gf_X12_157 hx hb hts hown hKK hI hN dX12_about_117 ?_
                      refine lv_iload_n hx hb dX12_about_120 rfl (lv_at hl 1 rfl) ?_
                      obtain ⟨hin_, h⟩ := ck_e h
                      refine la_57 hx hb hKK hI e32 (lc140 hN) (kc140 hk0) hin_ dX12_about_121 ?_
                      have hq := Option.some.inj h
                      exact W.iret (v := (G32.1 140 v1.toNatClampNeg)) hx hb hr (fun t ht hW => qc_mk (congrArg (fun z => Outcome.returned (some (Value.int z))) hq) (by rw [ht]; exact hI.nil)) hI.2.2 dX12_about_122 hlocks
                    · replace h := ite_f hc8 h
                      refine lv_tableOut (tgt := 123) hx hb dX12_about_11 (swo (fun j h1 h2 => ?_)) (by decide) ?_
                      · have hj : j = 0 ∨ j = 1 ∨ j = 2 ∨ j = 3 ∨ j = 4 ∨ j = 5 ∨ j = 6 ∨ j = 7 ∨ j = 8 := by omega
                        rcases hj with rfl | rfl | rfl | rfl | rfl | rfl | rfl | rfl | rfl
                        · exact lv_neT hc0 (by decide)
                        · exact lv_neT hc1 (by decide)
                        · exact lv_neT hc2 (by decide)
                        · exact lv_neT hc3 (by decide)
                        · exact lv_neT hc4 (by decide)
                        · exact lv_neT hc5 (by decide)
                        · exact lv_neT hc6 (by decide)
                        · exact lv_neT hc7 (by decide)
                        · exact lv_neT hc8 (by decide)
                      · refine lv_iload_n hx hb dX12_about_123 rfl (lv_at hl 2 rfl) ?_
                        refine lv_bipush (v := 10) hx hb dX12_about_124 (by decide) ?_
                        refine lv_bipush (v := 15) hx hb dX12_about_126 (by decide) ?_
                        obtain ⟨q_128, hq_128, h⟩ := ob_e h
                        refine r_callS (As := [.int v2, .int 10, .int 15]) (rest := []) hx hb hml hts hown (c_X12_in l HB D y F n κ σ hN v2 10 15  q_128 hq_128) cal_X12_in st_X12_in lm_X12_260 ⟨Nat.le_of_ble_eq_true rfl, Nat.le_of_ble_eq_true rfl⟩ hI.nil hKK rfl hl.1 hI.2.2 rfl (Nat.le_of_ble_eq_true rfl) dX12_about_128 ⟨Nat.le_of_ble_eq_true rfl, Nat.le_of_ble_eq_true rfl⟩ rfl rfl rfl (fun H locs hB hlo => ?_)
                        have hI := hB.re hlo
                        refine lv_if_eq (tgt := 149) hx hb dX12_about_131 (by decide) (fun hc => ?_) (fun hc => ?_)
                        · replace h := ite_t hc h
                          refine lv_iload_n hx hb dX12_about_149 rfl (lv_at hl 2 rfl) ?_
                          refine lv_bipush (v := 20) hx hb dX12_about_150 (by decide) ?_
                          refine lv_bipush (v := 19) hx hb dX12_about_152 (by decide) ?_
                          refine lv_aload_n hx hb dX12_about_154 rfl (lv_at hl 0 rfl) ?_
                          refine gf_X12_154 hx hb hts hown hKK hI hN dX12_about_155 ?_
                          refine lv_iload_n hx hb dX12_about_158 rfl (lv_at hl 1 rfl) ?_
                          obtain ⟨hin_, h⟩ := ck_e h
                          refine la_57 hx hb hKK hI e32 (lc139 hN) (kc139 hk0) hin_ dX12_about_159 ?_
                          refine lv_iadd hx hb dX12_about_160 ?_
                          obtain ⟨q_161, hq_161, h⟩ := ob_e h
                          refine r_callS (As := [.int v2, .int 20, .int (19 + (G32.1 139 v1.toNatClampNeg))]) (rest := []) hx hb hml hts hown (c_X12_in l HB D y F n κ σ hN v2 20 (19 + (G32.1 139 v1.toNatClampNeg))  q_161 hq_161) cal_X12_in st_X12_in lm_X12_260 ⟨Nat.le_of_ble_eq_true rfl, Nat.le_of_ble_eq_true rfl⟩ hI.nil hKK rfl hl.1 hI.2.2 rfl (Nat.le_of_ble_eq_true rfl) dX12_about_161 ⟨Nat.le_of_ble_eq_true rfl, Nat.le_of_ble_eq_true rfl⟩ rfl rfl rfl (fun H locs hB hlo => ?_)
                          have hI := hB.re hlo
                          refine lv_if_eq (tgt := 185) hx hb dX12_about_164 (by decide) (fun hc => ?_) (fun hc => ?_)
                          · replace h := ite_t hc h
                            refine lv_iconst (v := (-1)) hx hb dX12_about_185 (by decide) ?_
                            have hq := Option.some.inj h
                            exact W.iret (v := (-1)) hx hb hr (fun t ht hW => qc_mk (congrArg (fun z => Outcome.returned (some (Value.int z))) hq) (by rw [ht]; exact hI.nil)) hI.2.2 dX12_about_186 hlocks
                          · replace h := ite_f hc h
                            refine lv_aload_n hx hb dX12_about_167 rfl (lv_at hl 0 rfl) ?_
                            refine gf_X12_166 hx hb hts hown hKK hI hN dX12_about_168 ?_
                            refine lv_sipush (v := 160) hx hb dX12_about_171 (by decide) ?_
                            refine lv_iload_n hx hb dX12_about_174 rfl (lv_at hl 1 rfl) ?_
                            refine lv_imul hx hb dX12_about_175 ?_
                            refine lv_iload_n hx hb dX12_about_176 rfl (lv_at hl 2 rfl) ?_
                            refine lv_iadd hx hb dX12_about_177 ?_
                            refine lv_bipush (v := 20) hx hb dX12_about_178 (by decide) ?_
                            refine lv_isub hx hb dX12_about_180 ?_
                            obtain ⟨hin_, h⟩ := ck_e h
                            refine la_60 hx hb hKK hI e32 (lc143 hN) (kc143 hk0) hin_ dX12_about_181 ?_
                            refine lv_goto (tgt := 186) hx hb dX12_about_182 (by decide) ?_
                            have hq := Option.some.inj h
                            exact W.iret (v := (G32.1 143 (((160 * v1) + v2) - 20).toNatClampNeg)) hx hb hr (fun t ht hW => qc_mk (congrArg (fun z => Outcome.returned (some (Value.int z))) hq) (by rw [ht]; exact hI.nil)) hI.2.2 dX12_about_186 hlocks
                        · replace h := ite_f hc h
                          refine lv_aload_n hx hb dX12_about_134 rfl (lv_at hl 0 rfl) ?_
                          refine gf_X12_163 hx hb hts hown hKK hI hN dX12_about_135 ?_
                          refine lv_bipush (v := 6) hx hb dX12_about_138 (by decide) ?_
                          refine lv_iload_n hx hb dX12_about_140 rfl (lv_at hl 1 rfl) ?_
                          refine lv_imul hx hb dX12_about_141 ?_
                          refine lv_iload_n hx hb dX12_about_142 rfl (lv_at hl 2 rfl) ?_
                          refine lv_iadd hx hb dX12_about_143 ?_
                          refine lv_bipush (v := 10) hx hb dX12_about_144 (by decide) ?_
                          refine lv_isub hx hb dX12_about_146 ?_
                          obtain ⟨hin_, h⟩ := ck_e h
                          refine la_59 hx hb hKK hI e34 (lc142 hN) (kc142 hk0) hin_ dX12_about_147 ?_
                          have hq := Option.some.inj h
                          exact W.iret (v := (G34.1 142 (((6 * v1) + v2) - 10).toNatClampNeg)) hx hb hr (fun t ht hW => qc_mk (congrArg (fun z => Outcome.returned (some (Value.int z))) hq) (by rw [ht]; exact hI.nil)) hI.2.2 dX12_about_148 hlocks
  · replace h := ite_t hc h
    refine lv_iconst (v := (-1)) hx hb dX12_about_8 (by decide) ?_
    have hq := Option.some.inj h
    exact W.iret (v := (-1)) hx hb hr (fun t ht hW => qc_mk (congrArg (fun z => Outcome.returned (some (Value.int z))) hq) (by rw [ht]; exact hI.nil)) hI.2.2 dX12_about_9 hlocks
noncomputable def f_X12_hadNow (F : Nat) (G23 : Grp) (G39 : Grp) (v1 : Int32) : Option (Int32) :=
  ck v1 16 (if (G39.1 160 v1.toNatClampNeg) = ((G23.1 91 0) / 360) then ck v1 16 (some (G39.1 159 v1.toNatClampNeg)) else some 0)
def RM_X12_hadNow : Room := { frames := 0, cells := 0, slots := 0, locals := 0 }
abbrev B_X12_hadNow (HB : Heap) (D : va_G) (y : Nat → ClassId) (n : Nat) (κ : Nat → Nat) (σ : St) (q : Int32) : Heap → Prop := fun H => IV HB D y n n κ σ [] H
set_option maxRecDepth 100000 in
set_option maxHeartbeats 4000000 in
theorem c_X12_hadNow (l : Launch) (HB : Heap) (D : va_G) (y : Nat → ClassId) (F n : Nat) (κ : Nat → Nat) (σ : St) (hN : N0 ≤ n) (v1 : Int32)  (G23 : Grp) (e23 : σ 23 = G23) (G39 : Grp) (e39 : σ 39 = G39) (q : Int32) (h : f_X12_hadNow F G23 G39 v1 = some q) : MT l HB D y yX12_hadNow cX12_hadNow 2 (some .int) RM_X12_hadNow [.ref (HB.size + 91), .int v1] (IV HB D y n n κ σ []) (some (.int q)) (B_X12_hadNow HB D y n κ σ q) := by
  refine Met.ofW (cc := cX12_hadNow) (maxL := 2) (ret := (some .int)) (by decide) rfl ?_
  intro p e s m args below meth c s₁ BL hml hv
  obtain ⟨rfl, hI, hKK⟩ := hv
  have hx := BL.exec
  have hb := BL.bytes
  have hr := BL.returns
  have hts : ∀ w ∈ gtb, w.before _ s = true := fun w hw => atoms_spec BL.pre w (List.mem_cons_of_mem _ hw)
  have hml : c.maxLocals = 2 := hml
  have hown : s.vm.findClass RX12 = some m.cls := findClass_of_methodNamed BL.named
  have hlocks := BL.notSynchronized
  have hk0 := hI.1.2.2.2.2
  have hl := lv_entry ([.ref (HB.size + 91), .int v1]) (n := 2) (Nat.le_of_ble_eq_true rfl)
  rw [lg_entry_eq]
  generalize (lg_sl ([.ref (HB.size + 91), .int v1]) ++ List.replicate (2 - (lg_sl ([.ref (HB.size + 91), .int v1])).length) Slot.unset).toArray = ls at hl ⊢
  have hl : lv_has ls 2 [(0, .ref (HB.size + 91)), (1, .int v1)] := hl
  generalize hargs : ([.ref (HB.size + 91), .int v1] : List Value).toArray = args at *
  show WX RM_X12_hadNow p l e s m args below meth c HB (some (.int q)) (B_X12_hadNow HB D y n κ σ q) s.heap [] (F0 m 0 ls [])
  generalize s.heap = H at hI ⊢
  unfold f_X12_hadNow at h
  obtain ⟨locs, hlocs⟩ : ∃ x : List Loc, x = [] := ⟨_, rfl⟩
  rw [← hlocs] at hI ⊢
  refine lv_aload_n hx hb dX12_hadNow_0 rfl (lv_at hl 0 rfl) ?_
  refine gf_X12_218 hx hb hts hown hKK hI hN dX12_hadNow_1 ?_
  refine lv_iload_n hx hb dX12_hadNow_4 rfl (lv_at hl 1 rfl) ?_
  obtain ⟨hin_, h⟩ := ck_e h
  refine la_69 hx hb hKK hI e39 (lc160 hN) (kc160 hk0) hin_ dX12_hadNow_5 ?_
  refine lv_aload_n hx hb dX12_hadNow_6 rfl (lv_at hl 0 rfl) ?_
  refine gt_X12_281 hx hb hts hown hKK hI e23 (lc91 hN) (kc91 hk0) dX12_hadNow_7 ?_
  refine lv_sipush (v := 360) hx hb dX12_hadNow_10 (by decide) ?_
  refine lv_idiv hx hb dX12_hadNow_13 (by decide) ?_
  refine lv_icmp_ne (tgt := 26) hx hb dX12_hadNow_14 (by decide) (fun hc => ?_) (fun hc => ?_)
  · replace h := ite_f hc h
    refine lv_iconst (v := 0) hx hb dX12_hadNow_26 (by decide) ?_
    have hq := Option.some.inj h
    exact W.iret (v := 0) hx hb hr (fun t ht hW => qc_mk (congrArg (fun z => Outcome.returned (some (Value.int z))) hq) (by rw [ht]; exact hI.nil)) hI.2.2 dX12_hadNow_27 hlocks
  · replace h := ite_t hc h
    refine lv_aload_n hx hb dX12_hadNow_17 rfl (lv_at hl 0 rfl) ?_
    refine gf_X12_215 hx hb hts hown hKK hI hN dX12_hadNow_18 ?_
    refine lv_iload_n hx hb dX12_hadNow_21 rfl (lv_at hl 1 rfl) ?_
    obtain ⟨hin_, h⟩ := ck_e h
    refine la_69 hx hb hKK hI e39 (lc159 hN) (kc159 hk0) hin_ dX12_hadNow_22 ?_
    refine lv_goto (tgt := 27) hx hb dX12_hadNow_23 (by decide) ?_
    have hq := Option.some.inj h
    exact W.iret (v := (G39.1 159 v1.toNatClampNeg)) hx hb hr (fun t ht hW => qc_mk (congrArg (fun z => Outcome.returned (some (Value.int z))) hq) (by rw [ht]; exact hI.nil)) hI.2.2 dX12_hadNow_27 hlocks
