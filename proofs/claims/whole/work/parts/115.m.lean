noncomputable def f_X12_gift_b110 (F : Nat)  (G23 : Grp) (G24 : Grp) (G25 : Grp) (G26 : Grp) (G39 : Grp) (v2 : Int32) (v3 : Int32) (v4 : Int32) (v5 : Int32) (v6 : Int32) (s0 : Int32) : Option (Int32 × Grp) :=
  bn (gJ G39 91 86 ((G39.2.1 91 86) + v4.toInt64)) (fun G39_121 => ck v3 16 (ck v3 16 (ck (G24.1 95 v3.toNatClampNeg) 6 (ck (G24.1 95 v3.toNatClampNeg) 6 (bn (gJ G39_121 157 (G24.1 95 v3.toNatClampNeg).toNatClampNeg ((((G39_121.2.1 157 (G24.1 95 v3.toNatClampNeg).toNatClampNeg) + v5.toInt64) + v6.toInt64) - s0.toInt64)) (fun G39_157 => bn (gJ G39_157 91 87 ((G39_157.2.1 91 87) + v2.toInt64)) (fun G39_166 => ob (f_X12_hadNow F G23 G39_166 v3) (fun q_176 => ck v3 16 (bn (gI G39_166 159 v3.toNatClampNeg (q_176 + s0)) (fun G39_182 => ck v3 16 (bn (gI G39_182 160 v3.toNatClampNeg ((G23.1 91 0) / 360)) (fun G39_196 => ck v3 16 (ck v3 16 (bn (gJ G39_196 158 v3.toNatClampNeg ((G39_196.2.1 158 v3.toNatClampNeg) + s0.toInt64)) (fun G39_212 => some (s0, G39_212))))))))))))))))
noncomputable def f_X12_gift (F : Nat) (G23 : Grp) (G24 : Grp) (G25 : Grp) (G26 : Grp) (G39 : Grp) (v1 : Int32) (v2 : Int32) : Option (Int32 × Grp) :=
  ob (f_X12_isPair F G25 v1) (fun q_2 => if q_2 = 0 then some ((-1), G39) else ob (f_X12_isOpen F G25 v1) (fun q_10 => if q_10 = 0 then some ((-1), G39) else ob (f_X12_in F v2 1 1000000) (fun q_21 => if q_21 = 0 then some ((-1), G39) else ck v1 40 (bn ((G25.1 100 v1.toNatClampNeg)) (fun v3_35 => ck 5 8 (bn (((v2 * (G26.1 105 (5 : Int32).toNatClampNeg)) / 100)) (fun v4_47 => ck 6 8 (bn (((v2 * (G26.1 105 (6 : Int32).toNatClampNeg)) / 100)) (fun v5_61 => bn (((v2 - v4_47) - v5_61)) (fun v6_70 => ck 7 8 (ob (f_X12_hadNow F G23 G39 v3_35) (fun q_81 => bn (((G26.1 105 (7 : Int32).toNatClampNeg) - q_81)) (fun v7_85 => if 0 ≤ v7_85 then if v7_85 ≤ v6_70 then f_X12_gift_b110 F  G23 G24 G25 G26 G39 v2 v3_35 v4_47 v5_61 v6_70 v7_85 else f_X12_gift_b110 F  G23 G24 G25 G26 G39 v2 v3_35 v4_47 v5_61 v6_70 v6_70 else f_X12_gift_b110 F  G23 G24 G25 G26 G39 v2 v3_35 v4_47 v5_61 v6_70 0)))))))))))))
def RM_X12_gift : Room := { frames := 1, cells := 0, slots := 0, locals := 22 }
abbrev W_X12_gift : List Nat := [39]
abbrev B_X12_gift (HB : Heap) (D : va_G) (y : Nat → ClassId) (n : Nat) (κ : Nat → Nat) (σ0 : St) (q : Int32 × Grp) : Heap → Prop := fun H => ∃ σ : St, IV HB D y n n κ σ [] H ∧ σ 39 = q.2 ∧ ∀ j, j ∉ W_X12_gift → σ j = σ0 j
set_option maxRecDepth 100000 in
set_option maxHeartbeats 4000000 in
theorem c_X12_gift (l : Launch) (HB : Heap) (D : va_G) (y : Nat → ClassId) (F n : Nat) (κ : Nat → Nat) (σ0 : St) (hN : N0 ≤ n) (v1 : Int32)  (v2 : Int32)  (G23 : Grp) (e23 : σ0 23 = G23) (G24 : Grp) (e24 : σ0 24 = G24) (G25 : Grp) (e25 : σ0 25 = G25) (G26 : Grp) (e26 : σ0 26 = G26) (G39 : Grp) (e39 : σ0 39 = G39) (q : Int32 × Grp) (h : f_X12_gift F G23 G24 G25 G26 G39 v1 v2 = some q) : MT l HB D y yX12_gift cX12_gift 9 (some .int) RM_X12_gift [.ref (HB.size + 91), .int v1, .int v2] (IV HB D y n n κ σ0 []) (some (.int q.1)) (B_X12_gift HB D y n κ σ0 q) := by
  refine Met.ofW (cc := cX12_gift) (maxL := 9) (ret := (some .int)) (by decide) rfl ?_
  intro p e s m args below meth c s₁ BL hml hv
  obtain ⟨rfl, hI, hKK⟩ := hv
  have hx := BL.exec
  have hb := BL.bytes
  have hr := BL.returns
  have hts : ∀ w ∈ gtb, w.before _ s = true := fun w hw => atoms_spec BL.pre w (List.mem_cons_of_mem _ hw)
  have hml : c.maxLocals = 9 := hml
  have hown : s.vm.findClass RX12 = some m.cls := findClass_of_methodNamed BL.named
  have hlocks := BL.notSynchronized
  have hk0 := hI.1.2.2.2.2
  have hl := lv_entry ([.ref (HB.size + 91), .int v1, .int v2]) (n := 9) (Nat.le_of_ble_eq_true rfl)
  rw [lg_entry_eq]
  generalize (lg_sl ([.ref (HB.size + 91), .int v1, .int v2]) ++ List.replicate (9 - (lg_sl ([.ref (HB.size + 91), .int v1, .int v2])).length) Slot.unset).toArray = ls at hl ⊢
  have hl : lv_has ls 9 [(0, .ref (HB.size + 91)), (1, .int v1), (2, .int v2)] := hl
  generalize hargs : ([.ref (HB.size + 91), .int v1, .int v2] : List Value).toArray = args at *
  have b110 : ∀ (σ : St) (H : Heap) (locs : List Loc) (ls : Array Slot) (G23 : Grp) (G24 : Grp) (G25 : Grp) (G26 : Grp) (G39 : Grp) (v2 : Int32) (v3 : Int32) (v4 : Int32) (v5 : Int32) (v6 : Int32) (s0 : Int32) , IV HB D y n n κ σ locs H → σ 23 = G23 → σ 24 = G24 → σ 25 = G25 → σ 26 = G26 → σ 39 = G39 → (∀ j, j ∉ W_X12_gift → σ j = σ0 j) → lv_has ls 9 [(0, .ref (HB.size + 91)), (2, .int v2), (3, .int v3), (4, .int v4), (5, .int v5), (6, .int v6)] → f_X12_gift_b110 F  G23 G24 G25 G26 G39 v2 v3 v4 v5 v6 s0 = some q → WX RM_X12_gift p l e s m args below meth c HB (some (.int q.1)) (B_X12_gift HB D y n κ σ0 q) H locs (F0 m 110 ls [.int s0]) := by
    intro  σ H locs ls G23 G24 G25 G26 G39 v2 v3 v4 v5 v6 s0 hI e23 e24 e25 e26 e39 fr hl h
    unfold f_X12_gift_b110 at h
    refine lv_istore (lv' := [(8, .int s0), (0, .ref (HB.size + 91)), (2, .int v2), (3, .int v3), (4, .int v4), (5, .int v5), (6, .int v6)]) hx hb dX12_gift_110 hl (by decide) rfl (fun ls hl => ?_)
    refine lv_aload_n hx hb dX12_gift_112 rfl (lv_at hl 1 rfl) ?_
    refine lv_aload_n hx hb dX12_gift_113 rfl (lv_at hl 1 rfl) ?_
    refine gt_X12_519 hx hb hts hown hKK hI e39 (lc91 hN) (kc91 hk0) dX12_gift_114 ?_
    refine lv_iload hx hb dX12_gift_117 (lv_at hl 4 rfl) ?_
    refine lv_i2l hx hb dX12_gift_119 rfl ?_
    refine lv_ladd hx hb dX12_gift_120 ?_
    obtain ⟨G39_121, qq, h⟩ := bn_e h
    refine pt_X12_519 hx hb hts hown hKK hI e39 (lc91 hN) (kc91 hk0) dX12_gift_121 (fun σ H locs hI ew ho => ?_)
    have e39 := ew.trans qq.symm
    have e23 := (ho 23 (nn rfl)).trans e23
    have e24 := (ho 24 (nn rfl)).trans e24
    have e25 := (ho 25 (nn rfl)).trans e25
    have e26 := (ho 26 (nn rfl)).trans e26
    have fr := frs fr ho (by decide)
    refine lv_aload_n hx hb dX12_gift_124 rfl (lv_at hl 1 rfl) ?_
    refine gf_X12_209 hx hb hts hown hKK hI hN dX12_gift_125 ?_
    refine lv_aload_n hx hb dX12_gift_128 rfl (lv_at hl 1 rfl) ?_
    refine gf_X12_19 hx hb hts hown hKK hI hN dX12_gift_129 ?_
    refine lv_iload_n hx hb dX12_gift_132 rfl (lv_at hl 3 rfl) ?_
    obtain ⟨hin_, h⟩ := ck_e h
    refine la_43 hx hb hKK hI e24 (lc95 hN) (kc95 hk0) hin_ dX12_gift_133 ?_
    refine lv_aload_n hx hb dX12_gift_134 rfl (lv_at hl 1 rfl) ?_
    refine gf_X12_209 hx hb hts hown hKK hI hN dX12_gift_135 ?_
    refine lv_aload_n hx hb dX12_gift_138 rfl (lv_at hl 1 rfl) ?_
    refine gf_X12_19 hx hb hts hown hKK hI hN dX12_gift_139 ?_
    refine lv_iload_n hx hb dX12_gift_142 rfl (lv_at hl 3 rfl) ?_
    obtain ⟨hin_, h⟩ := ck_e h
    refine la_43 hx hb hKK hI e24 (lc95 hN) (kc95 hk0) hin_ dX12_gift_143 ?_
    obtain ⟨hin_, h⟩ := ck_e h
    refine la_67 hx hb hKK hI e39 (lc157 hN) (kc157 hk0) hin_ dX12_gift_144 ?_
    refine lv_iload hx hb dX12_gift_145 (lv_at hl 5 rfl) ?_
    refine lv_i2l hx hb dX12_gift_147 rfl ?_
    refine lv_ladd hx hb dX12_gift_148 ?_
    refine lv_iload hx hb dX12_gift_149 (lv_at hl 6 rfl) ?_
    refine lv_i2l hx hb dX12_gift_151 rfl ?_
    refine lv_ladd hx hb dX12_gift_152 ?_
    refine lv_iload hx hb dX12_gift_153 (lv_at hl 0 rfl) ?_
    refine lv_i2l hx hb dX12_gift_155 rfl ?_
    refine lv_lsub hx hb dX12_gift_156 ?_
    obtain ⟨hin_, h⟩ := ck_e h
    obtain ⟨G39_157, qq, h⟩ := bn_e h
    refine sa_67 hx hb hKK hI e39 (lc157 hN) (kc157 hk0) hin_ dX12_gift_157 (fun σ H locs hI ew ho => ?_)
    have e39 := ew.trans qq.symm
    have e23 := (ho 23 (nn rfl)).trans e23
    have e24 := (ho 24 (nn rfl)).trans e24
    have e25 := (ho 25 (nn rfl)).trans e25
    have e26 := (ho 26 (nn rfl)).trans e26
    have fr := frs fr ho (by decide)
    refine lv_aload_n hx hb dX12_gift_158 rfl (lv_at hl 1 rfl) ?_
    refine lv_aload_n hx hb dX12_gift_159 rfl (lv_at hl 1 rfl) ?_
    refine gt_X12_523 hx hb hts hown hKK hI e39 (lc91 hN) (kc91 hk0) dX12_gift_160 ?_
    refine lv_iload_n hx hb dX12_gift_163 rfl (lv_at hl 2 rfl) ?_
    refine lv_i2l hx hb dX12_gift_164 rfl ?_
    refine lv_ladd hx hb dX12_gift_165 ?_
    obtain ⟨G39_166, qq, h⟩ := bn_e h
    refine pt_X12_523 hx hb hts hown hKK hI e39 (lc91 hN) (kc91 hk0) dX12_gift_166 (fun σ H locs hI ew ho => ?_)
    have e39 := ew.trans qq.symm
    have e23 := (ho 23 (nn rfl)).trans e23
    have e24 := (ho 24 (nn rfl)).trans e24
    have e25 := (ho 25 (nn rfl)).trans e25
    have e26 := (ho 26 (nn rfl)).trans e26
    have fr := frs fr ho (by decide)
    refine lv_aload_n hx hb dX12_gift_169 rfl (lv_at hl 1 rfl) ?_
    refine gf_X12_215 hx hb hts hown hKK hI hN dX12_gift_170 ?_
    refine lv_iload_n hx hb dX12_gift_173 rfl (lv_at hl 3 rfl) ?_
    refine lv_aload_n hx hb dX12_gift_174 rfl (lv_at hl 1 rfl) ?_
    refine lv_iload_n hx hb dX12_gift_175 rfl (lv_at hl 3 rfl) ?_
    obtain ⟨q_176, hq_176, h⟩ := ob_e h
    refine r_callV (As := [.int v3]) (rest := [.int v3, .ref (HB.size + 159)]) hx hb hml hts hown (c_X12_hadNow l HB D y F n κ σ hN v3 G23 e23 G39_166 e39 q_176 hq_176) cal_X12_hadNow im_X12_hadNow se_X12_hadNow lm_X12_516 ⟨Nat.le_of_ble_eq_true rfl, Nat.le_of_ble_eq_true rfl⟩ hI.nil hKK (r_recv hKK hI (hE12 HB.size y) rfl (lc91 hN) (kc91 hk0)) rfl hl.1 hI.2.2 rfl (Nat.le_of_ble_eq_true rfl) dX12_gift_176 ⟨Nat.le_of_ble_eq_true rfl, Nat.le_of_ble_eq_true rfl⟩ rfl rfl rfl (fun H locs hB hlo => ?_)
    have hI := hB.re hlo
    refine lv_iload hx hb dX12_gift_179 (lv_at hl 0 rfl) ?_
    refine lv_iadd hx hb dX12_gift_181 ?_
    obtain ⟨hin_, h⟩ := ck_e h
    obtain ⟨G39_182, qq, h⟩ := bn_e h
    refine sa_69 hx hb hKK hI e39 (lc159 hN) (kc159 hk0) hin_ dX12_gift_182 (fun σ H locs hI ew ho => ?_)
    have e39 := ew.trans qq.symm
    have e23 := (ho 23 (nn rfl)).trans e23
    have e24 := (ho 24 (nn rfl)).trans e24
    have e25 := (ho 25 (nn rfl)).trans e25
    have e26 := (ho 26 (nn rfl)).trans e26
    have fr := frs fr ho (by decide)
    refine lv_aload_n hx hb dX12_gift_183 rfl (lv_at hl 1 rfl) ?_
    refine gf_X12_218 hx hb hts hown hKK hI hN dX12_gift_184 ?_
    refine lv_iload_n hx hb dX12_gift_187 rfl (lv_at hl 3 rfl) ?_
    refine lv_aload_n hx hb dX12_gift_188 rfl (lv_at hl 1 rfl) ?_
    refine gt_X12_281 hx hb hts hown hKK hI e23 (lc91 hN) (kc91 hk0) dX12_gift_189 ?_
    refine lv_sipush (v := 360) hx hb dX12_gift_192 (by decide) ?_
    refine lv_idiv hx hb dX12_gift_195 (by decide) ?_
    obtain ⟨hin_, h⟩ := ck_e h
    obtain ⟨G39_196, qq, h⟩ := bn_e h
    refine sa_69 hx hb hKK hI e39 (lc160 hN) (kc160 hk0) hin_ dX12_gift_196 (fun σ H locs hI ew ho => ?_)
    have e39 := ew.trans qq.symm
    have e23 := (ho 23 (nn rfl)).trans e23
    have e24 := (ho 24 (nn rfl)).trans e24
    have e25 := (ho 25 (nn rfl)).trans e25
    have e26 := (ho 26 (nn rfl)).trans e26
    have fr := frs fr ho (by decide)
    refine lv_aload_n hx hb dX12_gift_197 rfl (lv_at hl 1 rfl) ?_
    refine gf_X12_212 hx hb hts hown hKK hI hN dX12_gift_198 ?_
    refine lv_iload_n hx hb dX12_gift_201 rfl (lv_at hl 3 rfl) ?_
    refine lv_aload_n hx hb dX12_gift_202 rfl (lv_at hl 1 rfl) ?_
    refine gf_X12_212 hx hb hts hown hKK hI hN dX12_gift_203 ?_
    refine lv_iload_n hx hb dX12_gift_206 rfl (lv_at hl 3 rfl) ?_
    obtain ⟨hin_, h⟩ := ck_e h
    refine la_68 hx hb hKK hI e39 (lc158 hN) (kc158 hk0) hin_ dX12_gift_207 ?_
    refine lv_iload hx hb dX12_gift_208 (lv_at hl 0 rfl) ?_
    refine lv_i2l hx hb dX12_gift_210 rfl ?_
    refine lv_ladd hx hb dX12_gift_211 ?_
    obtain ⟨hin_, h⟩ := ck_e h
    obtain ⟨G39_212, qq, h⟩ := bn_e h
    refine sa_68 hx hb hKK hI e39 (lc158 hN) (kc158 hk0) hin_ dX12_gift_212 (fun σ H locs hI ew ho => ?_)
    have e39 := ew.trans qq.symm
    have e23 := (ho 23 (nn rfl)).trans e23
    have e24 := (ho 24 (nn rfl)).trans e24
    have e25 := (ho 25 (nn rfl)).trans e25
    have e26 := (ho 26 (nn rfl)).trans e26
    have fr := frs fr ho (by decide)
    refine lv_iload hx hb dX12_gift_213 (lv_at hl 0 rfl) ?_
    have hq := Option.some.inj h
    exact W.iret (v := s0) hx hb hr (fun t ht hW => qc_mk (congrArg (fun z => Outcome.returned (some (Value.int z.1))) hq) (by rw [ht]; exact ⟨σ, hI.nil, e39.trans (congrArg (fun z => z.2) hq), fr⟩)) hI.2.2 dX12_gift_215 hlocks
  obtain ⟨σ, hI, e23, e24, e25, e26, e39, fr⟩ : ∃ σ : St, IV HB D y n n κ σ [] s.heap ∧ σ 23 = G23 ∧ σ 24 = G24 ∧ σ 25 = G25 ∧ σ 26 = G26 ∧ σ 39 = G39 ∧ ∀ j, j ∉ W_X12_gift → σ j = σ0 j := ⟨σ0, hI, e23, e24, e25, e26, e39, fun _ _ => rfl⟩
  show WX RM_X12_gift p l e s m args below meth c HB (some (.int q.1)) (B_X12_gift HB D y n κ σ0 q) s.heap [] (F0 m 0 ls [])
  generalize s.heap = H at hI ⊢
  unfold f_X12_gift at h
  obtain ⟨locs, hlocs⟩ : ∃ x : List Loc, x = [] := ⟨_, rfl⟩
  rw [← hlocs] at hI ⊢
  refine lv_aload_n hx hb dX12_gift_0 rfl (lv_at hl 0 rfl) ?_
  refine lv_iload_n hx hb dX12_gift_1 rfl (lv_at hl 1 rfl) ?_
  obtain ⟨q_2, hq_2, h⟩ := ob_e h
  refine r_callV (As := [.int v1]) (rest := []) hx hb hml hts hown (c_X12_isPair l HB D y F n κ σ hN v1 G25 e25 q_2 hq_2) cal_X12_isPair im_X12_isPair se_X12_isPair lm_X12_304 ⟨Nat.le_of_ble_eq_true rfl, Nat.le_of_ble_eq_true rfl⟩ hI.nil hKK (r_recv hKK hI (hE12 HB.size y) rfl (lc91 hN) (kc91 hk0)) rfl hl.1 hI.2.2 rfl (Nat.le_of_ble_eq_true rfl) dX12_gift_2 ⟨Nat.le_of_ble_eq_true rfl, Nat.le_of_ble_eq_true rfl⟩ rfl rfl rfl (fun H locs hB hlo => ?_)
  have hI := hB.re hlo
  refine lv_if_eq (tgt := 27) hx hb dX12_gift_5 (by decide) (fun hc => ?_) (fun hc => ?_)
  · replace h := ite_t hc h
    refine lv_iconst (v := (-1)) hx hb dX12_gift_27 (by decide) ?_
    have hq := Option.some.inj h
    exact W.iret (v := (-1)) hx hb hr (fun t ht hW => qc_mk (congrArg (fun z => Outcome.returned (some (Value.int z.1))) hq) (by rw [ht]; exact ⟨σ, hI.nil, e39.trans (congrArg (fun z => z.2) hq), fr⟩)) hI.2.2 dX12_gift_28 hlocks
  · replace h := ite_f hc h
    refine lv_aload_n hx hb dX12_gift_8 rfl (lv_at hl 0 rfl) ?_
    refine lv_iload_n hx hb dX12_gift_9 rfl (lv_at hl 1 rfl) ?_
    obtain ⟨q_10, hq_10, h⟩ := ob_e h
    refine r_callV (As := [.int v1]) (rest := []) hx hb hml hts hown (c_X12_isOpen l HB D y F n κ σ hN v1 G25 e25 q_10 hq_10) cal_X12_isOpen im_X12_isOpen se_X12_isOpen lm_X12_277 ⟨Nat.le_of_ble_eq_true rfl, Nat.le_of_ble_eq_true rfl⟩ hI.nil hKK (r_recv hKK hI (hE12 HB.size y) rfl (lc91 hN) (kc91 hk0)) rfl hl.1 hI.2.2 rfl (Nat.le_of_ble_eq_true rfl) dX12_gift_10 ⟨Nat.le_of_ble_eq_true rfl, Nat.le_of_ble_eq_true rfl⟩ rfl rfl rfl (fun H locs hB hlo => ?_)
    have hI := hB.re hlo
    refine lv_if_eq (tgt := 27) hx hb dX12_gift_13 (by decide) (fun hc => ?_) (fun hc => ?_)
    · replace h := ite_t hc h
      refine lv_iconst (v := (-1)) hx hb dX12_gift_27 (by decide) ?_
      have hq := Option.some.inj h
      exact W.iret (v := (-1)) hx hb hr (fun t ht hW => qc_mk (congrArg (fun z => Outcome.returned (some (Value.int z.1))) hq) (by rw [ht]; exact ⟨σ, hI.nil, e39.trans (congrArg (fun z => z.2) hq), fr⟩)) hI.2.2 dX12_gift_28 hlocks
    · replace h := ite_f hc h
      refine lv_iload_n hx hb dX12_gift_16 rfl (lv_at hl 2 rfl) ?_
      refine lv_iconst (v := 1) hx hb dX12_gift_17 (by decide) ?_
      refine lv_ldcw (v := 1000000) hx hb hown (hts _ lk_X12_307) dX12_gift_18 ?_
      obtain ⟨q_21, hq_21, h⟩ := ob_e h
      refine r_callS (As := [.int v2, .int 1, .int 1000000]) (rest := []) hx hb hml hts hown (c_X12_in l HB D y F n κ σ hN v2 1 1000000  q_21 hq_21) cal_X12_in st_X12_in lm_X12_260 ⟨Nat.le_of_ble_eq_true rfl, Nat.le_of_ble_eq_true rfl⟩ hI.nil hKK rfl hl.1 hI.2.2 rfl (Nat.le_of_ble_eq_true rfl) dX12_gift_21 ⟨Nat.le_of_ble_eq_true rfl, Nat.le_of_ble_eq_true rfl⟩ rfl rfl rfl (fun H locs hB hlo => ?_)
      have hI := hB.re hlo
      refine lv_if_ne (tgt := 29) hx hb dX12_gift_24 (by decide) (fun hc => ?_) (fun hc => ?_)
      · replace h := ite_f hc h
        refine lv_aload_n hx hb dX12_gift_29 rfl (lv_at hl 0 rfl) ?_
        refine gf_X12_34 hx hb hts hown hKK hI hN dX12_gift_30 ?_
        refine lv_iload_n hx hb dX12_gift_33 rfl (lv_at hl 1 rfl) ?_
        obtain ⟨hin_, h⟩ := ck_e h
        refine la_44 hx hb hKK hI e25 (lc100 hN) (kc100 hk0) hin_ dX12_gift_34 ?_
        obtain ⟨v3_35, qq, h⟩ := bn_e h
        refine topi qq ?_
        refine lv_istore_n (lv' := [(3, .int v3_35), (0, .ref (HB.size + 91)), (1, .int v1), (2, .int v2)]) hx hb dX12_gift_35 rfl hl (by decide) rfl (fun ls hl => ?_)
        refine lv_iload_n hx hb dX12_gift_36 rfl (lv_at hl 3 rfl) ?_
        refine lv_aload_n hx hb dX12_gift_37 rfl (lv_at hl 1 rfl) ?_
        refine gf_X12_49 hx hb hts hown hKK hI hN dX12_gift_38 ?_
        refine lv_iconst (v := 5) hx hb dX12_gift_41 (by decide) ?_
        obtain ⟨hin_, h⟩ := ck_e h
        refine la_45 hx hb hKK hI e26 (lc105 hN) (kc105 hk0) hin_ dX12_gift_42 ?_
        refine lv_imul hx hb dX12_gift_43 ?_
        refine lv_bipush (v := 100) hx hb dX12_gift_44 (by decide) ?_
        refine lv_idiv hx hb dX12_gift_46 (by decide) ?_
        obtain ⟨v4_47, qq, h⟩ := bn_e h
        refine topi qq ?_
        refine lv_istore (lv' := [(4, .int v4_47), (3, .int v3_35), (0, .ref (HB.size + 91)), (1, .int v1), (2, .int v2)]) hx hb dX12_gift_47 hl (by decide) rfl (fun ls hl => ?_)
        refine lv_iload_n hx hb dX12_gift_49 rfl (lv_at hl 4 rfl) ?_
        refine lv_aload_n hx hb dX12_gift_50 rfl (lv_at hl 2 rfl) ?_
        refine gf_X12_49 hx hb hts hown hKK hI hN dX12_gift_51 ?_
        refine lv_bipush (v := 6) hx hb dX12_gift_54 (by decide) ?_
        obtain ⟨hin_, h⟩ := ck_e h
        refine la_45 hx hb hKK hI e26 (lc105 hN) (kc105 hk0) hin_ dX12_gift_56 ?_
        refine lv_imul hx hb dX12_gift_57 ?_
        refine lv_bipush (v := 100) hx hb dX12_gift_58 (by decide) ?_
        refine lv_idiv hx hb dX12_gift_60 (by decide) ?_
        obtain ⟨v5_61, qq, h⟩ := bn_e h
        refine topi qq ?_
        refine lv_istore (lv' := [(5, .int v5_61), (4, .int v4_47), (3, .int v3_35), (0, .ref (HB.size + 91)), (1, .int v1), (2, .int v2)]) hx hb dX12_gift_61 hl (by decide) rfl (fun ls hl => ?_)
        refine lv_iload_n hx hb dX12_gift_63 rfl (lv_at hl 5 rfl) ?_
        refine lv_iload hx hb dX12_gift_64 (lv_at hl 1 rfl) ?_
        refine lv_isub hx hb dX12_gift_66 ?_
        refine lv_iload hx hb dX12_gift_67 (lv_at hl 0 rfl) ?_
        refine lv_isub hx hb dX12_gift_69 ?_
        obtain ⟨v6_70, qq, h⟩ := bn_e h
        refine topi qq ?_
        refine lv_istore (lv' := [(6, .int v6_70), (5, .int v5_61), (4, .int v4_47), (3, .int v3_35), (0, .ref (HB.size + 91)), (1, .int v1), (2, .int v2)]) hx hb dX12_gift_70 hl (by decide) rfl (fun ls hl => ?_)
        refine lv_aload_n hx hb dX12_gift_72 rfl (lv_at hl 4 rfl) ?_
        refine gf_X12_49 hx hb hts hown hKK hI hN dX12_gift_73 ?_
        refine lv_bipush (v := 7) hx hb dX12_gift_76 (by decide) ?_
        obtain ⟨hin_, h⟩ := ck_e h
        refine la_45 hx hb hKK hI e26 (lc105 hN) (kc105 hk0) hin_ dX12_gift_78 ?_
        refine lv_aload_n hx hb dX12_gift_79 rfl (lv_at hl 4 rfl) ?_
        refine lv_iload_n hx hb dX12_gift_80 rfl (lv_at hl 3 rfl) ?_
        obtain ⟨q_81, hq_81, h⟩ := ob_e h
        refine r_callV (As := [.int v3_35]) (rest := [.int (G26.1 105 (7 : Int32).toNatClampNeg)]) hx hb hml hts hown (c_X12_hadNow l HB D y F n κ σ hN v3_35 G23 e23 G39 e39 q_81 hq_81) cal_X12_hadNow im_X12_hadNow se_X12_hadNow lm_X12_516 ⟨Nat.le_of_ble_eq_true rfl, Nat.le_of_ble_eq_true rfl⟩ hI.nil hKK (r_recv hKK hI (hE12 HB.size y) rfl (lc91 hN) (kc91 hk0)) rfl hl.1 hI.2.2 rfl (Nat.le_of_ble_eq_true rfl) dX12_gift_81 ⟨Nat.le_of_ble_eq_true rfl, Nat.le_of_ble_eq_true rfl⟩ rfl rfl rfl (fun H locs hB hlo => ?_)
        have hI := hB.re hlo
        refine lv_isub hx hb dX12_gift_84 ?_
        obtain ⟨v7_85, qq, h⟩ := bn_e h
        refine topi qq ?_
        refine lv_istore (lv' := [(7, .int v7_85), (6, .int v6_70), (5, .int v5_61), (4, .int v4_47), (3, .int v3_35), (0, .ref (HB.size + 91)), (1, .int v1), (2, .int v2)]) hx hb dX12_gift_85 hl (by decide) rfl (fun ls hl => ?_)
        refine lv_iload hx hb dX12_gift_87 (lv_at hl 0 rfl) ?_
        refine lv_if_ge (tgt := 96) hx hb dX12_gift_89 (by decide) (fun hc => ?_) (fun hc => ?_)
        · replace h := ite_t hc h
          refine lv_iload hx hb dX12_gift_96 (lv_at hl 1 rfl) ?_
          refine lv_iload hx hb dX12_gift_98 (lv_at hl 0 rfl) ?_
          refine lv_icmp_ge (tgt := 108) hx hb dX12_gift_100 (by decide) (fun hc => ?_) (fun hc => ?_)
          · replace h := ite_t hc h
            refine lv_iload hx hb dX12_gift_108 (lv_at hl 0 rfl) ?_
            exact b110  σ H locs ls G23 G24 G25 G26 G39 v2 v3_35 v4_47 v5_61 v6_70 v7_85  hI e23 e24 e25 e26 e39 fr (lv_sub hl [5, 7, 4, 3, 2, 1] rfl) h
          · replace h := ite_f hc h
            refine lv_iload hx hb dX12_gift_103 (lv_at hl 1 rfl) ?_
            refine lv_goto (tgt := 110) hx hb dX12_gift_105 (by decide) ?_
            exact b110  σ H locs ls G23 G24 G25 G26 G39 v2 v3_35 v4_47 v5_61 v6_70 v6_70  hI e23 e24 e25 e26 e39 fr (lv_sub hl [5, 7, 4, 3, 2, 1] rfl) h
        · replace h := ite_f hc h
          refine lv_iconst (v := 0) hx hb dX12_gift_92 (by decide) ?_
          refine lv_goto (tgt := 110) hx hb dX12_gift_93 (by decide) ?_
          exact b110  σ H locs ls G23 G24 G25 G26 G39 v2 v3_35 v4_47 v5_61 v6_70 0  hI e23 e24 e25 e26 e39 fr (lv_sub hl [5, 7, 4, 3, 2, 1] rfl) h
      · replace h := ite_t hc h
        refine lv_iconst (v := (-1)) hx hb dX12_gift_27 (by decide) ?_
        have hq := Option.some.inj h
        exact W.iret (v := (-1)) hx hb hr (fun t ht hW => qc_mk (congrArg (fun z => Outcome.returned (some (Value.int z.1))) hq) (by rw [ht]; exact ⟨σ, hI.nil, e39.trans (congrArg (fun z => z.2) hq), fr⟩)) hI.2.2 dX12_gift_28 hlocks
noncomputable def f_X12_coin (F : Nat) (G23 : Grp) (G24 : Grp) (G39 : Grp) (v1 : Int32) : Option (Int64) :=
  if v1 = 0 then some (G39.2.1 91 86) else if v1 = 1 then some (G39.2.1 91 87) else if v1 = 2 then some (G39.2.1 91 88) else ob (f_X12_in F v1 10 (9 + (G24.1 91 1))) (fun q_39 => if q_39 = 0 then ob (f_X12_in F v1 20 (19 + (G24.1 91 3))) (fun q_65 => if q_65 = 0 then ob (f_X12_in F v1 40 (39 + (G24.1 91 3))) (fun q_91 => if q_91 = 0 then some 0 else ob (f_X12_hadNow F G23 G39 (v1 - 40)) (fun q_102 => some (q_102.toInt64))) else ck (v1 - 20) 16 (some (G39.2.1 158 (v1 - 20).toNatClampNeg))) else ck (v1 - 10) 6 (some (G39.2.1 157 (v1 - 10).toNatClampNeg)))
def RM_X12_coin : Room := { frames := 1, cells := 0, slots := 0, locals := 22 }
abbrev B_X12_coin (HB : Heap) (D : va_G) (y : Nat → ClassId) (n : Nat) (κ : Nat → Nat) (σ : St) (q : Int64) : Heap → Prop := fun H => IV HB D y n n κ σ [] H
set_option maxRecDepth 100000 in
set_option maxHeartbeats 4000000 in
theorem c_X12_coin (l : Launch) (HB : Heap) (D : va_G) (y : Nat → ClassId) (F n : Nat) (κ : Nat → Nat) (σ : St) (hN : N0 ≤ n) (v1 : Int32)  (G23 : Grp) (e23 : σ 23 = G23) (G24 : Grp) (e24 : σ 24 = G24) (G39 : Grp) (e39 : σ 39 = G39) (q : Int64) (h : f_X12_coin F G23 G24 G39 v1 = some q) : MT l HB D y yX12_coin cX12_coin 2 (some .long) RM_X12_coin [.ref (HB.size + 91), .int v1] (IV HB D y n n κ σ []) (some (.long q)) (B_X12_coin HB D y n κ σ q) := by
  refine Met.ofW (cc := cX12_coin) (maxL := 2) (ret := (some .long)) (by decide) rfl ?_
  intro p e s m args below meth c s₁ BL hml hv
  obtain ⟨rfl, hI, hKK⟩ := hv
  have hx := BL.exec
  have hb := BL.bytes
  have hr := BL.returns
  have hts : ∀ w ∈ gtb, w.before _ s = true := fun w hw => atoms_spec BL.pre w (List.mem_cons_of_mem _ hw)
  have hml : c.maxLocals = 2 := hml
  have hown : s.vm.findClass RX12 = some m.cls := findClass_of_methodNamed BL.named
  have hlocks := BL.notSynchronized
  have hk0 := hI.1.2.2.2.2
  have hl := lv_entry ([.ref (HB.size + 91), .int v1]) (n := 2) (Nat.le_of_ble_eq_true rfl)
  rw [lg_entry_eq]
  generalize (lg_sl ([.ref (HB.size + 91), .int v1]) ++ List.replicate (2 - (lg_sl ([.ref (HB.size + 91), .int v1])).length) Slot.unset).toArray = ls at hl ⊢
  have hl : lv_has ls 2 [(0, .ref (HB.size + 91)), (1, .int v1)] := hl
  generalize hargs : ([.ref (HB.size + 91), .int v1] : List Value).toArray = args at *
  show WX RM_X12_coin p l e s m args below meth c HB (some (.long q)) (B_X12_coin HB D y n κ σ q) s.heap [] (F0 m 0 ls [])
  generalize s.heap = H at hI ⊢
  unfold f_X12_coin at h
  obtain ⟨locs, hlocs⟩ : ∃ x : List Loc, x = [] := ⟨_, rfl⟩
  rw [← hlocs] at hI ⊢
  refine lv_iload_n hx hb dX12_coin_0 rfl (lv_at hl 1 rfl) ?_
  refine lv_if_ne (tgt := 9) hx hb dX12_coin_1 (by decide) (fun hc => ?_) (fun hc => ?_)
  · replace h := ite_f hc h
    refine lv_iload_n hx hb dX12_coin_9 rfl (lv_at hl 1 rfl) ?_
    refine lv_iconst (v := 1) hx hb dX12_coin_10 (by decide) ?_
    refine lv_icmp_ne (tgt := 19) hx hb dX12_coin_11 (by decide) (fun hc => ?_) (fun hc => ?_)
    · replace h := ite_f hc h
      refine lv_iload_n hx hb dX12_coin_19 rfl (lv_at hl 1 rfl) ?_
      refine lv_iconst (v := 2) hx hb dX12_coin_20 (by decide) ?_
      refine lv_icmp_ne (tgt := 29) hx hb dX12_coin_21 (by decide) (fun hc => ?_) (fun hc => ?_)
      · replace h := ite_f hc h
        refine lv_iload_n hx hb dX12_coin_29 rfl (lv_at hl 1 rfl) ?_
        refine lv_bipush (v := 10) hx hb dX12_coin_30 (by decide) ?_
        refine lv_bipush (v := 9) hx hb dX12_coin_32 (by decide) ?_
        refine lv_aload_n hx hb dX12_coin_34 rfl (lv_at hl 0 rfl) ?_
        refine gt_X12_264 hx hb hts hown hKK hI e24 (lc91 hN) (kc91 hk0) dX12_coin_35 ?_
        refine lv_iadd hx hb dX12_coin_38 ?_
        obtain ⟨q_39, hq_39, h⟩ := ob_e h
        refine r_callS (As := [.int v1, .int 10, .int (9 + (G24.1 91 1))]) (rest := []) hx hb hml hts hown (c_X12_in l HB D y F n κ σ hN v1 10 (9 + (G24.1 91 1))  q_39 hq_39) cal_X12_in st_X12_in lm_X12_260 ⟨Nat.le_of_ble_eq_true rfl, Nat.le_of_ble_eq_true rfl⟩ hI.nil hKK rfl hl.1 hI.2.2 rfl (Nat.le_of_ble_eq_true rfl) dX12_coin_39 ⟨Nat.le_of_ble_eq_true rfl, Nat.le_of_ble_eq_true rfl⟩ rfl rfl rfl (fun H locs hB hlo => ?_)
        have hI := hB.re hlo
        refine lv_if_eq (tgt := 55) hx hb dX12_coin_42 (by decide) (fun hc => ?_) (fun hc => ?_)
        · replace h := ite_t hc h
          refine lv_iload_n hx hb dX12_coin_55 rfl (lv_at hl 1 rfl) ?_
          refine lv_bipush (v := 20) hx hb dX12_coin_56 (by decide) ?_
          refine lv_bipush (v := 19) hx hb dX12_coin_58 (by decide) ?_
          refine lv_aload_n hx hb dX12_coin_60 rfl (lv_at hl 0 rfl) ?_
          refine gt_X12_271 hx hb hts hown hKK hI e24 (lc91 hN) (kc91 hk0) dX12_coin_61 ?_
          refine lv_iadd hx hb dX12_coin_64 ?_
          obtain ⟨q_65, hq_65, h⟩ := ob_e h
          refine r_callS (As := [.int v1, .int 20, .int (19 + (G24.1 91 3))]) (rest := []) hx hb hml hts hown (c_X12_in l HB D y F n κ σ hN v1 20 (19 + (G24.1 91 3))  q_65 hq_65) cal_X12_in st_X12_in lm_X12_260 ⟨Nat.le_of_ble_eq_true rfl, Nat.le_of_ble_eq_true rfl⟩ hI.nil hKK rfl hl.1 hI.2.2 rfl (Nat.le_of_ble_eq_true rfl) dX12_coin_65 ⟨Nat.le_of_ble_eq_true rfl, Nat.le_of_ble_eq_true rfl⟩ rfl rfl rfl (fun H locs hB hlo => ?_)
          have hI := hB.re hlo
          refine lv_if_eq (tgt := 81) hx hb dX12_coin_68 (by decide) (fun hc => ?_) (fun hc => ?_)
          · replace h := ite_t hc h
            refine lv_iload_n hx hb dX12_coin_81 rfl (lv_at hl 1 rfl) ?_
            refine lv_bipush (v := 40) hx hb dX12_coin_82 (by decide) ?_
            refine lv_bipush (v := 39) hx hb dX12_coin_84 (by decide) ?_
            refine lv_aload_n hx hb dX12_coin_86 rfl (lv_at hl 0 rfl) ?_
            refine gt_X12_271 hx hb hts hown hKK hI e24 (lc91 hN) (kc91 hk0) dX12_coin_87 ?_
            refine lv_iadd hx hb dX12_coin_90 ?_
            obtain ⟨q_91, hq_91, h⟩ := ob_e h
            refine r_callS (As := [.int v1, .int 40, .int (39 + (G24.1 91 3))]) (rest := []) hx hb hml hts hown (c_X12_in l HB D y F n κ σ hN v1 40 (39 + (G24.1 91 3))  q_91 hq_91) cal_X12_in st_X12_in lm_X12_260 ⟨Nat.le_of_ble_eq_true rfl, Nat.le_of_ble_eq_true rfl⟩ hI.nil hKK rfl hl.1 hI.2.2 rfl (Nat.le_of_ble_eq_true rfl) dX12_coin_91 ⟨Nat.le_of_ble_eq_true rfl, Nat.le_of_ble_eq_true rfl⟩ rfl rfl rfl (fun H locs hB hlo => ?_)
            have hI := hB.re hlo
            refine lv_if_eq (tgt := 109) hx hb dX12_coin_94 (by decide) (fun hc => ?_) (fun hc => ?_)
            · replace h := ite_t hc h
              refine lv_lconst (v := 0) hx hb dX12_coin_109 rfl ?_
              have hq := Option.some.inj h
              exact W.lret (v := 0) hx hb hr (fun t ht hW => qc_mk (congrArg (fun z => Outcome.returned (some (Value.long z))) hq) (by rw [ht]; exact hI.nil)) hI.2.2 dX12_coin_110 hlocks
            · replace h := ite_f hc h
              refine lv_aload_n hx hb dX12_coin_97 rfl (lv_at hl 0 rfl) ?_
              refine lv_iload_n hx hb dX12_coin_98 rfl (lv_at hl 1 rfl) ?_
              refine lv_bipush (v := 40) hx hb dX12_coin_99 (by decide) ?_
              refine lv_isub hx hb dX12_coin_101 ?_
              obtain ⟨q_102, hq_102, h⟩ := ob_e h
              refine r_callV (As := [.int (v1 - 40)]) (rest := []) hx hb hml hts hown (c_X12_hadNow l HB D y F n κ σ hN (v1 - 40) G23 e23 G39 e39 q_102 hq_102) cal_X12_hadNow im_X12_hadNow se_X12_hadNow lm_X12_516 ⟨Nat.le_of_ble_eq_true rfl, Nat.le_of_ble_eq_true rfl⟩ hI.nil hKK (r_recv hKK hI (hE12 HB.size y) rfl (lc91 hN) (kc91 hk0)) rfl hl.1 hI.2.2 rfl (Nat.le_of_ble_eq_true rfl) dX12_coin_102 ⟨Nat.le_of_ble_eq_true rfl, Nat.le_of_ble_eq_true rfl⟩ rfl rfl rfl (fun H locs hB hlo => ?_)
              have hI := hB.re hlo
              refine lv_i2l hx hb dX12_coin_105 rfl ?_
              refine lv_goto (tgt := 110) hx hb dX12_coin_106 (by decide) ?_
              have hq := Option.some.inj h
              exact W.lret (v := q_102.toInt64) hx hb hr (fun t ht hW => qc_mk (congrArg (fun z => Outcome.returned (some (Value.long z))) hq) (by rw [ht]; exact hI.nil)) hI.2.2 dX12_coin_110 hlocks
          · replace h := ite_f hc h
            refine lv_aload_n hx hb dX12_coin_71 rfl (lv_at hl 0 rfl) ?_
            refine gf_X12_212 hx hb hts hown hKK hI hN dX12_coin_72 ?_
            refine lv_iload_n hx hb dX12_coin_75 rfl (lv_at hl 1 rfl) ?_
            refine lv_bipush (v := 20) hx hb dX12_coin_76 (by decide) ?_
            refine lv_isub hx hb dX12_coin_78 ?_
            obtain ⟨hin_, h⟩ := ck_e h
            refine la_68 hx hb hKK hI e39 (lc158 hN) (kc158 hk0) hin_ dX12_coin_79 ?_
            have hq := Option.some.inj h
            exact W.lret (v := (G39.2.1 158 (v1 - 20).toNatClampNeg)) hx hb hr (fun t ht hW => qc_mk (congrArg (fun z => Outcome.returned (some (Value.long z))) hq) (by rw [ht]; exact hI.nil)) hI.2.2 dX12_coin_80 hlocks
        · replace h := ite_f hc h
          refine lv_aload_n hx hb dX12_coin_45 rfl (lv_at hl 0 rfl) ?_
          refine gf_X12_209 hx hb hts hown hKK hI hN dX12_coin_46 ?_
          refine lv_iload_n hx hb dX12_coin_49 rfl (lv_at hl 1 rfl) ?_
          refine lv_bipush (v := 10) hx hb dX12_coin_50 (by decide) ?_
          refine lv_isub hx hb dX12_coin_52 ?_
          obtain ⟨hin_, h⟩ := ck_e h
          refine la_67 hx hb hKK hI e39 (lc157 hN) (kc157 hk0) hin_ dX12_coin_53 ?_
          have hq := Option.some.inj h
          exact W.lret (v := (G39.2.1 157 (v1 - 10).toNatClampNeg)) hx hb hr (fun t ht hW => qc_mk (congrArg (fun z => Outcome.returned (some (Value.long z))) hq) (by rw [ht]; exact hI.nil)) hI.2.2 dX12_coin_54 hlocks
      · replace h := ite_t hc h
        refine lv_aload_n hx hb dX12_coin_24 rfl (lv_at hl 0 rfl) ?_
        refine gt_X12_526 hx hb hts hown hKK hI e39 (lc91 hN) (kc91 hk0) dX12_coin_25 ?_
        have hq := Option.some.inj h
        exact W.lret (v := (G39.2.1 91 88)) hx hb hr (fun t ht hW => qc_mk (congrArg (fun z => Outcome.returned (some (Value.long z))) hq) (by rw [ht]; exact hI.nil)) hI.2.2 dX12_coin_28 hlocks
    · replace h := ite_t hc h
      refine lv_aload_n hx hb dX12_coin_14 rfl (lv_at hl 0 rfl) ?_
      refine gt_X12_523 hx hb hts hown hKK hI e39 (lc91 hN) (kc91 hk0) dX12_coin_15 ?_
      have hq := Option.some.inj h
      exact W.lret (v := (G39.2.1 91 87)) hx hb hr (fun t ht hW => qc_mk (congrArg (fun z => Outcome.returned (some (Value.long z))) hq) (by rw [ht]; exact hI.nil)) hI.2.2 dX12_coin_18 hlocks
  · replace h := ite_t hc h
    refine lv_aload_n hx hb dX12_coin_4 rfl (lv_at hl 0 rfl) ?_
    refine gt_X12_519 hx hb hts hown hKK hI e39 (lc91 hN) (kc91 hk0) dX12_coin_5 ?_
    have hq := Option.some.inj h
    exact W.lret (v := (G39.2.1 91 86)) hx hb hr (fun t ht hW => qc_mk (congrArg (fun z => Outcome.returned (some (Value.long z))) hq) (by rw [ht]; exact hI.nil)) hI.2.2 dX12_coin_8 hlocks
noncomputable def f_X12_project (F : Nat) (G24 : Grp) (G40 : Grp) (v1 : Int32) (v2 : Int32) (v3 : Int32) : Option (Int32 × Grp) :=
  ob (f_X12_in F v1 0 ((G24.1 91 1) - 1)) (fun q_8 => if q_8 = 0 then some ((-1), G40) else ob (f_X12_in F v2 1 1000000) (fun q_19 => if q_19 = 0 then some ((-1), G40) else ob (f_X12_in F v3 0 1000) (fun q_30 => if q_30 = 0 then some ((-1), G40) else if (G40.1 91 93) = 12 then some ((-1), G40) else ck (G40.1 91 93) 12 (bn (gI G40 161 (G40.1 91 93).toNatClampNeg v1) (fun G40_56 => ck (G40_56.1 91 93) 12 (bn (gI G40_56 162 (G40_56.1 91 93).toNatClampNeg v2) (fun G40_66 => ck (G40_66.1 91 93) 12 (bn (gI G40_66 163 (G40_66.1 91 93).toNatClampNeg v3) (fun G40_76 => bn (gI G40_76 91 93 ((G40_76.1 91 93) + 1)) (fun G40_84 => some (((G40_84.1 91 93) - 1), G40_84)))))))))))
def RM_X12_project : Room := { frames := 1, cells := 0, slots := 0, locals := 22 }
abbrev W_X12_project : List Nat := [40]
abbrev B_X12_project (HB : Heap) (D : va_G) (y : Nat → ClassId) (n : Nat) (κ : Nat → Nat) (σ0 : St) (q : Int32 × Grp) : Heap → Prop := fun H => ∃ σ : St, IV HB D y n n κ σ [] H ∧ σ 40 = q.2 ∧ ∀ j, j ∉ W_X12_project → σ j = σ0 j
set_option maxRecDepth 100000 in
set_option maxHeartbeats 4000000 in
theorem c_X12_project (l : Launch) (HB : Heap) (D : va_G) (y : Nat → ClassId) (F n : Nat) (κ : Nat → Nat) (σ0 : St) (hN : N0 ≤ n) (v1 : Int32)  (v2 : Int32)  (v3 : Int32)  (G24 : Grp) (e24 : σ0 24 = G24) (G40 : Grp) (e40 : σ0 40 = G40) (q : Int32 × Grp) (h : f_X12_project F G24 G40 v1 v2 v3 = some q) : MT l HB D y yX12_project cX12_project 4 (some .int) RM_X12_project [.ref (HB.size + 91), .int v1, .int v2, .int v3] (IV HB D y n n κ σ0 []) (some (.int q.1)) (B_X12_project HB D y n κ σ0 q) := by
  refine Met.ofW (cc := cX12_project) (maxL := 4) (ret := (some .int)) (by decide) rfl ?_
  intro p e s m args below meth c s₁ BL hml hv
  obtain ⟨rfl, hI, hKK⟩ := hv
  have hx := BL.exec
  have hb := BL.bytes
  have hr := BL.returns
  have hts : ∀ w ∈ gtb, w.before _ s = true := fun w hw => atoms_spec BL.pre w (List.mem_cons_of_mem _ hw)
  have hml : c.maxLocals = 4 := hml
  have hown : s.vm.findClass RX12 = some m.cls := findClass_of_methodNamed BL.named
  have hlocks := BL.notSynchronized
  have hk0 := hI.1.2.2.2.2
  have hl := lv_entry ([.ref (HB.size + 91), .int v1, .int v2, .int v3]) (n := 4) (Nat.le_of_ble_eq_true rfl)
  rw [lg_entry_eq]
  generalize (lg_sl ([.ref (HB.size + 91), .int v1, .int v2, .int v3]) ++ List.replicate (4 - (lg_sl ([.ref (HB.size + 91), .int v1, .int v2, .int v3])).length) Slot.unset).toArray = ls at hl ⊢
  have hl : lv_has ls 4 [(0, .ref (HB.size + 91)), (1, .int v1), (2, .int v2), (3, .int v3)] := hl
  generalize hargs : ([.ref (HB.size + 91), .int v1, .int v2, .int v3] : List Value).toArray = args at *
  obtain ⟨σ, hI, e24, e40, fr⟩ : ∃ σ : St, IV HB D y n n κ σ [] s.heap ∧ σ 24 = G24 ∧ σ 40 = G40 ∧ ∀ j, j ∉ W_X12_project → σ j = σ0 j := ⟨σ0, hI, e24, e40, fun _ _ => rfl⟩
  show WX RM_X12_project p l e s m args below meth c HB (some (.int q.1)) (B_X12_project HB D y n κ σ0 q) s.heap [] (F0 m 0 ls [])
  generalize s.heap = H at hI ⊢
  unfold f_X12_project at h
  obtain ⟨locs, hlocs⟩ : ∃ x : List Loc, x = [] := ⟨_, rfl⟩
  rw [← hlocs] at hI ⊢
  refine lv_iload_n hx hb dX12_project_0 rfl (lv_at hl 1 rfl) ?_
  refine lv_iconst (v := 0) hx hb dX12_project_1 (by decide) ?_
  refine lv_aload_n hx hb dX12_project_2 rfl (lv_at hl 0 rfl) ?_
  refine gt_X12_264 hx hb hts hown hKK hI e24 (lc91 hN) (kc91 hk0) dX12_project_3 ?_
  refine lv_iconst (v := 1) hx hb dX12_project_6 (by decide) ?_
  refine lv_isub hx hb dX12_project_7 ?_
  obtain ⟨q_8, hq_8, h⟩ := ob_e h
  refine r_callS (As := [.int v1, .int 0, .int ((G24.1 91 1) - 1)]) (rest := []) hx hb hml hts hown (c_X12_in l HB D y F n κ σ hN v1 0 ((G24.1 91 1) - 1)  q_8 hq_8) cal_X12_in st_X12_in lm_X12_260 ⟨Nat.le_of_ble_eq_true rfl, Nat.le_of_ble_eq_true rfl⟩ hI.nil hKK rfl hl.1 hI.2.2 rfl (Nat.le_of_ble_eq_true rfl) dX12_project_8 ⟨Nat.le_of_ble_eq_true rfl, Nat.le_of_ble_eq_true rfl⟩ rfl rfl rfl (fun H locs hB hlo => ?_)
  have hI := hB.re hlo
  refine lv_if_eq (tgt := 45) hx hb dX12_project_11 (by decide) (fun hc => ?_) (fun hc => ?_)
  · replace h := ite_t hc h
    refine lv_iconst (v := (-1)) hx hb dX12_project_45 (by decide) ?_
    have hq := Option.some.inj h
    exact W.iret (v := (-1)) hx hb hr (fun t ht hW => qc_mk (congrArg (fun z => Outcome.returned (some (Value.int z.1))) hq) (by rw [ht]; exact ⟨σ, hI.nil, e40.trans (congrArg (fun z => z.2) hq), fr⟩)) hI.2.2 dX12_project_46 hlocks
  · replace h := ite_f hc h
    refine lv_iload_n hx hb dX12_project_14 rfl (lv_at hl 2 rfl) ?_
    refine lv_iconst (v := 1) hx hb dX12_project_15 (by decide) ?_
    refine lv_ldcw (v := 1000000) hx hb hown (hts _ lk_X12_307) dX12_project_16 ?_
    obtain ⟨q_19, hq_19, h⟩ := ob_e h
    refine r_callS (As := [.int v2, .int 1, .int 1000000]) (rest := []) hx hb hml hts hown (c_X12_in l HB D y F n κ σ hN v2 1 1000000  q_19 hq_19) cal_X12_in st_X12_in lm_X12_260 ⟨Nat.le_of_ble_eq_true rfl, Nat.le_of_ble_eq_true rfl⟩ hI.nil hKK rfl hl.1 hI.2.2 rfl (Nat.le_of_ble_eq_true rfl) dX12_project_19 ⟨Nat.le_of_ble_eq_true rfl, Nat.le_of_ble_eq_true rfl⟩ rfl rfl rfl (fun H locs hB hlo => ?_)
    have hI := hB.re hlo
    refine lv_if_eq (tgt := 45) hx hb dX12_project_22 (by decide) (fun hc => ?_) (fun hc => ?_)
    · replace h := ite_t hc h
      refine lv_iconst (v := (-1)) hx hb dX12_project_45 (by decide) ?_
      have hq := Option.some.inj h
      exact W.iret (v := (-1)) hx hb hr (fun t ht hW => qc_mk (congrArg (fun z => Outcome.returned (some (Value.int z.1))) hq) (by rw [ht]; exact ⟨σ, hI.nil, e40.trans (congrArg (fun z => z.2) hq), fr⟩)) hI.2.2 dX12_project_46 hlocks
    · replace h := ite_f hc h
      refine lv_iload_n hx hb dX12_project_25 rfl (lv_at hl 3 rfl) ?_
      refine lv_iconst (v := 0) hx hb dX12_project_26 (by decide) ?_
      refine lv_sipush (v := 1000) hx hb dX12_project_27 (by decide) ?_
      obtain ⟨q_30, hq_30, h⟩ := ob_e h
      refine r_callS (As := [.int v3, .int 0, .int 1000]) (rest := []) hx hb hml hts hown (c_X12_in l HB D y F n κ σ hN v3 0 1000  q_30 hq_30) cal_X12_in st_X12_in lm_X12_260 ⟨Nat.le_of_ble_eq_true rfl, Nat.le_of_ble_eq_true rfl⟩ hI.nil hKK rfl hl.1 hI.2.2 rfl (Nat.le_of_ble_eq_true rfl) dX12_project_30 ⟨Nat.le_of_ble_eq_true rfl, Nat.le_of_ble_eq_true rfl⟩ rfl rfl rfl (fun H locs hB hlo => ?_)
      have hI := hB.re hlo
      refine lv_if_eq (tgt := 45) hx hb dX12_project_33 (by decide) (fun hc => ?_) (fun hc => ?_)
      · replace h := ite_t hc h
        refine lv_iconst (v := (-1)) hx hb dX12_project_45 (by decide) ?_
        have hq := Option.some.inj h
        exact W.iret (v := (-1)) hx hb hr (fun t ht hW => qc_mk (congrArg (fun z => Outcome.returned (some (Value.int z.1))) hq) (by rw [ht]; exact ⟨σ, hI.nil, e40.trans (congrArg (fun z => z.2) hq), fr⟩)) hI.2.2 dX12_project_46 hlocks
      · replace h := ite_f hc h
        refine lv_aload_n hx hb dX12_project_36 rfl (lv_at hl 0 rfl) ?_
        refine gt_X12_529 hx hb hts hown hKK hI e40 (lc91 hN) (kc91 hk0) dX12_project_37 ?_
        refine lv_bipush (v := 12) hx hb dX12_project_40 (by decide) ?_
        refine lv_icmp_ne (tgt := 47) hx hb dX12_project_42 (by decide) (fun hc => ?_) (fun hc => ?_)
        · replace h := ite_f hc h
          refine lv_aload_n hx hb dX12_project_47 rfl (lv_at hl 0 rfl) ?_
          refine gf_X12_221 hx hb hts hown hKK hI hN dX12_project_48 ?_
          refine lv_aload_n hx hb dX12_project_51 rfl (lv_at hl 0 rfl) ?_
          refine gt_X12_529 hx hb hts hown hKK hI e40 (lc91 hN) (kc91 hk0) dX12_project_52 ?_
          refine lv_iload_n hx hb dX12_project_55 rfl (lv_at hl 1 rfl) ?_
          obtain ⟨hin_, h⟩ := ck_e h
          obtain ⟨G40_56, qq, h⟩ := bn_e h
          refine sa_70 hx hb hKK hI e40 (lc161 hN) (kc161 hk0) hin_ dX12_project_56 (fun σ H locs hI ew ho => ?_)
          have e40 := ew.trans qq.symm
          have e24 := (ho 24 (nn rfl)).trans e24
          have fr := frs fr ho (by decide)
          refine lv_aload_n hx hb dX12_project_57 rfl (lv_at hl 0 rfl) ?_
          refine gf_X12_224 hx hb hts hown hKK hI hN dX12_project_58 ?_
          refine lv_aload_n hx hb dX12_project_61 rfl (lv_at hl 0 rfl) ?_
          refine gt_X12_529 hx hb hts hown hKK hI e40 (lc91 hN) (kc91 hk0) dX12_project_62 ?_
          refine lv_iload_n hx hb dX12_project_65 rfl (lv_at hl 2 rfl) ?_
          obtain ⟨hin_, h⟩ := ck_e h
          obtain ⟨G40_66, qq, h⟩ := bn_e h
          refine sa_70 hx hb hKK hI e40 (lc162 hN) (kc162 hk0) hin_ dX12_project_66 (fun σ H locs hI ew ho => ?_)
          have e40 := ew.trans qq.symm
          have e24 := (ho 24 (nn rfl)).trans e24
          have fr := frs fr ho (by decide)
          refine lv_aload_n hx hb dX12_project_67 rfl (lv_at hl 0 rfl) ?_
          refine gf_X12_227 hx hb hts hown hKK hI hN dX12_project_68 ?_
          refine lv_aload_n hx hb dX12_project_71 rfl (lv_at hl 0 rfl) ?_
          refine gt_X12_529 hx hb hts hown hKK hI e40 (lc91 hN) (kc91 hk0) dX12_project_72 ?_
          refine lv_iload_n hx hb dX12_project_75 rfl (lv_at hl 3 rfl) ?_
          obtain ⟨hin_, h⟩ := ck_e h
          obtain ⟨G40_76, qq, h⟩ := bn_e h
          refine sa_70 hx hb hKK hI e40 (lc163 hN) (kc163 hk0) hin_ dX12_project_76 (fun σ H locs hI ew ho => ?_)
          have e40 := ew.trans qq.symm
          have e24 := (ho 24 (nn rfl)).trans e24
          have fr := frs fr ho (by decide)
          refine lv_aload_n hx hb dX12_project_77 rfl (lv_at hl 0 rfl) ?_
          refine lv_aload_n hx hb dX12_project_78 rfl (lv_at hl 0 rfl) ?_
          refine gt_X12_529 hx hb hts hown hKK hI e40 (lc91 hN) (kc91 hk0) dX12_project_79 ?_
          refine lv_iconst (v := 1) hx hb dX12_project_82 (by decide) ?_
          refine lv_iadd hx hb dX12_project_83 ?_
          obtain ⟨G40_84, qq, h⟩ := bn_e h
          refine pt_X12_529 hx hb hts hown hKK hI e40 (lc91 hN) (kc91 hk0) dX12_project_84 (fun σ H locs hI ew ho => ?_)
          have e40 := ew.trans qq.symm
          have e24 := (ho 24 (nn rfl)).trans e24
          have fr := frs fr ho (by decide)
          refine lv_aload_n hx hb dX12_project_87 rfl (lv_at hl 0 rfl) ?_
          refine gt_X12_529 hx hb hts hown hKK hI e40 (lc91 hN) (kc91 hk0) dX12_project_88 ?_
          refine lv_iconst (v := 1) hx hb dX12_project_91 (by decide) ?_
          refine lv_isub hx hb dX12_project_92 ?_
          have hq := Option.some.inj h
          exact W.iret (v := ((G40_84.1 91 93) - 1)) hx hb hr (fun t ht hW => qc_mk (congrArg (fun z => Outcome.returned (some (Value.int z.1))) hq) (by rw [ht]; exact ⟨σ, hI.nil, e40.trans (congrArg (fun z => z.2) hq), fr⟩)) hI.2.2 dX12_project_93 hlocks
        · replace h := ite_t hc h
          refine lv_iconst (v := (-1)) hx hb dX12_project_45 (by decide) ?_
          have hq := Option.some.inj h
          exact W.iret (v := (-1)) hx hb hr (fun t ht hW => qc_mk (congrArg (fun z => Outcome.returned (some (Value.int z.1))) hq) (by rw [ht]; exact ⟨σ, hI.nil, e40.trans (congrArg (fun z => z.2) hq), fr⟩)) hI.2.2 dX12_project_46 hlocks
noncomputable def f_X12_canBuild_l2b (F : Nat)  (k2 : Grp → Int32 → Int32 → Int32 → Option (Int32)) (G40 : Grp) (v1 : Int32) (v2 : Int32) (v3 : Int32) : Option (Int32) :=
  if (G40.1 91 93) ≤ v3 then some 1 else if ((v1 >>> (v3 &&& 31)) &&& 1) = 1 then ck v3 12 (if (G40.1 161 v3.toNatClampNeg) = v2 then ck v3 12 (if (G40.1 164 v3.toNatClampNeg) = 0 then bn (v3 + 1) (fun v3_40 => k2 G40 v1 v2 v3_40) else some 0) else some 0) else bn (v3 + 1) (fun v3_40 => k2 G40 v1 v2 v3_40)
noncomputable def f_X12_canBuild_l2 (F : Nat)  (fu : Nat) : Grp → Int32 → Int32 → Int32 → Option (Int32) := Nat.rec (motive := fun _ => Grp → Int32 → Int32 → Int32 → Option (Int32)) (fun _ _ _ _ => none) (fun _ ih => f_X12_canBuild_l2b F  ih) fu
noncomputable def f_X12_canBuild (F : Nat) (G40 : Grp) (v1 : Int32) (v2 : Int32) : Option (Int32) :=
  f_X12_canBuild_l2 F  F G40 v1 v2 0
def RM_X12_canBuild : Room := { frames := 0, cells := 0, slots := 0, locals := 0 }
abbrev B_X12_canBuild (HB : Heap) (D : va_G) (y : Nat → ClassId) (n : Nat) (κ : Nat → Nat) (σ : St) (q : Int32) : Heap → Prop := fun H => IV HB D y n n κ σ [] H
set_option maxRecDepth 100000 in
set_option maxHeartbeats 4000000 in
theorem c_X12_canBuild (l : Launch) (HB : Heap) (D : va_G) (y : Nat → ClassId) (F n : Nat) (κ : Nat → Nat) (σ : St) (hN : N0 ≤ n) (v1 : Int32)  (v2 : Int32)  (G40 : Grp) (e40 : σ 40 = G40) (q : Int32) (h : f_X12_canBuild F G40 v1 v2 = some q) : MT l HB D y yX12_canBuild cX12_canBuild 4 (some .boolean) RM_X12_canBuild [.ref (HB.size + 91), .int v1, .int v2] (IV HB D y n n κ σ []) (some (.int q)) (B_X12_canBuild HB D y n κ σ q) := by
  refine Met.ofW (cc := cX12_canBuild) (maxL := 4) (ret := (some .boolean)) (by decide) rfl ?_
  intro p e s m args below meth c s₁ BL hml hv
  obtain ⟨rfl, hI, hKK⟩ := hv
  have hx := BL.exec
  have hb := BL.bytes
  have hr := BL.returns
  have hts : ∀ w ∈ gtb, w.before _ s = true := fun w hw => atoms_spec BL.pre w (List.mem_cons_of_mem _ hw)
  have hml : c.maxLocals = 4 := hml
  have hown : s.vm.findClass RX12 = some m.cls := findClass_of_methodNamed BL.named
  have hlocks := BL.notSynchronized
  have hk0 := hI.1.2.2.2.2
  have hl := lv_entry ([.ref (HB.size + 91), .int v1, .int v2]) (n := 4) (Nat.le_of_ble_eq_true rfl)
  rw [lg_entry_eq]
  generalize (lg_sl ([.ref (HB.size + 91), .int v1, .int v2]) ++ List.replicate (4 - (lg_sl ([.ref (HB.size + 91), .int v1, .int v2])).length) Slot.unset).toArray = ls at hl ⊢
  have hl : lv_has ls 4 [(0, .ref (HB.size + 91)), (1, .int v1), (2, .int v2)] := hl
  generalize hargs : ([.ref (HB.size + 91), .int v1, .int v2] : List Value).toArray = args at *
  have b2 : ∀ (fu : Nat) (H : Heap) (locs : List Loc) (ls : Array Slot) (G40 : Grp) (v1 : Int32) (v2 : Int32) (v3 : Int32) , IV HB D y n n κ σ locs H → σ 40 = G40 → lv_has ls 4 [(0, .ref (HB.size + 91)), (1, .int v1), (2, .int v2), (3, .int v3)] → f_X12_canBuild_l2 F  fu G40 v1 v2 v3 = some q → WX RM_X12_canBuild p l e s m args below meth c HB (some (.int q)) (B_X12_canBuild HB D y n κ σ q) H locs (F0 m 2 ls []) := by
    intro  fu
    induction fu with
    | zero =>
      intro H locs ls G40 v1 v2 v3 hI e40 hl h
      exact absurd h (by intro h; cases h)
    | succ fu hk2 =>
      intro H locs ls G40 v1 v2 v3 hI e40 hl h
      have h : f_X12_canBuild_l2b F  (f_X12_canBuild_l2 F  fu) G40 v1 v2 v3 = some q := h
      generalize f_X12_canBuild_l2 F  fu = k2 at h hk2
      unfold f_X12_canBuild_l2b at h
      refine lv_iload_n hx hb dX12_canBuild_2 rfl (lv_at hl 3 rfl) ?_
      refine lv_aload_n hx hb dX12_canBuild_3 rfl (lv_at hl 0 rfl) ?_
      refine gt_X12_529 hx hb hts hown hKK hI e40 (lc91 hN) (kc91 hk0) dX12_canBuild_4 ?_
      refine lv_icmp_ge (tgt := 46) hx hb dX12_canBuild_7 (by decide) (fun hc => ?_) (fun hc => ?_)
      · replace h := ite_t hc h
        refine lv_iconst (v := 1) hx hb dX12_canBuild_46 (by decide) ?_
        have hq := Option.some.inj h
        exact W.zret (v := 1) (ty := .boolean) hx hb hr rfl (fun t ht hW => qc_mk (congrArg (fun z => Outcome.returned (some (Value.int z))) hq) (by rw [ht]; exact hI.nil)) hI.2.2 dX12_canBuild_47 hlocks
      · replace h := ite_f hc h
        refine lv_iload_n hx hb dX12_canBuild_10 rfl (lv_at hl 1 rfl) ?_
        refine lv_iload_n hx hb dX12_canBuild_11 rfl (lv_at hl 3 rfl) ?_
        refine lv_ishr hx hb dX12_canBuild_12 ?_
        refine lv_iconst (v := 1) hx hb dX12_canBuild_13 (by decide) ?_
        refine lv_iand hx hb dX12_canBuild_14 ?_
        refine lv_iconst (v := 1) hx hb dX12_canBuild_15 (by decide) ?_
        refine lv_icmp_ne (tgt := 40) hx hb dX12_canBuild_16 (by decide) (fun hc => ?_) (fun hc => ?_)
        · replace h := ite_f hc h
          obtain ⟨v3_40, qq, h⟩ := bn_e h
          refine lv_iinc (v := v3_40) (lv' := [(3, .int v3_40), (0, .ref (HB.size + 91)), (1, .int v1), (2, .int v2)]) hx hb dX12_canBuild_40 hl (k := 3) rfl (by rw [qq]; rfl) (by decide) rfl (fun ls hl => ?_)
          refine lv_goto (tgt := 2) hx hb dX12_canBuild_43 (by decide) ?_
          exact hk2 H locs ls G40 v1 v2 v3_40  hI e40 (lv_sub hl [1, 2, 3, 0] rfl) h
        · replace h := ite_t hc h
          refine lv_aload_n hx hb dX12_canBuild_19 rfl (lv_at hl 0 rfl) ?_
          refine gf_X12_221 hx hb hts hown hKK hI hN dX12_canBuild_20 ?_
          refine lv_iload_n hx hb dX12_canBuild_23 rfl (lv_at hl 3 rfl) ?_
          obtain ⟨hin_, h⟩ := ck_e h
          refine la_70 hx hb hKK hI e40 (lc161 hN) (kc161 hk0) hin_ dX12_canBuild_24 ?_
          refine lv_iload_n hx hb dX12_canBuild_25 rfl (lv_at hl 2 rfl) ?_
          refine lv_icmp_ne (tgt := 38) hx hb dX12_canBuild_26 (by decide) (fun hc => ?_) (fun hc => ?_)
          · replace h := ite_f hc h
            refine lv_iconst (v := 0) hx hb dX12_canBuild_38 (by decide) ?_
            have hq := Option.some.inj h
            exact W.zret (v := 0) (ty := .boolean) hx hb hr rfl (fun t ht hW => qc_mk (congrArg (fun z => Outcome.returned (some (Value.int z))) hq) (by rw [ht]; exact hI.nil)) hI.2.2 dX12_canBuild_39 hlocks
          · replace h := ite_t hc h
            refine lv_aload_n hx hb dX12_canBuild_29 rfl (lv_at hl 0 rfl) ?_
            refine gf_X12_230 hx hb hts hown hKK hI hN dX12_canBuild_30 ?_
            refine lv_iload_n hx hb dX12_canBuild_33 rfl (lv_at hl 3 rfl) ?_
            obtain ⟨hin_, h⟩ := ck_e h
            refine la_71 hx hb hKK hI e40 (lc164 hN) (kc164 hk0) hin_ dX12_canBuild_34 ?_
            refine lv_if_eq (tgt := 40) hx hb dX12_canBuild_35 (by decide) (fun hc => ?_) (fun hc => ?_)
            · replace h := ite_t hc h
              obtain ⟨v3_40, qq, h⟩ := bn_e h
              refine lv_iinc (v := v3_40) (lv' := [(3, .int v3_40), (0, .ref (HB.size + 91)), (1, .int v1), (2, .int v2)]) hx hb dX12_canBuild_40 hl (k := 3) rfl (by rw [qq]; rfl) (by decide) rfl (fun ls hl => ?_)
              refine lv_goto (tgt := 2) hx hb dX12_canBuild_43 (by decide) ?_
              exact hk2 H locs ls G40 v1 v2 v3_40  hI e40 (lv_sub hl [1, 2, 3, 0] rfl) h
            · replace h := ite_f hc h
              refine lv_iconst (v := 0) hx hb dX12_canBuild_38 (by decide) ?_
              have hq := Option.some.inj h
              exact W.zret (v := 0) (ty := .boolean) hx hb hr rfl (fun t ht hW => qc_mk (congrArg (fun z => Outcome.returned (some (Value.int z))) hq) (by rw [ht]; exact hI.nil)) hI.2.2 dX12_canBuild_39 hlocks
  show WX RM_X12_canBuild p l e s m args below meth c HB (some (.int q)) (B_X12_canBuild HB D y n κ σ q) s.heap [] (F0 m 0 ls [])
  generalize s.heap = H at hI ⊢
  unfold f_X12_canBuild at h
  obtain ⟨locs, hlocs⟩ : ∃ x : List Loc, x = [] := ⟨_, rfl⟩
  rw [← hlocs] at hI ⊢
  refine lv_iconst (v := 0) hx hb dX12_canBuild_0 (by decide) ?_
  refine lv_istore_n (lv' := [(3, .int 0), (0, .ref (HB.size + 91)), (1, .int v1), (2, .int v2)]) hx hb dX12_canBuild_1 rfl hl (by decide) rfl (fun ls hl => ?_)
  exact b2  F H locs ls G40 v1 v2 0  hI e40 (lv_sub hl [1, 2, 3, 0] rfl) h
noncomputable def f_X12_costOf_l4b (F : Nat)  (k4 : Grp → Int32 → Int32 → Int32 → Option (Int32)) (G40 : Grp) (v1 : Int32) (v2 : Int32) (v3 : Int32) : Option (Int32) :=
  if (G40.1 91 93) ≤ v3 then some v2 else if ((v1 >>> (v3 &&& 31)) &&& 1) = 1 then ck v3 12 (bn ((v2 + (G40.1 162 v3.toNatClampNeg))) (fun v2_33 => bn (v3 + 1) (fun v3_34 => k4 G40 v1 v2_33 v3_34))) else bn ((v2 + 0)) (fun v2_33 => bn (v3 + 1) (fun v3_34 => k4 G40 v1 v2_33 v3_34))
noncomputable def f_X12_costOf_l4 (F : Nat)  (fu : Nat) : Grp → Int32 → Int32 → Int32 → Option (Int32) := Nat.rec (motive := fun _ => Grp → Int32 → Int32 → Int32 → Option (Int32)) (fun _ _ _ _ => none) (fun _ ih => f_X12_costOf_l4b F  ih) fu
noncomputable def f_X12_costOf (F : Nat) (G40 : Grp) (v1 : Int32) : Option (Int32) :=
  f_X12_costOf_l4 F  F G40 v1 0 0
def RM_X12_costOf : Room := { frames := 0, cells := 0, slots := 0, locals := 0 }
abbrev B_X12_costOf (HB : Heap) (D : va_G) (y : Nat → ClassId) (n : Nat) (κ : Nat → Nat) (σ : St) (q : Int32) : Heap → Prop := fun H => IV HB D y n n κ σ [] H
set_option maxRecDepth 100000 in
set_option maxHeartbeats 4000000 in
theorem c_X12_costOf (l : Launch) (HB : Heap) (D : va_G) (y : Nat → ClassId) (F n : Nat) (κ : Nat → Nat) (σ : St) (hN : N0 ≤ n) (v1 : Int32)  (G40 : Grp) (e40 : σ 40 = G40) (q : Int32) (h : f_X12_costOf F G40 v1 = some q) : MT l HB D y yX12_costOf cX12_costOf 4 (some .int) RM_X12_costOf [.ref (HB.size + 91), .int v1] (IV HB D y n n κ σ []) (some (.int q)) (B_X12_costOf HB D y n κ σ q) := by
  refine Met.ofW (cc := cX12_costOf) (maxL := 4) (ret := (some .int)) (by decide) rfl ?_
  intro p e s m args below meth c s₁ BL hml hv
  obtain ⟨rfl, hI, hKK⟩ := hv
  have hx := BL.exec
  have hb := BL.bytes
  have hr := BL.returns
  have hts : ∀ w ∈ gtb, w.before _ s = true := fun w hw => atoms_spec BL.pre w (List.mem_cons_of_mem _ hw)
  have hml : c.maxLocals = 4 := hml
  have hown : s.vm.findClass RX12 = some m.cls := findClass_of_methodNamed BL.named
  have hlocks := BL.notSynchronized
  have hk0 := hI.1.2.2.2.2
  have hl := lv_entry ([.ref (HB.size + 91), .int v1]) (n := 4) (Nat.le_of_ble_eq_true rfl)
  rw [lg_entry_eq]
  generalize (lg_sl ([.ref (HB.size + 91), .int v1]) ++ List.replicate (4 - (lg_sl ([.ref (HB.size + 91), .int v1])).length) Slot.unset).toArray = ls at hl ⊢
  have hl : lv_has ls 4 [(0, .ref (HB.size + 91)), (1, .int v1)] := hl
  generalize hargs : ([.ref (HB.size + 91), .int v1] : List Value).toArray = args at *
  have b4 : ∀ (fu : Nat) (H : Heap) (locs : List Loc) (ls : Array Slot) (G40 : Grp) (v1 : Int32) (v2 : Int32) (v3 : Int32) , IV HB D y n n κ σ locs H → σ 40 = G40 → lv_has ls 4 [(0, .ref (HB.size + 91)), (1, .int v1), (2, .int v2), (3, .int v3)] → f_X12_costOf_l4 F  fu G40 v1 v2 v3 = some q → WX RM_X12_costOf p l e s m args below meth c HB (some (.int q)) (B_X12_costOf HB D y n κ σ q) H locs (F0 m 4 ls []) := by
    intro  fu
    induction fu with
    | zero =>
      intro H locs ls G40 v1 v2 v3 hI e40 hl h
      exact absurd h (by intro h; cases h)
    | succ fu hk4 =>
      intro H locs ls G40 v1 v2 v3 hI e40 hl h
      have h : f_X12_costOf_l4b F  (f_X12_costOf_l4 F  fu) G40 v1 v2 v3 = some q := h
      generalize f_X12_costOf_l4 F  fu = k4 at h hk4
      unfold f_X12_costOf_l4b at h
      refine lv_iload_n hx hb dX12_costOf_4 rfl (lv_at hl 3 rfl) ?_
      refine lv_aload_n hx hb dX12_costOf_5 rfl (lv_at hl 0 rfl) ?_
      refine gt_X12_529 hx hb hts hown hKK hI e40 (lc91 hN) (kc91 hk0) dX12_costOf_6 ?_
      refine lv_icmp_ge (tgt := 40) hx hb dX12_costOf_9 (by decide) (fun hc => ?_) (fun hc => ?_)
      · replace h := ite_t hc h
        refine lv_iload_n hx hb dX12_costOf_40 rfl (lv_at hl 2 rfl) ?_
        have hq := Option.some.inj h
        exact W.iret (v := v2) hx hb hr (fun t ht hW => qc_mk (congrArg (fun z => Outcome.returned (some (Value.int z))) hq) (by rw [ht]; exact hI.nil)) hI.2.2 dX12_costOf_41 hlocks
      · replace h := ite_f hc h
        refine lv_iload_n hx hb dX12_costOf_12 rfl (lv_at hl 2 rfl) ?_
        refine lv_iload_n hx hb dX12_costOf_13 rfl (lv_at hl 1 rfl) ?_
        refine lv_iload_n hx hb dX12_costOf_14 rfl (lv_at hl 3 rfl) ?_
        refine lv_ishr hx hb dX12_costOf_15 ?_
        refine lv_iconst (v := 1) hx hb dX12_costOf_16 (by decide) ?_
        refine lv_iand hx hb dX12_costOf_17 ?_
        refine lv_iconst (v := 1) hx hb dX12_costOf_18 (by decide) ?_
        refine lv_icmp_ne (tgt := 31) hx hb dX12_costOf_19 (by decide) (fun hc => ?_) (fun hc => ?_)
        · replace h := ite_f hc h
          refine lv_iconst (v := 0) hx hb dX12_costOf_31 (by decide) ?_
          refine lv_iadd hx hb dX12_costOf_32 ?_
          obtain ⟨v2_33, qq, h⟩ := bn_e h
          refine topi qq ?_
          refine lv_istore_n (lv' := [(2, .int v2_33), (0, .ref (HB.size + 91)), (1, .int v1), (3, .int v3)]) hx hb dX12_costOf_33 rfl hl (by decide) rfl (fun ls hl => ?_)
          obtain ⟨v3_34, qq, h⟩ := bn_e h
          refine lv_iinc (v := v3_34) (lv' := [(3, .int v3_34), (2, .int v2_33), (0, .ref (HB.size + 91)), (1, .int v1)]) hx hb dX12_costOf_34 hl (k := 3) rfl (by rw [qq]; rfl) (by decide) rfl (fun ls hl => ?_)
          refine lv_goto (tgt := 4) hx hb dX12_costOf_37 (by decide) ?_
          exact hk4 H locs ls G40 v1 v2_33 v3_34  hI e40 (lv_sub hl [2, 3, 1, 0] rfl) h
        · replace h := ite_t hc h
          refine lv_aload_n hx hb dX12_costOf_22 rfl (lv_at hl 0 rfl) ?_
          refine gf_X12_224 hx hb hts hown hKK hI hN dX12_costOf_23 ?_
          refine lv_iload_n hx hb dX12_costOf_26 rfl (lv_at hl 3 rfl) ?_
          obtain ⟨hin_, h⟩ := ck_e h
          refine la_70 hx hb hKK hI e40 (lc162 hN) (kc162 hk0) hin_ dX12_costOf_27 ?_
          refine lv_goto (tgt := 32) hx hb dX12_costOf_28 (by decide) ?_
          refine lv_iadd hx hb dX12_costOf_32 ?_
          obtain ⟨v2_33, qq, h⟩ := bn_e h
          refine topi qq ?_
          refine lv_istore_n (lv' := [(2, .int v2_33), (0, .ref (HB.size + 91)), (1, .int v1), (3, .int v3)]) hx hb dX12_costOf_33 rfl hl (by decide) rfl (fun ls hl => ?_)
          obtain ⟨v3_34, qq, h⟩ := bn_e h
          refine lv_iinc (v := v3_34) (lv' := [(3, .int v3_34), (2, .int v2_33), (0, .ref (HB.size + 91)), (1, .int v1)]) hx hb dX12_costOf_34 hl (k := 3) rfl (by rw [qq]; rfl) (by decide) rfl (fun ls hl => ?_)
          refine lv_goto (tgt := 4) hx hb dX12_costOf_37 (by decide) ?_
          exact hk4 H locs ls G40 v1 v2_33 v3_34  hI e40 (lv_sub hl [2, 3, 1, 0] rfl) h
  show WX RM_X12_costOf p l e s m args below meth c HB (some (.int q)) (B_X12_costOf HB D y n κ σ q) s.heap [] (F0 m 0 ls [])
  generalize s.heap = H at hI ⊢
  unfold f_X12_costOf at h
  obtain ⟨locs, hlocs⟩ : ∃ x : List Loc, x = [] := ⟨_, rfl⟩
  rw [← hlocs] at hI ⊢
  refine lv_iconst (v := 0) hx hb dX12_costOf_0 (by decide) ?_
  refine lv_istore_n (lv' := [(2, .int 0), (0, .ref (HB.size + 91)), (1, .int v1)]) hx hb dX12_costOf_1 rfl hl (by decide) rfl (fun ls hl => ?_)
  refine lv_iconst (v := 0) hx hb dX12_costOf_2 (by decide) ?_
  refine lv_istore_n (lv' := [(3, .int 0), (2, .int 0), (0, .ref (HB.size + 91)), (1, .int v1)]) hx hb dX12_costOf_3 rfl hl (by decide) rfl (fun ls hl => ?_)
  exact b4  F H locs ls G40 v1 0 0  hI e40 (lv_sub hl [2, 3, 1, 0] rfl) h
noncomputable def f_X12_worthOf_l4b (F : Nat)  (k4 : Grp → Int32 → Int32 → Int32 → Option (Int32)) (G40 : Grp) (v1 : Int32) (v2 : Int32) (v3 : Int32) : Option (Int32) :=
  if (G40.1 91 93) ≤ v3 then some v2 else if ((v1 >>> (v3 &&& 31)) &&& 1) = 1 then ck v3 12 (bn ((v2 + (G40.1 163 v3.toNatClampNeg))) (fun v2_33 => bn (v3 + 1) (fun v3_34 => k4 G40 v1 v2_33 v3_34))) else bn ((v2 + 0)) (fun v2_33 => bn (v3 + 1) (fun v3_34 => k4 G40 v1 v2_33 v3_34))
noncomputable def f_X12_worthOf_l4 (F : Nat)  (fu : Nat) : Grp → Int32 → Int32 → Int32 → Option (Int32) := Nat.rec (motive := fun _ => Grp → Int32 → Int32 → Int32 → Option (Int32)) (fun _ _ _ _ => none) (fun _ ih => f_X12_worthOf_l4b F  ih) fu
noncomputable def f_X12_worthOf (F : Nat) (G40 : Grp) (v1 : Int32) : Option (Int32) :=
  f_X12_worthOf_l4 F  F G40 v1 0 0
def RM_X12_worthOf : Room := { frames := 0, cells := 0, slots := 0, locals := 0 }
abbrev B_X12_worthOf (HB : Heap) (D : va_G) (y : Nat → ClassId) (n : Nat) (κ : Nat → Nat) (σ : St) (q : Int32) : Heap → Prop := fun H => IV HB D y n n κ σ [] H
set_option maxRecDepth 100000 in
set_option maxHeartbeats 4000000 in
theorem c_X12_worthOf (l : Launch) (HB : Heap) (D : va_G) (y : Nat → ClassId) (F n : Nat) (κ : Nat → Nat) (σ : St) (hN : N0 ≤ n) (v1 : Int32)  (G40 : Grp) (e40 : σ 40 = G40) (q : Int32) (h : f_X12_worthOf F G40 v1 = some q) : MT l HB D y yX12_worthOf cX12_worthOf 4 (some .int) RM_X12_worthOf [.ref (HB.size + 91), .int v1] (IV HB D y n n κ σ []) (some (.int q)) (B_X12_worthOf HB D y n κ σ q) := by
  refine Met.ofW (cc := cX12_worthOf) (maxL := 4) (ret := (some .int)) (by decide) rfl ?_
  intro p e s m args below meth c s₁ BL hml hv
  obtain ⟨rfl, hI, hKK⟩ := hv
  have hx := BL.exec
  have hb := BL.bytes
  have hr := BL.returns
  have hts : ∀ w ∈ gtb, w.before _ s = true := fun w hw => atoms_spec BL.pre w (List.mem_cons_of_mem _ hw)
  have hml : c.maxLocals = 4 := hml
  have hown : s.vm.findClass RX12 = some m.cls := findClass_of_methodNamed BL.named
  have hlocks := BL.notSynchronized
  have hk0 := hI.1.2.2.2.2
  have hl := lv_entry ([.ref (HB.size + 91), .int v1]) (n := 4) (Nat.le_of_ble_eq_true rfl)
  rw [lg_entry_eq]
  generalize (lg_sl ([.ref (HB.size + 91), .int v1]) ++ List.replicate (4 - (lg_sl ([.ref (HB.size + 91), .int v1])).length) Slot.unset).toArray = ls at hl ⊢
  have hl : lv_has ls 4 [(0, .ref (HB.size + 91)), (1, .int v1)] := hl
  generalize hargs : ([.ref (HB.size + 91), .int v1] : List Value).toArray = args at *
  have b4 : ∀ (fu : Nat) (H : Heap) (locs : List Loc) (ls : Array Slot) (G40 : Grp) (v1 : Int32) (v2 : Int32) (v3 : Int32) , IV HB D y n n κ σ locs H → σ 40 = G40 → lv_has ls 4 [(0, .ref (HB.size + 91)), (1, .int v1), (2, .int v2), (3, .int v3)] → f_X12_worthOf_l4 F  fu G40 v1 v2 v3 = some q → WX RM_X12_worthOf p l e s m args below meth c HB (some (.int q)) (B_X12_worthOf HB D y n κ σ q) H locs (F0 m 4 ls []) := by
    intro  fu
    induction fu with
    | zero =>
      intro H locs ls G40 v1 v2 v3 hI e40 hl h
      exact absurd h (by intro h; cases h)
    | succ fu hk4 =>
      intro H locs ls G40 v1 v2 v3 hI e40 hl h
      have h : f_X12_worthOf_l4b F  (f_X12_worthOf_l4 F  fu) G40 v1 v2 v3 = some q := h
      generalize f_X12_worthOf_l4 F  fu = k4 at h hk4
      unfold f_X12_worthOf_l4b at h
      refine lv_iload_n hx hb dX12_worthOf_4 rfl (lv_at hl 3 rfl) ?_
      refine lv_aload_n hx hb dX12_worthOf_5 rfl (lv_at hl 0 rfl) ?_
      refine gt_X12_529 hx hb hts hown hKK hI e40 (lc91 hN) (kc91 hk0) dX12_worthOf_6 ?_
      refine lv_icmp_ge (tgt := 40) hx hb dX12_worthOf_9 (by decide) (fun hc => ?_) (fun hc => ?_)
      · replace h := ite_t hc h
        refine lv_iload_n hx hb dX12_worthOf_40 rfl (lv_at hl 2 rfl) ?_
        have hq := Option.some.inj h
        exact W.iret (v := v2) hx hb hr (fun t ht hW => qc_mk (congrArg (fun z => Outcome.returned (some (Value.int z))) hq) (by rw [ht]; exact hI.nil)) hI.2.2 dX12_worthOf_41 hlocks
      · replace h := ite_f hc h
        refine lv_iload_n hx hb dX12_worthOf_12 rfl (lv_at hl 2 rfl) ?_
        refine lv_iload_n hx hb dX12_worthOf_13 rfl (lv_at hl 1 rfl) ?_
        refine lv_iload_n hx hb dX12_worthOf_14 rfl (lv_at hl 3 rfl) ?_
        refine lv_ishr hx hb dX12_worthOf_15 ?_
        refine lv_iconst (v := 1) hx hb dX12_worthOf_16 (by decide) ?_
        refine lv_iand hx hb dX12_worthOf_17 ?_
        refine lv_iconst (v := 1) hx hb dX12_worthOf_18 (by decide) ?_
        refine lv_icmp_ne (tgt := 31) hx hb dX12_worthOf_19 (by decide) (fun hc => ?_) (fun hc => ?_)
        · replace h := ite_f hc h
          refine lv_iconst (v := 0) hx hb dX12_worthOf_31 (by decide) ?_
          refine lv_iadd hx hb dX12_worthOf_32 ?_
          obtain ⟨v2_33, qq, h⟩ := bn_e h
          refine topi qq ?_
          refine lv_istore_n (lv' := [(2, .int v2_33), (0, .ref (HB.size + 91)), (1, .int v1), (3, .int v3)]) hx hb dX12_worthOf_33 rfl hl (by decide) rfl (fun ls hl => ?_)
          obtain ⟨v3_34, qq, h⟩ := bn_e h
          refine lv_iinc (v := v3_34) (lv' := [(3, .int v3_34), (2, .int v2_33), (0, .ref (HB.size + 91)), (1, .int v1)]) hx hb dX12_worthOf_34 hl (k := 3) rfl (by rw [qq]; rfl) (by decide) rfl (fun ls hl => ?_)
          refine lv_goto (tgt := 4) hx hb dX12_worthOf_37 (by decide) ?_
          exact hk4 H locs ls G40 v1 v2_33 v3_34  hI e40 (lv_sub hl [2, 3, 1, 0] rfl) h
        · replace h := ite_t hc h
          refine lv_aload_n hx hb dX12_worthOf_22 rfl (lv_at hl 0 rfl) ?_
          refine gf_X12_227 hx hb hts hown hKK hI hN dX12_worthOf_23 ?_
          refine lv_iload_n hx hb dX12_worthOf_26 rfl (lv_at hl 3 rfl) ?_
          obtain ⟨hin_, h⟩ := ck_e h
          refine la_70 hx hb hKK hI e40 (lc163 hN) (kc163 hk0) hin_ dX12_worthOf_27 ?_
          refine lv_goto (tgt := 32) hx hb dX12_worthOf_28 (by decide) ?_
          refine lv_iadd hx hb dX12_worthOf_32 ?_
          obtain ⟨v2_33, qq, h⟩ := bn_e h
          refine topi qq ?_
          refine lv_istore_n (lv' := [(2, .int v2_33), (0, .ref (HB.size + 91)), (1, .int v1), (3, .int v3)]) hx hb dX12_worthOf_33 rfl hl (by decide) rfl (fun ls hl => ?_)
          obtain ⟨v3_34, qq, h⟩ := bn_e h
          refine lv_iinc (v := v3_34) (lv' := [(3, .int v3_34), (2, .int v2_33), (0, .ref (HB.size + 91)), (1, .int v1)]) hx hb dX12_worthOf_34 hl (k := 3) rfl (by rw [qq]; rfl) (by decide) rfl (fun ls hl => ?_)
          refine lv_goto (tgt := 4) hx hb dX12_worthOf_37 (by decide) ?_
          exact hk4 H locs ls G40 v1 v2_33 v3_34  hI e40 (lv_sub hl [2, 3, 1, 0] rfl) h
  show WX RM_X12_worthOf p l e s m args below meth c HB (some (.int q)) (B_X12_worthOf HB D y n κ σ q) s.heap [] (F0 m 0 ls [])
  generalize s.heap = H at hI ⊢
  unfold f_X12_worthOf at h
  obtain ⟨locs, hlocs⟩ : ∃ x : List Loc, x = [] := ⟨_, rfl⟩
  rw [← hlocs] at hI ⊢
  refine lv_iconst (v := 0) hx hb dX12_worthOf_0 (by decide) ?_
  refine lv_istore_n (lv' := [(2, .int 0), (0, .ref (HB.size + 91)), (1, .int v1)]) hx hb dX12_worthOf_1 rfl hl (by decide) rfl (fun ls hl => ?_)
  refine lv_iconst (v := 0) hx hb dX12_worthOf_2 (by decide) ?_
  refine lv_istore_n (lv' := [(3, .int 0), (2, .int 0), (0, .ref (HB.size + 91)), (1, .int v1)]) hx hb dX12_worthOf_3 rfl hl (by decide) rfl (fun ls hl => ?_)
  exact b4  F H locs ls G40 v1 0 0  hI e40 (lv_sub hl [2, 3, 1, 0] rfl) h
noncomputable def f_X12_choice_l20b (F : Nat)  (k20 : Grp → Grp → Grp → Int32 → Int32 → Int32 → Option (Int32)) (G24 : Grp) (G39 : Grp) (G40 : Grp) (v1 : Int32) (v2 : Int32) (v3 : Int32) : Option (Int32) :=
  if (1 <<< ((G40.1 91 93) &&& 31)) ≤ v3 then some v2 else ob (f_X12_canBuild F G40 v3 v1) (fun q_33 => if q_33 = 0 then bn (v3 + 1) (fun v3_96 => k20 G24 G39 G40 v1 v2 v3_96) else ob (f_X12_costOf F G40 v3) (fun q_41 => ck v1 6 (if (lg_cmp (q_41.toInt64) (G39.2.1 157 v1.toNatClampNeg)) ≤ 0 then ob (f_X12_worthOf F G40 v3) (fun q_60 => ob (f_X12_worthOf F G40 v2) (fun q_65 => bn ((q_60 - q_65)) (fun v4_69 => if 0 < v4_69 then bn (v3 + 1) (fun v3_96 => k20 G24 G39 G40 v1 v3 v3_96) else if v4_69 = 0 then ob (f_X12_costOf F G40 v3) (fun q_83 => ob (f_X12_costOf F G40 v2) (fun q_88 => if q_88 ≤ q_83 then bn (v3 + 1) (fun v3_96 => k20 G24 G39 G40 v1 v2 v3_96) else bn (v3 + 1) (fun v3_96 => k20 G24 G39 G40 v1 v3 v3_96))) else bn (v3 + 1) (fun v3_96 => k20 G24 G39 G40 v1 v2 v3_96)))) else bn (v3 + 1) (fun v3_96 => k20 G24 G39 G40 v1 v2 v3_96))))
noncomputable def f_X12_choice_l20 (F : Nat)  (fu : Nat) : Grp → Grp → Grp → Int32 → Int32 → Int32 → Option (Int32) := Nat.rec (motive := fun _ => Grp → Grp → Grp → Int32 → Int32 → Int32 → Option (Int32)) (fun _ _ _ _ _ _ => none) (fun _ ih => f_X12_choice_l20b F  ih) fu
noncomputable def f_X12_choice (F : Nat) (G24 : Grp) (G39 : Grp) (G40 : Grp) (v1 : Int32) : Option (Int32) :=
  ob (f_X12_in F v1 0 ((G24.1 91 1) - 1)) (fun q_8 => if q_8 = 0 then some (-1) else f_X12_choice_l20 F  F G24 G39 G40 v1 0 1)
def RM_X12_choice : Room := { frames := 1, cells := 0, slots := 0, locals := 23 }
abbrev B_X12_choice (HB : Heap) (D : va_G) (y : Nat → ClassId) (n : Nat) (κ : Nat → Nat) (σ : St) (q : Int32) : Heap → Prop := fun H => IV HB D y n n κ σ [] H
set_option maxRecDepth 100000 in
set_option maxHeartbeats 4000000 in
theorem c_X12_choice (l : Launch) (HB : Heap) (D : va_G) (y : Nat → ClassId) (F n : Nat) (κ : Nat → Nat) (σ : St) (hN : N0 ≤ n) (v1 : Int32)  (G24 : Grp) (e24 : σ 24 = G24) (G39 : Grp) (e39 : σ 39 = G39) (G40 : Grp) (e40 : σ 40 = G40) (q : Int32) (h : f_X12_choice F G24 G39 G40 v1 = some q) : MT l HB D y yX12_choice cX12_choice 5 (some .int) RM_X12_choice [.ref (HB.size + 91), .int v1] (IV HB D y n n κ σ []) (some (.int q)) (B_X12_choice HB D y n κ σ q) := by
  refine Met.ofW (cc := cX12_choice) (maxL := 5) (ret := (some .int)) (by decide) rfl ?_
  intro p e s m args below meth c s₁ BL hml hv
  obtain ⟨rfl, hI, hKK⟩ := hv
  have hx := BL.exec
  have hb := BL.bytes
  have hr := BL.returns
  have hts : ∀ w ∈ gtb, w.before _ s = true := fun w hw => atoms_spec BL.pre w (List.mem_cons_of_mem _ hw)
  have hml : c.maxLocals = 5 := hml
  have hown : s.vm.findClass RX12 = some m.cls := findClass_of_methodNamed BL.named
  have hlocks := BL.notSynchronized
  have hk0 := hI.1.2.2.2.2
  have hl := lv_entry ([.ref (HB.size + 91), .int v1]) (n := 5) (Nat.le_of_ble_eq_true rfl)
  rw [lg_entry_eq]
  generalize (lg_sl ([.ref (HB.size + 91), .int v1]) ++ List.replicate (5 - (lg_sl ([.ref (HB.size + 91), .int v1])).length) Slot.unset).toArray = ls at hl ⊢
  have hl : lv_has ls 5 [(0, .ref (HB.size + 91)), (1, .int v1)] := hl
  generalize hargs : ([.ref (HB.size + 91), .int v1] : List Value).toArray = args at *
  have b20 : ∀ (fu : Nat) (H : Heap) (locs : List Loc) (ls : Array Slot) (G24 : Grp) (G39 : Grp) (G40 : Grp) (v1 : Int32) (v2 : Int32) (v3 : Int32) , IV HB D y n n κ σ locs H → σ 24 = G24 → σ 39 = G39 → σ 40 = G40 → lv_has ls 5 [(0, .ref (HB.size + 91)), (1, .int v1), (2, .int v2), (3, .int v3)] → f_X12_choice_l20 F  fu G24 G39 G40 v1 v2 v3 = some q → WX RM_X12_choice p l e s m args below meth c HB (some (.int q)) (B_X12_choice HB D y n κ σ q) H locs (F0 m 20 ls []) := by
    intro  fu
    induction fu with
    | zero =>
      intro H locs ls G24 G39 G40 v1 v2 v3 hI e24 e39 e40 hl h
      exact absurd h (by intro h; cases h)
    | succ fu hk20 =>
      intro H locs ls G24 G39 G40 v1 v2 v3 hI e24 e39 e40 hl h
      have h : f_X12_choice_l20b F  (f_X12_choice_l20 F  fu) G24 G39 G40 v1 v2 v3 = some q := h
      generalize f_X12_choice_l20 F  fu = k20 at h hk20
      unfold f_X12_choice_l20b at h
      refine lv_iload_n hx hb dX12_choice_20 rfl (lv_at hl 3 rfl) ?_
      refine lv_iconst (v := 1) hx hb dX12_choice_21 (by decide) ?_
      refine lv_aload_n hx hb dX12_choice_22 rfl (lv_at hl 0 rfl) ?_
      refine gt_X12_529 hx hb hts hown hKK hI e40 (lc91 hN) (kc91 hk0) dX12_choice_23 ?_
      refine lv_ishl hx hb dX12_choice_26 ?_
      refine lv_icmp_ge (tgt := 102) hx hb dX12_choice_27 (by decide) (fun hc => ?_) (fun hc => ?_)
      · replace h := ite_t hc h
        refine lv_iload_n hx hb dX12_choice_102 rfl (lv_at hl 2 rfl) ?_
        have hq := Option.some.inj h
        exact W.iret (v := v2) hx hb hr (fun t ht hW => qc_mk (congrArg (fun z => Outcome.returned (some (Value.int z))) hq) (by rw [ht]; exact hI.nil)) hI.2.2 dX12_choice_103 hlocks
      · replace h := ite_f hc h
        refine lv_aload_n hx hb dX12_choice_30 rfl (lv_at hl 0 rfl) ?_
        refine lv_iload_n hx hb dX12_choice_31 rfl (lv_at hl 3 rfl) ?_
        refine lv_iload_n hx hb dX12_choice_32 rfl (lv_at hl 1 rfl) ?_
        obtain ⟨q_33, hq_33, h⟩ := ob_e h
        refine r_callV (As := [.int v3, .int v1]) (rest := []) hx hb hml hts hown (c_X12_canBuild l HB D y F n κ σ hN v3 v1 G40 e40 q_33 hq_33) cal_X12_canBuild im_X12_canBuild se_X12_canBuild lm_X12_532 ⟨Nat.le_of_ble_eq_true rfl, Nat.le_of_ble_eq_true rfl⟩ hI.nil hKK (r_recv hKK hI (hE12 HB.size y) rfl (lc91 hN) (kc91 hk0)) rfl hl.1 hI.2.2 rfl (Nat.le_of_ble_eq_true rfl) dX12_choice_33 ⟨Nat.le_of_ble_eq_true rfl, Nat.le_of_ble_eq_true rfl⟩ rfl rfl rfl (fun H locs hB hlo => ?_)
        have hI := hB.re hlo
        refine lv_if_eq (tgt := 96) hx hb dX12_choice_36 (by decide) (fun hc => ?_) (fun hc => ?_)
        · replace h := ite_t hc h
          obtain ⟨v3_96, qq, h⟩ := bn_e h
          refine lv_iinc (v := v3_96) (lv' := [(3, .int v3_96), (0, .ref (HB.size + 91)), (1, .int v1), (2, .int v2)]) hx hb dX12_choice_96 hl (k := 3) rfl (by rw [qq]; rfl) (by decide) rfl (fun ls hl => ?_)
          refine lv_goto (tgt := 20) hx hb dX12_choice_99 (by decide) ?_
          exact hk20 H locs ls G24 G39 G40 v1 v2 v3_96  hI e24 e39 e40 (lv_sub hl [1, 2, 3, 0] rfl) h
        · replace h := ite_f hc h
          refine lv_aload_n hx hb dX12_choice_39 rfl (lv_at hl 0 rfl) ?_
          refine lv_iload_n hx hb dX12_choice_40 rfl (lv_at hl 3 rfl) ?_
          obtain ⟨q_41, hq_41, h⟩ := ob_e h
          refine r_callV (As := [.int v3]) (rest := []) hx hb hml hts hown (c_X12_costOf l HB D y F n κ σ hN v3 G40 e40 q_41 hq_41) cal_X12_costOf im_X12_costOf se_X12_costOf lm_X12_535 ⟨Nat.le_of_ble_eq_true rfl, Nat.le_of_ble_eq_true rfl⟩ hI.nil hKK (r_recv hKK hI (hE12 HB.size y) rfl (lc91 hN) (kc91 hk0)) rfl hl.1 hI.2.2 rfl (Nat.le_of_ble_eq_true rfl) dX12_choice_41 ⟨Nat.le_of_ble_eq_true rfl, Nat.le_of_ble_eq_true rfl⟩ rfl rfl rfl (fun H locs hB hlo => ?_)
          have hI := hB.re hlo
          refine lv_i2l hx hb dX12_choice_44 rfl ?_
          refine lv_aload_n hx hb dX12_choice_45 rfl (lv_at hl 0 rfl) ?_
          refine gf_X12_209 hx hb hts hown hKK hI hN dX12_choice_46 ?_
          refine lv_iload_n hx hb dX12_choice_49 rfl (lv_at hl 1 rfl) ?_
          obtain ⟨hin_, h⟩ := ck_e h
          refine la_67 hx hb hKK hI e39 (lc157 hN) (kc157 hk0) hin_ dX12_choice_50 ?_
          refine W.lcmp hx hb dX12_choice_51 ?_
          refine lv_if_le (tgt := 58) hx hb dX12_choice_52 (by decide) (fun hc => ?_) (fun hc => ?_)
          · replace h := ite_t hc h
            refine lv_aload_n hx hb dX12_choice_58 rfl (lv_at hl 0 rfl) ?_
            refine lv_iload_n hx hb dX12_choice_59 rfl (lv_at hl 3 rfl) ?_
            obtain ⟨q_60, hq_60, h⟩ := ob_e h
            refine r_callV (As := [.int v3]) (rest := []) hx hb hml hts hown (c_X12_worthOf l HB D y F n κ σ hN v3 G40 e40 q_60 hq_60) cal_X12_worthOf im_X12_worthOf se_X12_worthOf lm_X12_538 ⟨Nat.le_of_ble_eq_true rfl, Nat.le_of_ble_eq_true rfl⟩ hI.nil hKK (r_recv hKK hI (hE12 HB.size y) rfl (lc91 hN) (kc91 hk0)) rfl hl.1 hI.2.2 rfl (Nat.le_of_ble_eq_true rfl) dX12_choice_60 ⟨Nat.le_of_ble_eq_true rfl, Nat.le_of_ble_eq_true rfl⟩ rfl rfl rfl (fun H locs hB hlo => ?_)
            have hI := hB.re hlo
            refine lv_aload_n hx hb dX12_choice_63 rfl (lv_at hl 0 rfl) ?_
            refine lv_iload_n hx hb dX12_choice_64 rfl (lv_at hl 2 rfl) ?_
            obtain ⟨q_65, hq_65, h⟩ := ob_e h
            refine r_callV (As := [.int v2]) (rest := [.int q_60]) hx hb hml hts hown (c_X12_worthOf l HB D y F n κ σ hN v2 G40 e40 q_65 hq_65) cal_X12_worthOf im_X12_worthOf se_X12_worthOf lm_X12_538 ⟨Nat.le_of_ble_eq_true rfl, Nat.le_of_ble_eq_true rfl⟩ hI.nil hKK (r_recv hKK hI (hE12 HB.size y) rfl (lc91 hN) (kc91 hk0)) rfl hl.1 hI.2.2 rfl (Nat.le_of_ble_eq_true rfl) dX12_choice_65 ⟨Nat.le_of_ble_eq_true rfl, Nat.le_of_ble_eq_true rfl⟩ rfl rfl rfl (fun H locs hB hlo => ?_)
            have hI := hB.re hlo
            refine lv_isub hx hb dX12_choice_68 ?_
            obtain ⟨v4_69, qq, h⟩ := bn_e h
            refine topi qq ?_
            refine lv_istore (lv' := [(4, .int v4_69), (0, .ref (HB.size + 91)), (1, .int v1), (2, .int v2), (3, .int v3)]) hx hb dX12_choice_69 hl (by decide) rfl (fun ls hl => ?_)
            refine lv_iload hx hb dX12_choice_71 (lv_at hl 0 rfl) ?_
            refine lv_if_gt (tgt := 94) hx hb dX12_choice_73 (by decide) (fun hc => ?_) (fun hc => ?_)
            · replace h := ite_t hc h
              refine lv_iload_n hx hb dX12_choice_94 rfl (lv_at hl 4 rfl) ?_
              refine lv_istore_n (lv' := [(2, .int v3), (4, .int v4_69), (0, .ref (HB.size + 91)), (1, .int v1), (3, .int v3)]) hx hb dX12_choice_95 rfl hl (by decide) rfl (fun ls hl => ?_)
              obtain ⟨v3_96, qq, h⟩ := bn_e h
              refine lv_iinc (v := v3_96) (lv' := [(3, .int v3_96), (2, .int v3), (4, .int v4_69), (0, .ref (HB.size + 91)), (1, .int v1)]) hx hb dX12_choice_96 hl (k := 4) rfl (by rw [qq]; rfl) (by decide) rfl (fun ls hl => ?_)
              refine lv_goto (tgt := 20) hx hb dX12_choice_99 (by decide) ?_
              exact hk20 H locs ls G24 G39 G40 v1 v3 v3_96  hI e24 e39 e40 (lv_sub hl [3, 4, 1, 0] rfl) h
            · replace h := ite_f hc h
              refine lv_iload hx hb dX12_choice_76 (lv_at hl 0 rfl) ?_
              refine lv_if_ne (tgt := 96) hx hb dX12_choice_78 (by decide) (fun hc => ?_) (fun hc => ?_)
              · replace h := ite_f hc h
                obtain ⟨v3_96, qq, h⟩ := bn_e h
                refine lv_iinc (v := v3_96) (lv' := [(3, .int v3_96), (4, .int v4_69), (0, .ref (HB.size + 91)), (1, .int v1), (2, .int v2)]) hx hb dX12_choice_96 hl (k := 4) rfl (by rw [qq]; rfl) (by decide) rfl (fun ls hl => ?_)
                refine lv_goto (tgt := 20) hx hb dX12_choice_99 (by decide) ?_
                exact hk20 H locs ls G24 G39 G40 v1 v2 v3_96  hI e24 e39 e40 (lv_sub hl [2, 3, 4, 0] rfl) h
              · replace h := ite_t hc h
                refine lv_aload_n hx hb dX12_choice_81 rfl (lv_at hl 1 rfl) ?_
                refine lv_iload_n hx hb dX12_choice_82 rfl (lv_at hl 4 rfl) ?_
                obtain ⟨q_83, hq_83, h⟩ := ob_e h
                refine r_callV (As := [.int v3]) (rest := []) hx hb hml hts hown (c_X12_costOf l HB D y F n κ σ hN v3 G40 e40 q_83 hq_83) cal_X12_costOf im_X12_costOf se_X12_costOf lm_X12_535 ⟨Nat.le_of_ble_eq_true rfl, Nat.le_of_ble_eq_true rfl⟩ hI.nil hKK (r_recv hKK hI (hE12 HB.size y) rfl (lc91 hN) (kc91 hk0)) rfl hl.1 hI.2.2 rfl (Nat.le_of_ble_eq_true rfl) dX12_choice_83 ⟨Nat.le_of_ble_eq_true rfl, Nat.le_of_ble_eq_true rfl⟩ rfl rfl rfl (fun H locs hB hlo => ?_)
                have hI := hB.re hlo
                refine lv_aload_n hx hb dX12_choice_86 rfl (lv_at hl 1 rfl) ?_
                refine lv_iload_n hx hb dX12_choice_87 rfl (lv_at hl 3 rfl) ?_
                obtain ⟨q_88, hq_88, h⟩ := ob_e h
                refine r_callV (As := [.int v2]) (rest := [.int q_83]) hx hb hml hts hown (c_X12_costOf l HB D y F n κ σ hN v2 G40 e40 q_88 hq_88) cal_X12_costOf im_X12_costOf se_X12_costOf lm_X12_535 ⟨Nat.le_of_ble_eq_true rfl, Nat.le_of_ble_eq_true rfl⟩ hI.nil hKK (r_recv hKK hI (hE12 HB.size y) rfl (lc91 hN) (kc91 hk0)) rfl hl.1 hI.2.2 rfl (Nat.le_of_ble_eq_true rfl) dX12_choice_88 ⟨Nat.le_of_ble_eq_true rfl, Nat.le_of_ble_eq_true rfl⟩ rfl rfl rfl (fun H locs hB hlo => ?_)
                have hI := hB.re hlo
                refine lv_icmp_ge (tgt := 96) hx hb dX12_choice_91 (by decide) (fun hc => ?_) (fun hc => ?_)
                · replace h := ite_t hc h
                  obtain ⟨v3_96, qq, h⟩ := bn_e h
                  refine lv_iinc (v := v3_96) (lv' := [(3, .int v3_96), (4, .int v4_69), (0, .ref (HB.size + 91)), (1, .int v1), (2, .int v2)]) hx hb dX12_choice_96 hl (k := 4) rfl (by rw [qq]; rfl) (by decide) rfl (fun ls hl => ?_)
                  refine lv_goto (tgt := 20) hx hb dX12_choice_99 (by decide) ?_
                  exact hk20 H locs ls G24 G39 G40 v1 v2 v3_96  hI e24 e39 e40 (lv_sub hl [2, 3, 4, 0] rfl) h
                · replace h := ite_f hc h
                  refine lv_iload_n hx hb dX12_choice_94 rfl (lv_at hl 4 rfl) ?_
                  refine lv_istore_n (lv' := [(2, .int v3), (4, .int v4_69), (0, .ref (HB.size + 91)), (1, .int v1), (3, .int v3)]) hx hb dX12_choice_95 rfl hl (by decide) rfl (fun ls hl => ?_)
                  obtain ⟨v3_96, qq, h⟩ := bn_e h
                  refine lv_iinc (v := v3_96) (lv' := [(3, .int v3_96), (2, .int v3), (4, .int v4_69), (0, .ref (HB.size + 91)), (1, .int v1)]) hx hb dX12_choice_96 hl (k := 4) rfl (by rw [qq]; rfl) (by decide) rfl (fun ls hl => ?_)
                  refine lv_goto (tgt := 20) hx hb dX12_choice_99 (by decide) ?_
                  exact hk20 H locs ls G24 G39 G40 v1 v3 v3_96  hI e24 e39 e40 (lv_sub hl [3, 4, 1, 0] rfl) h
          · replace h := ite_f hc h
            refine lv_goto (tgt := 96) hx hb dX12_choice_55 (by decide) ?_
            obtain ⟨v3_96, qq, h⟩ := bn_e h
            refine lv_iinc (v := v3_96) (lv' := [(3, .int v3_96), (0, .ref (HB.size + 91)), (1, .int v1), (2, .int v2)]) hx hb dX12_choice_96 hl (k := 3) rfl (by rw [qq]; rfl) (by decide) rfl (fun ls hl => ?_)
            refine lv_goto (tgt := 20) hx hb dX12_choice_99 (by decide) ?_
            exact hk20 H locs ls G24 G39 G40 v1 v2 v3_96  hI e24 e39 e40 (lv_sub hl [1, 2, 3, 0] rfl) h
  show WX RM_X12_choice p l e s m args below meth c HB (some (.int q)) (B_X12_choice HB D y n κ σ q) s.heap [] (F0 m 0 ls [])
  generalize s.heap = H at hI ⊢
  unfold f_X12_choice at h
  obtain ⟨locs, hlocs⟩ : ∃ x : List Loc, x = [] := ⟨_, rfl⟩
  rw [← hlocs] at hI ⊢
  refine lv_iload_n hx hb dX12_choice_0 rfl (lv_at hl 1 rfl) ?_
  refine lv_iconst (v := 0) hx hb dX12_choice_1 (by decide) ?_
  refine lv_aload_n hx hb dX12_choice_2 rfl (lv_at hl 0 rfl) ?_
  refine gt_X12_264 hx hb hts hown hKK hI e24 (lc91 hN) (kc91 hk0) dX12_choice_3 ?_
  refine lv_iconst (v := 1) hx hb dX12_choice_6 (by decide) ?_
  refine lv_isub hx hb dX12_choice_7 ?_
  obtain ⟨q_8, hq_8, h⟩ := ob_e h
  refine r_callS (As := [.int v1, .int 0, .int ((G24.1 91 1) - 1)]) (rest := []) hx hb hml hts hown (c_X12_in l HB D y F n κ σ hN v1 0 ((G24.1 91 1) - 1)  q_8 hq_8) cal_X12_in st_X12_in lm_X12_260 ⟨Nat.le_of_ble_eq_true rfl, Nat.le_of_ble_eq_true rfl⟩ hI.nil hKK rfl hl.1 hI.2.2 rfl (Nat.le_of_ble_eq_true rfl) dX12_choice_8 ⟨Nat.le_of_ble_eq_true rfl, Nat.le_of_ble_eq_true rfl⟩ rfl rfl rfl (fun H locs hB hlo => ?_)
  have hI := hB.re hlo
  refine lv_if_ne (tgt := 16) hx hb dX12_choice_11 (by decide) (fun hc => ?_) (fun hc => ?_)
  · replace h := ite_f hc h
    refine lv_iconst (v := 0) hx hb dX12_choice_16 (by decide) ?_
    refine lv_istore_n (lv' := [(2, .int 0), (0, .ref (HB.size + 91)), (1, .int v1)]) hx hb dX12_choice_17 rfl hl (by decide) rfl (fun ls hl => ?_)
    refine lv_iconst (v := 1) hx hb dX12_choice_18 (by decide) ?_
    refine lv_istore_n (lv' := [(3, .int 1), (2, .int 0), (0, .ref (HB.size + 91)), (1, .int v1)]) hx hb dX12_choice_19 rfl hl (by decide) rfl (fun ls hl => ?_)
    exact b20  F H locs ls G24 G39 G40 v1 0 1  hI e24 e39 e40 (lv_sub hl [2, 3, 1, 0] rfl) h
  · replace h := ite_t hc h
    refine lv_iconst (v := (-1)) hx hb dX12_choice_14 (by decide) ?_
    have hq := Option.some.inj h
    exact W.iret (v := (-1)) hx hb hr (fun t ht hW => qc_mk (congrArg (fun z => Outcome.returned (some (Value.int z))) hq) (by rw [ht]; exact hI.nil)) hI.2.2 dX12_choice_15 hlocks
noncomputable def f_X12_build_l21b (F : Nat)  (k21 : Grp → Grp → Grp → Int32 → Int32 → Int32 → Int32 → Option (Int32 × Grp × Grp)) (G24 : Grp) (G39 : Grp) (G40 : Grp) (v1 : Int32) (v2 : Int32) (v3 : Int32) (v4 : Int32) : Option (Int32 × Grp × Grp) :=
  if (G40.1 91 93) ≤ v4 then ck v1 6 (ck v1 6 (bn (gJ G39 157 v1.toNatClampNeg ((G39.2.1 157 v1.toNatClampNeg) - v3.toInt64)) (fun G39_68 => bn (gJ G39_68 91 88 ((G39_68.2.1 91 88) + v3.toInt64)) (fun G39_77 => some (v3, G39_77, G40))))) else if ((v2 >>> (v4 &&& 31)) &&& 1) = 1 then ck v4 12 (bn (gI G40 164 v4.toNatClampNeg (vp_nar .boolean 1)) (fun G40_47 => bn (v4 + 1) (fun v4_48 => k21 G24 G39 G40_47 v1 v2 v3 v4_48))) else bn (v4 + 1) (fun v4_48 => k21 G24 G39 G40 v1 v2 v3 v4_48)
noncomputable def f_X12_build_l21 (F : Nat)  (fu : Nat) : Grp → Grp → Grp → Int32 → Int32 → Int32 → Int32 → Option (Int32 × Grp × Grp) := Nat.rec (motive := fun _ => Grp → Grp → Grp → Int32 → Int32 → Int32 → Int32 → Option (Int32 × Grp × Grp)) (fun _ _ _ _ _ _ _ => none) (fun _ ih => f_X12_build_l21b F  ih) fu
noncomputable def f_X12_build (F : Nat) (G24 : Grp) (G39 : Grp) (G40 : Grp) (v1 : Int32) : Option (Int32 × Grp × Grp) :=
  ob (f_X12_choice F G24 G39 G40 v1) (fun q_2 => if 0 < q_2 then ob (f_X12_costOf F G40 q_2) (fun q_14 => f_X12_build_l21 F  F G24 G39 G40 v1 q_2 q_14 0) else some ((-1), G39, G40))
def RM_X12_build : Room := { frames := 2, cells := 0, slots := 0, locals := 47 }
abbrev W_X12_build : List Nat := [39, 40]
abbrev B_X12_build (HB : Heap) (D : va_G) (y : Nat → ClassId) (n : Nat) (κ : Nat → Nat) (σ0 : St) (q : Int32 × Grp × Grp) : Heap → Prop := fun H => ∃ σ : St, IV HB D y n n κ σ [] H ∧ σ 39 = q.2.1 ∧ σ 40 = q.2.2 ∧ ∀ j, j ∉ W_X12_build → σ j = σ0 j
set_option maxRecDepth 100000 in
set_option maxHeartbeats 4000000 in
theorem c_X12_build (l : Launch) (HB : Heap) (D : va_G) (y : Nat → ClassId) (F n : Nat) (κ : Nat → Nat) (σ0 : St) (hN : N0 ≤ n) (v1 : Int32)  (G24 : Grp) (e24 : σ0 24 = G24) (G39 : Grp) (e39 : σ0 39 = G39) (G40 : Grp) (e40 : σ0 40 = G40) (q : Int32 × Grp × Grp) (h : f_X12_build F G24 G39 G40 v1 = some q) : MT l HB D y yX12_build cX12_build 5 (some .int) RM_X12_build [.ref (HB.size + 91), .int v1] (IV HB D y n n κ σ0 []) (some (.int q.1)) (B_X12_build HB D y n κ σ0 q) := by
  refine Met.ofW (cc := cX12_build) (maxL := 5) (ret := (some .int)) (by decide) rfl ?_
  intro p e s m args below meth c s₁ BL hml hv
  obtain ⟨rfl, hI, hKK⟩ := hv
  have hx := BL.exec
  have hb := BL.bytes
  have hr := BL.returns
  have hts : ∀ w ∈ gtb, w.before _ s = true := fun w hw => atoms_spec BL.pre w (List.mem_cons_of_mem _ hw)
  have hml : c.maxLocals = 5 := hml
  have hown : s.vm.findClass RX12 = some m.cls := findClass_of_methodNamed BL.named
  have hlocks := BL.notSynchronized
  have hk0 := hI.1.2.2.2.2
  have hl := lv_entry ([.ref (HB.size + 91), .int v1]) (n := 5) (Nat.le_of_ble_eq_true rfl)
  rw [lg_entry_eq]
  generalize (lg_sl ([.ref (HB.size + 91), .int v1]) ++ List.replicate (5 - (lg_sl ([.ref (HB.size + 91), .int v1])).length) Slot.unset).toArray = ls at hl ⊢
  have hl : lv_has ls 5 [(0, .ref (HB.size + 91)), (1, .int v1)] := hl
  generalize hargs : ([.ref (HB.size + 91), .int v1] : List Value).toArray = args at *
  have b21 : ∀ (fu : Nat) (σ : St) (H : Heap) (locs : List Loc) (ls : Array Slot) (G24 : Grp) (G39 : Grp) (G40 : Grp) (v1 : Int32) (v2 : Int32) (v3 : Int32) (v4 : Int32) , IV HB D y n n κ σ locs H → σ 24 = G24 → σ 39 = G39 → σ 40 = G40 → (∀ j, j ∉ W_X12_build → σ j = σ0 j) → lv_has ls 5 [(0, .ref (HB.size + 91)), (1, .int v1), (2, .int v2), (3, .int v3), (4, .int v4)] → f_X12_build_l21 F  fu G24 G39 G40 v1 v2 v3 v4 = some q → WX RM_X12_build p l e s m args below meth c HB (some (.int q.1)) (B_X12_build HB D y n κ σ0 q) H locs (F0 m 21 ls []) := by
    intro  fu
    induction fu with
    | zero =>
      intro σ H locs ls G24 G39 G40 v1 v2 v3 v4 hI e24 e39 e40 fr hl h
      exact absurd h (by intro h; cases h)
    | succ fu hk21 =>
      intro σ H locs ls G24 G39 G40 v1 v2 v3 v4 hI e24 e39 e40 fr hl h
      have h : f_X12_build_l21b F  (f_X12_build_l21 F  fu) G24 G39 G40 v1 v2 v3 v4 = some q := h
      generalize f_X12_build_l21 F  fu = k21 at h hk21
      unfold f_X12_build_l21b at h
      refine lv_iload hx hb dX12_build_21 (lv_at hl 4 rfl) ?_
      refine lv_aload_n hx hb dX12_build_23 rfl (lv_at hl 0 rfl) ?_
      refine gt_X12_529 hx hb hts hown hKK hI e40 (lc91 hN) (kc91 hk0) dX12_build_24 ?_
      refine lv_icmp_ge (tgt := 54) hx hb dX12_build_27 (by decide) (fun hc => ?_) (fun hc => ?_)
      · replace h := ite_t hc h
        refine lv_aload_n hx hb dX12_build_54 rfl (lv_at hl 0 rfl) ?_
        refine gf_X12_209 hx hb hts hown hKK hI hN dX12_build_55 ?_
        refine lv_iload_n hx hb dX12_build_58 rfl (lv_at hl 1 rfl) ?_
        refine lv_aload_n hx hb dX12_build_59 rfl (lv_at hl 0 rfl) ?_
        refine gf_X12_209 hx hb hts hown hKK hI hN dX12_build_60 ?_
        refine lv_iload_n hx hb dX12_build_63 rfl (lv_at hl 1 rfl) ?_
        obtain ⟨hin_, h⟩ := ck_e h
        refine la_67 hx hb hKK hI e39 (lc157 hN) (kc157 hk0) hin_ dX12_build_64 ?_
        refine lv_iload_n hx hb dX12_build_65 rfl (lv_at hl 3 rfl) ?_
        refine lv_i2l hx hb dX12_build_66 rfl ?_
        refine lv_lsub hx hb dX12_build_67 ?_
        obtain ⟨hin_, h⟩ := ck_e h
        obtain ⟨G39_68, qq, h⟩ := bn_e h
        refine sa_67 hx hb hKK hI e39 (lc157 hN) (kc157 hk0) hin_ dX12_build_68 (fun σ H locs hI ew ho => ?_)
        have e39 := ew.trans qq.symm
        have e24 := (ho 24 (nn rfl)).trans e24
        have e40 := (ho 40 (nn rfl)).trans e40
        have fr := frs fr ho (by decide)
        refine lv_aload_n hx hb dX12_build_69 rfl (lv_at hl 0 rfl) ?_
        refine lv_aload_n hx hb dX12_build_70 rfl (lv_at hl 0 rfl) ?_
        refine gt_X12_526 hx hb hts hown hKK hI e39 (lc91 hN) (kc91 hk0) dX12_build_71 ?_
        refine lv_iload_n hx hb dX12_build_74 rfl (lv_at hl 3 rfl) ?_
        refine lv_i2l hx hb dX12_build_75 rfl ?_
        refine lv_ladd hx hb dX12_build_76 ?_
        obtain ⟨G39_77, qq, h⟩ := bn_e h
        refine pt_X12_526 hx hb hts hown hKK hI e39 (lc91 hN) (kc91 hk0) dX12_build_77 (fun σ H locs hI ew ho => ?_)
        have e39 := ew.trans qq.symm
        have e24 := (ho 24 (nn rfl)).trans e24
        have e40 := (ho 40 (nn rfl)).trans e40
        have fr := frs fr ho (by decide)
        refine lv_iload_n hx hb dX12_build_80 rfl (lv_at hl 3 rfl) ?_
        have hq := Option.some.inj h
        exact W.iret (v := v3) hx hb hr (fun t ht hW => qc_mk (congrArg (fun z => Outcome.returned (some (Value.int z.1))) hq) (by rw [ht]; exact ⟨σ, hI.nil, e39.trans (congrArg (fun z => z.2.1) hq), e40.trans (congrArg (fun z => z.2.2) hq), fr⟩)) hI.2.2 dX12_build_81 hlocks
      · replace h := ite_f hc h
        refine lv_iload_n hx hb dX12_build_30 rfl (lv_at hl 2 rfl) ?_
        refine lv_iload hx hb dX12_build_31 (lv_at hl 4 rfl) ?_
        refine lv_ishr hx hb dX12_build_33 ?_
        refine lv_iconst (v := 1) hx hb dX12_build_34 (by decide) ?_
        refine lv_iand hx hb dX12_build_35 ?_
        refine lv_iconst (v := 1) hx hb dX12_build_36 (by decide) ?_
        refine lv_icmp_ne (tgt := 48) hx hb dX12_build_37 (by decide) (fun hc => ?_) (fun hc => ?_)
        · replace h := ite_f hc h
          obtain ⟨v4_48, qq, h⟩ := bn_e h
          refine lv_iinc (v := v4_48) (lv' := [(4, .int v4_48), (0, .ref (HB.size + 91)), (1, .int v1), (2, .int v2), (3, .int v3)]) hx hb dX12_build_48 hl (k := 4) rfl (by rw [qq]; rfl) (by decide) rfl (fun ls hl => ?_)
          refine lv_goto (tgt := 21) hx hb dX12_build_51 (by decide) ?_
          exact hk21 σ H locs ls G24 G39 G40 v1 v2 v3 v4_48  hI e24 e39 e40 fr (lv_sub hl [1, 2, 3, 4, 0] rfl) h
        · replace h := ite_t hc h
          refine lv_aload_n hx hb dX12_build_40 rfl (lv_at hl 0 rfl) ?_
          refine gf_X12_230 hx hb hts hown hKK hI hN dX12_build_41 ?_
          refine lv_iload hx hb dX12_build_44 (lv_at hl 4 rfl) ?_
          refine lv_iconst (v := 1) hx hb dX12_build_46 (by decide) ?_
          obtain ⟨hin_, h⟩ := ck_e h
          obtain ⟨G40_47, qq, h⟩ := bn_e h
          refine sa_71 hx hb hKK hI e40 (lc164 hN) (kc164 hk0) hin_ dX12_build_47 (fun σ H locs hI ew ho => ?_)
          have e40 := ew.trans qq.symm
          have e24 := (ho 24 (nn rfl)).trans e24
          have e39 := (ho 39 (nn rfl)).trans e39
          have fr := frs fr ho (by decide)
          obtain ⟨v4_48, qq, h⟩ := bn_e h
          refine lv_iinc (v := v4_48) (lv' := [(4, .int v4_48), (0, .ref (HB.size + 91)), (1, .int v1), (2, .int v2), (3, .int v3)]) hx hb dX12_build_48 hl (k := 4) rfl (by rw [qq]; rfl) (by decide) rfl (fun ls hl => ?_)
          refine lv_goto (tgt := 21) hx hb dX12_build_51 (by decide) ?_
          exact hk21 σ H locs ls G24 G39 G40_47 v1 v2 v3 v4_48  hI e24 e39 e40 fr (lv_sub hl [1, 2, 3, 4, 0] rfl) h
  obtain ⟨σ, hI, e24, e39, e40, fr⟩ : ∃ σ : St, IV HB D y n n κ σ [] s.heap ∧ σ 24 = G24 ∧ σ 39 = G39 ∧ σ 40 = G40 ∧ ∀ j, j ∉ W_X12_build → σ j = σ0 j := ⟨σ0, hI, e24, e39, e40, fun _ _ => rfl⟩
  show WX RM_X12_build p l e s m args below meth c HB (some (.int q.1)) (B_X12_build HB D y n κ σ0 q) s.heap [] (F0 m 0 ls [])
  generalize s.heap = H at hI ⊢
  unfold f_X12_build at h
  obtain ⟨locs, hlocs⟩ : ∃ x : List Loc, x = [] := ⟨_, rfl⟩
  rw [← hlocs] at hI ⊢
  refine lv_aload_n hx hb dX12_build_0 rfl (lv_at hl 0 rfl) ?_
  refine lv_iload_n hx hb dX12_build_1 rfl (lv_at hl 1 rfl) ?_
  obtain ⟨q_2, hq_2, h⟩ := ob_e h
  refine r_callV (As := [.int v1]) (rest := []) hx hb hml hts hown (c_X12_choice l HB D y F n κ σ hN v1 G24 e24 G39 e39 G40 e40 q_2 hq_2) cal_X12_choice im_X12_choice se_X12_choice lm_X12_541 ⟨Nat.le_of_ble_eq_true rfl, Nat.le_of_ble_eq_true rfl⟩ hI.nil hKK (r_recv hKK hI (hE12 HB.size y) rfl (lc91 hN) (kc91 hk0)) rfl hl.1 hI.2.2 rfl (Nat.le_of_ble_eq_true rfl) dX12_build_2 ⟨Nat.le_of_ble_eq_true rfl, Nat.le_of_ble_eq_true rfl⟩ rfl rfl rfl (fun H locs hB hlo => ?_)
  have hI := hB.re hlo
  refine lv_istore_n (lv' := [(2, .int q_2), (0, .ref (HB.size + 91)), (1, .int v1)]) hx hb dX12_build_5 rfl hl (by decide) rfl (fun ls hl => ?_)
  refine lv_iload_n hx hb dX12_build_6 rfl (lv_at hl 0 rfl) ?_
  refine lv_if_gt (tgt := 12) hx hb dX12_build_7 (by decide) (fun hc => ?_) (fun hc => ?_)
  · replace h := ite_t hc h
    refine lv_aload_n hx hb dX12_build_12 rfl (lv_at hl 1 rfl) ?_
    refine lv_iload_n hx hb dX12_build_13 rfl (lv_at hl 0 rfl) ?_
    obtain ⟨q_14, hq_14, h⟩ := ob_e h
    refine r_callV (As := [.int q_2]) (rest := []) hx hb hml hts hown (c_X12_costOf l HB D y F n κ σ hN q_2 G40 e40 q_14 hq_14) cal_X12_costOf im_X12_costOf se_X12_costOf lm_X12_535 ⟨Nat.le_of_ble_eq_true rfl, Nat.le_of_ble_eq_true rfl⟩ hI.nil hKK (r_recv hKK hI (hE12 HB.size y) rfl (lc91 hN) (kc91 hk0)) rfl hl.1 hI.2.2 rfl (Nat.le_of_ble_eq_true rfl) dX12_build_14 ⟨Nat.le_of_ble_eq_true rfl, Nat.le_of_ble_eq_true rfl⟩ rfl rfl rfl (fun H locs hB hlo => ?_)
    have hI := hB.re hlo
    refine lv_istore_n (lv' := [(3, .int q_14), (2, .int q_2), (0, .ref (HB.size + 91)), (1, .int v1)]) hx hb dX12_build_17 rfl hl (by decide) rfl (fun ls hl => ?_)
    refine lv_iconst (v := 0) hx hb dX12_build_18 (by decide) ?_
    refine lv_istore (lv' := [(4, .int 0), (3, .int q_14), (2, .int q_2), (0, .ref (HB.size + 91)), (1, .int v1)]) hx hb dX12_build_19 hl (by decide) rfl (fun ls hl => ?_)
    exact b21  F σ H locs ls G24 G39 G40 v1 q_2 q_14 0  hI e24 e39 e40 fr (lv_sub hl [3, 4, 2, 1, 0] rfl) h
  · replace h := ite_f hc h
    refine lv_iconst (v := (-1)) hx hb dX12_build_10 (by decide) ?_
    have hq := Option.some.inj h
    exact W.iret (v := (-1)) hx hb hr (fun t ht hW => qc_mk (congrArg (fun z => Outcome.returned (some (Value.int z.1))) hq) (by rw [ht]; exact ⟨σ, hI.nil, e39.trans (congrArg (fun z => z.2.1) hq), e40.trans (congrArg (fun z => z.2.2) hq), fr⟩)) hI.2.2 dX12_build_11 hlocks
noncomputable def f_X12_leaves_b20 (F : Nat)  (G23 : Grp) (G24 : Grp) (G25 : Grp) (G41 : Grp) (v1 : Int32) (v2 : Int32) : Option (Int32 × Grp × Grp) :=
  if (G41.1 91 98) = 100 then some (0, G25, G41) else ck (G41.1 91 98) 100 (bn (gI G41 165 (G41.1 91 98).toNatClampNeg v1) (fun G41_40 => ck (G41_40.1 91 98) 100 (bn (gI G41_40 166 (G41_40.1 91 98).toNatClampNeg v2) (fun G41_50 => ck (G41_50.1 91 98) 100 (bn (gI G41_50 167 (G41_50.1 91 98).toNatClampNeg (G23.1 91 0)) (fun G41_63 => bn (gI G41_63 91 98 ((G41_63.1 91 98) + 1)) (fun G41_71 => if v2 = (-1) then some (1, G25, G41_71) else ob (f_X12_pairOf F G25 v1) (fun q_81 => if q_81 = (-1) then some (1, G25, G41_71) else ob (f_X12_pairOf F G25 v1) (fun q_94 => ck q_94 40 (bn (gI G25 102 q_94.toNatClampNeg (G23.1 91 0)) (fun G25_101 => some (1, G25_101, G41_71))))))))))))
noncomputable def f_X12_leaves (F : Nat) (G23 : Grp) (G24 : Grp) (G25 : Grp) (G41 : Grp) (v1 : Int32) (v2 : Int32) : Option (Int32 × Grp × Grp) :=
  ob (f_X12_isChild F G24 v1) (fun q_2 => if q_2 = 0 then some (0, G25, G41) else if v2 = (-1) then f_X12_leaves_b20 F  G23 G24 G25 G41 v1 v2 else ob (f_X12_isDay F v2) (fun q_14 => if q_14 = 0 then some (0, G25, G41) else f_X12_leaves_b20 F  G23 G24 G25 G41 v1 v2))
def RM_X12_leaves : Room := { frames := 2, cells := 0, slots := 0, locals := 43 }
abbrev W_X12_leaves : List Nat := [25, 41]
abbrev B_X12_leaves (HB : Heap) (D : va_G) (y : Nat → ClassId) (n : Nat) (κ : Nat → Nat) (σ0 : St) (q : Int32 × Grp × Grp) : Heap → Prop := fun H => ∃ σ : St, IV HB D y n n κ σ [] H ∧ σ 25 = q.2.1 ∧ σ 41 = q.2.2 ∧ ∀ j, j ∉ W_X12_leaves → σ j = σ0 j
set_option maxRecDepth 100000 in
set_option maxHeartbeats 4000000 in
theorem c_X12_leaves (l : Launch) (HB : Heap) (D : va_G) (y : Nat → ClassId) (F n : Nat) (κ : Nat → Nat) (σ0 : St) (hN : N0 ≤ n) (v1 : Int32)  (v2 : Int32)  (G23 : Grp) (e23 : σ0 23 = G23) (G24 : Grp) (e24 : σ0 24 = G24) (G25 : Grp) (e25 : σ0 25 = G25) (G41 : Grp) (e41 : σ0 41 = G41) (q : Int32 × Grp × Grp) (h : f_X12_leaves F G23 G24 G25 G41 v1 v2 = some q) : MT l HB D y yX12_leaves cX12_leaves 3 (some .boolean) RM_X12_leaves [.ref (HB.size + 91), .int v1, .int v2] (IV HB D y n n κ σ0 []) (some (.int q.1)) (B_X12_leaves HB D y n κ σ0 q) := by
  refine Met.ofW (cc := cX12_leaves) (maxL := 3) (ret := (some .boolean)) (by decide) rfl ?_
  intro p e s m args below meth c s₁ BL hml hv
  obtain ⟨rfl, hI, hKK⟩ := hv
  have hx := BL.exec
  have hb := BL.bytes
  have hr := BL.returns
  have hts : ∀ w ∈ gtb, w.before _ s = true := fun w hw => atoms_spec BL.pre w (List.mem_cons_of_mem _ hw)
  have hml : c.maxLocals = 3 := hml
  have hown : s.vm.findClass RX12 = some m.cls := findClass_of_methodNamed BL.named
  have hlocks := BL.notSynchronized
  have hk0 := hI.1.2.2.2.2
  have hl := lv_entry ([.ref (HB.size + 91), .int v1, .int v2]) (n := 3) (Nat.le_of_ble_eq_true rfl)
  rw [lg_entry_eq]
  generalize (lg_sl ([.ref (HB.size + 91), .int v1, .int v2]) ++ List.replicate (3 - (lg_sl ([.ref (HB.size + 91), .int v1, .int v2])).length) Slot.unset).toArray = ls at hl ⊢
  have hl : lv_has ls 3 [(0, .ref (HB.size + 91)), (1, .int v1), (2, .int v2)] := hl
  generalize hargs : ([.ref (HB.size + 91), .int v1, .int v2] : List Value).toArray = args at *
  have b20 : ∀ (σ : St) (H : Heap) (locs : List Loc) (ls : Array Slot) (G23 : Grp) (G24 : Grp) (G25 : Grp) (G41 : Grp) (v1 : Int32) (v2 : Int32) , IV HB D y n n κ σ locs H → σ 23 = G23 → σ 24 = G24 → σ 25 = G25 → σ 41 = G41 → (∀ j, j ∉ W_X12_leaves → σ j = σ0 j) → lv_has ls 3 [(0, .ref (HB.size + 91)), (1, .int v1), (2, .int v2)] → f_X12_leaves_b20 F  G23 G24 G25 G41 v1 v2 = some q → WX RM_X12_leaves p l e s m args below meth c HB (some (.int q.1)) (B_X12_leaves HB D y n κ σ0 q) H locs (F0 m 20 ls []) := by
    intro  σ H locs ls G23 G24 G25 G41 v1 v2 hI e23 e24 e25 e41 fr hl h
    unfold f_X12_leaves_b20 at h
    refine lv_aload_n hx hb dX12_leaves_20 rfl (lv_at hl 0 rfl) ?_
    refine gt_X12_547 hx hb hts hown hKK hI e41 (lc91 hN) (kc91 hk0) dX12_leaves_21 ?_
    refine lv_bipush (v := 100) hx hb dX12_leaves_24 (by decide) ?_
    refine lv_icmp_ne (tgt := 31) hx hb dX12_leaves_26 (by decide) (fun hc => ?_) (fun hc => ?_)
    · replace h := ite_f hc h
      refine lv_aload_n hx hb dX12_leaves_31 rfl (lv_at hl 0 rfl) ?_
      refine gf_X12_233 hx hb hts hown hKK hI hN dX12_leaves_32 ?_
      refine lv_aload_n hx hb dX12_leaves_35 rfl (lv_at hl 0 rfl) ?_
      refine gt_X12_547 hx hb hts hown hKK hI e41 (lc91 hN) (kc91 hk0) dX12_leaves_36 ?_
      refine lv_iload_n hx hb dX12_leaves_39 rfl (lv_at hl 1 rfl) ?_
      obtain ⟨hin_, h⟩ := ck_e h
      obtain ⟨G41_40, qq, h⟩ := bn_e h
      refine sa_72 hx hb hKK hI e41 (lc165 hN) (kc165 hk0) hin_ dX12_leaves_40 (fun σ H locs hI ew ho => ?_)
      have e41 := ew.trans qq.symm
      have e23 := (ho 23 (nn rfl)).trans e23
      have e24 := (ho 24 (nn rfl)).trans e24
      have e25 := (ho 25 (nn rfl)).trans e25
      have fr := frs fr ho (by decide)
      refine lv_aload_n hx hb dX12_leaves_41 rfl (lv_at hl 0 rfl) ?_
      refine gf_X12_236 hx hb hts hown hKK hI hN dX12_leaves_42 ?_
      refine lv_aload_n hx hb dX12_leaves_45 rfl (lv_at hl 0 rfl) ?_
      refine gt_X12_547 hx hb hts hown hKK hI e41 (lc91 hN) (kc91 hk0) dX12_leaves_46 ?_
      refine lv_iload_n hx hb dX12_leaves_49 rfl (lv_at hl 2 rfl) ?_
      obtain ⟨hin_, h⟩ := ck_e h
      obtain ⟨G41_50, qq, h⟩ := bn_e h
      refine sa_72 hx hb hKK hI e41 (lc166 hN) (kc166 hk0) hin_ dX12_leaves_50 (fun σ H locs hI ew ho => ?_)
      have e41 := ew.trans qq.symm
      have e23 := (ho 23 (nn rfl)).trans e23
      have e24 := (ho 24 (nn rfl)).trans e24
      have e25 := (ho 25 (nn rfl)).trans e25
      have fr := frs fr ho (by decide)
      refine lv_aload_n hx hb dX12_leaves_51 rfl (lv_at hl 0 rfl) ?_
      refine gf_X12_239 hx hb hts hown hKK hI hN dX12_leaves_52 ?_
      refine lv_aload_n hx hb dX12_leaves_55 rfl (lv_at hl 0 rfl) ?_
      refine gt_X12_547 hx hb hts hown hKK hI e41 (lc91 hN) (kc91 hk0) dX12_leaves_56 ?_
      refine lv_aload_n hx hb dX12_leaves_59 rfl (lv_at hl 0 rfl) ?_
      refine gt_X12_281 hx hb hts hown hKK hI e23 (lc91 hN) (kc91 hk0) dX12_leaves_60 ?_
      obtain ⟨hin_, h⟩ := ck_e h
      obtain ⟨G41_63, qq, h⟩ := bn_e h
      refine sa_72 hx hb hKK hI e41 (lc167 hN) (kc167 hk0) hin_ dX12_leaves_63 (fun σ H locs hI ew ho => ?_)
      have e41 := ew.trans qq.symm
      have e23 := (ho 23 (nn rfl)).trans e23
      have e24 := (ho 24 (nn rfl)).trans e24
      have e25 := (ho 25 (nn rfl)).trans e25
      have fr := frs fr ho (by decide)
      refine lv_aload_n hx hb dX12_leaves_64 rfl (lv_at hl 0 rfl) ?_
      refine lv_aload_n hx hb dX12_leaves_65 rfl (lv_at hl 0 rfl) ?_
      refine gt_X12_547 hx hb hts hown hKK hI e41 (lc91 hN) (kc91 hk0) dX12_leaves_66 ?_
      refine lv_iconst (v := 1) hx hb dX12_leaves_69 (by decide) ?_
      refine lv_iadd hx hb dX12_leaves_70 ?_
      obtain ⟨G41_71, qq, h⟩ := bn_e h
      refine pt_X12_547 hx hb hts hown hKK hI e41 (lc91 hN) (kc91 hk0) dX12_leaves_71 (fun σ H locs hI ew ho => ?_)
      have e41 := ew.trans qq.symm
      have e23 := (ho 23 (nn rfl)).trans e23
      have e24 := (ho 24 (nn rfl)).trans e24
      have e25 := (ho 25 (nn rfl)).trans e25
      have fr := frs fr ho (by decide)
      refine lv_iload_n hx hb dX12_leaves_74 rfl (lv_at hl 2 rfl) ?_
      refine lv_iconst (v := (-1)) hx hb dX12_leaves_75 (by decide) ?_
      refine lv_icmp_eq (tgt := 102) hx hb dX12_leaves_76 (by decide) (fun hc => ?_) (fun hc => ?_)
      · replace h := ite_t hc h
        refine lv_iconst (v := 1) hx hb dX12_leaves_102 (by decide) ?_
        have hq := Option.some.inj h
        exact W.zret (v := 1) (ty := .boolean) hx hb hr rfl (fun t ht hW => qc_mk (congrArg (fun z => Outcome.returned (some (Value.int z.1))) hq) (by rw [ht]; exact ⟨σ, hI.nil, e25.trans (congrArg (fun z => z.2.1) hq), e41.trans (congrArg (fun z => z.2.2) hq), fr⟩)) hI.2.2 dX12_leaves_103 hlocks
      · replace h := ite_f hc h
        refine lv_aload_n hx hb dX12_leaves_79 rfl (lv_at hl 0 rfl) ?_
        refine lv_iload_n hx hb dX12_leaves_80 rfl (lv_at hl 1 rfl) ?_
        obtain ⟨q_81, hq_81, h⟩ := ob_e h
        refine r_callV (As := [.int v1]) (rest := []) hx hb hml hts hown (c_X12_pairOf l HB D y F n κ σ hN v1 G25 e25 q_81 hq_81) cal_X12_pairOf im_X12_pairOf se_X12_pairOf lm_X12_290 ⟨Nat.le_of_ble_eq_true rfl, Nat.le_of_ble_eq_true rfl⟩ hI.nil hKK (r_recv hKK hI (hE12 HB.size y) rfl (lc91 hN) (kc91 hk0)) rfl hl.1 hI.2.2 rfl (Nat.le_of_ble_eq_true rfl) dX12_leaves_81 ⟨Nat.le_of_ble_eq_true rfl, Nat.le_of_ble_eq_true rfl⟩ rfl rfl rfl (fun H locs hB hlo => ?_)
        have hI := hB.re hlo
        refine lv_iconst (v := (-1)) hx hb dX12_leaves_84 (by decide) ?_
        refine lv_icmp_eq (tgt := 102) hx hb dX12_leaves_85 (by decide) (fun hc => ?_) (fun hc => ?_)
        · replace h := ite_t hc h
          refine lv_iconst (v := 1) hx hb dX12_leaves_102 (by decide) ?_
          have hq := Option.some.inj h
          exact W.zret (v := 1) (ty := .boolean) hx hb hr rfl (fun t ht hW => qc_mk (congrArg (fun z => Outcome.returned (some (Value.int z.1))) hq) (by rw [ht]; exact ⟨σ, hI.nil, e25.trans (congrArg (fun z => z.2.1) hq), e41.trans (congrArg (fun z => z.2.2) hq), fr⟩)) hI.2.2 dX12_leaves_103 hlocks
        · replace h := ite_f hc h
          refine lv_aload_n hx hb dX12_leaves_88 rfl (lv_at hl 0 rfl) ?_
          refine gf_X12_40 hx hb hts hown hKK hI hN dX12_leaves_89 ?_
          refine lv_aload_n hx hb dX12_leaves_92 rfl (lv_at hl 0 rfl) ?_
          refine lv_iload_n hx hb dX12_leaves_93 rfl (lv_at hl 1 rfl) ?_
          obtain ⟨q_94, hq_94, h⟩ := ob_e h
          refine r_callV (As := [.int v1]) (rest := [.ref (HB.size + 102)]) hx hb hml hts hown (c_X12_pairOf l HB D y F n κ σ hN v1 G25 e25 q_94 hq_94) cal_X12_pairOf im_X12_pairOf se_X12_pairOf lm_X12_290 ⟨Nat.le_of_ble_eq_true rfl, Nat.le_of_ble_eq_true rfl⟩ hI.nil hKK (r_recv hKK hI (hE12 HB.size y) rfl (lc91 hN) (kc91 hk0)) rfl hl.1 hI.2.2 rfl (Nat.le_of_ble_eq_true rfl) dX12_leaves_94 ⟨Nat.le_of_ble_eq_true rfl, Nat.le_of_ble_eq_true rfl⟩ rfl rfl rfl (fun H locs hB hlo => ?_)
          have hI := hB.re hlo
          refine lv_aload_n hx hb dX12_leaves_97 rfl (lv_at hl 0 rfl) ?_
          refine gt_X12_281 hx hb hts hown hKK hI e23 (lc91 hN) (kc91 hk0) dX12_leaves_98 ?_
          obtain ⟨hin_, h⟩ := ck_e h
          obtain ⟨G25_101, qq, h⟩ := bn_e h
          refine sa_44 hx hb hKK hI e25 (lc102 hN) (kc102 hk0) hin_ dX12_leaves_101 (fun σ H locs hI ew ho => ?_)
          have e25 := ew.trans qq.symm
          have e23 := (ho 23 (nn rfl)).trans e23
          have e24 := (ho 24 (nn rfl)).trans e24
          have e41 := (ho 41 (nn rfl)).trans e41
          have fr := frs fr ho (by decide)
          refine lv_iconst (v := 1) hx hb dX12_leaves_102 (by decide) ?_
          have hq := Option.some.inj h
          exact W.zret (v := 1) (ty := .boolean) hx hb hr rfl (fun t ht hW => qc_mk (congrArg (fun z => Outcome.returned (some (Value.int z.1))) hq) (by rw [ht]; exact ⟨σ, hI.nil, e25.trans (congrArg (fun z => z.2.1) hq), e41.trans (congrArg (fun z => z.2.2) hq), fr⟩)) hI.2.2 dX12_leaves_103 hlocks
    · replace h := ite_t hc h
      refine lv_iconst (v := 0) hx hb dX12_leaves_29 (by decide) ?_
      have hq := Option.some.inj h
      exact W.zret (v := 0) (ty := .boolean) hx hb hr rfl (fun t ht hW => qc_mk (congrArg (fun z => Outcome.returned (some (Value.int z.1))) hq) (by rw [ht]; exact ⟨σ, hI.nil, e25.trans (congrArg (fun z => z.2.1) hq), e41.trans (congrArg (fun z => z.2.2) hq), fr⟩)) hI.2.2 dX12_leaves_30 hlocks
  obtain ⟨σ, hI, e23, e24, e25, e41, fr⟩ : ∃ σ : St, IV HB D y n n κ σ [] s.heap ∧ σ 23 = G23 ∧ σ 24 = G24 ∧ σ 25 = G25 ∧ σ 41 = G41 ∧ ∀ j, j ∉ W_X12_leaves → σ j = σ0 j := ⟨σ0, hI, e23, e24, e25, e41, fun _ _ => rfl⟩
  show WX RM_X12_leaves p l e s m args below meth c HB (some (.int q.1)) (B_X12_leaves HB D y n κ σ0 q) s.heap [] (F0 m 0 ls [])
  generalize s.heap = H at hI ⊢
  unfold f_X12_leaves at h
  obtain ⟨locs, hlocs⟩ : ∃ x : List Loc, x = [] := ⟨_, rfl⟩
  rw [← hlocs] at hI ⊢
  refine lv_aload_n hx hb dX12_leaves_0 rfl (lv_at hl 0 rfl) ?_
  refine lv_iload_n hx hb dX12_leaves_1 rfl (lv_at hl 1 rfl) ?_
  obtain ⟨q_2, hq_2, h⟩ := ob_e h
  refine r_callV (As := [.int v1]) (rest := []) hx hb hml hts hown (c_X12_isChild l HB D y F n κ σ hN v1 G24 e24 q_2 hq_2) cal_X12_isChild im_X12_isChild se_X12_isChild lm_X12_287 ⟨Nat.le_of_ble_eq_true rfl, Nat.le_of_ble_eq_true rfl⟩ hI.nil hKK (r_recv hKK hI (hE12 HB.size y) rfl (lc91 hN) (kc91 hk0)) rfl hl.1 hI.2.2 rfl (Nat.le_of_ble_eq_true rfl) dX12_leaves_2 ⟨Nat.le_of_ble_eq_true rfl, Nat.le_of_ble_eq_true rfl⟩ rfl rfl rfl (fun H locs hB hlo => ?_)
  have hI := hB.re hlo
  refine lv_if_eq (tgt := 29) hx hb dX12_leaves_5 (by decide) (fun hc => ?_) (fun hc => ?_)
  · replace h := ite_t hc h
    refine lv_iconst (v := 0) hx hb dX12_leaves_29 (by decide) ?_
    have hq := Option.some.inj h
    exact W.zret (v := 0) (ty := .boolean) hx hb hr rfl (fun t ht hW => qc_mk (congrArg (fun z => Outcome.returned (some (Value.int z.1))) hq) (by rw [ht]; exact ⟨σ, hI.nil, e25.trans (congrArg (fun z => z.2.1) hq), e41.trans (congrArg (fun z => z.2.2) hq), fr⟩)) hI.2.2 dX12_leaves_30 hlocks
  · replace h := ite_f hc h
    refine lv_iload_n hx hb dX12_leaves_8 rfl (lv_at hl 2 rfl) ?_
    refine lv_iconst (v := (-1)) hx hb dX12_leaves_9 (by decide) ?_
    refine lv_icmp_eq (tgt := 20) hx hb dX12_leaves_10 (by decide) (fun hc => ?_) (fun hc => ?_)
    · replace h := ite_t hc h
      exact b20  σ H locs ls G23 G24 G25 G41 v1 v2  hI e23 e24 e25 e41 fr (lv_sub hl [0, 1, 2] rfl) h
    · replace h := ite_f hc h
      refine lv_iload_n hx hb dX12_leaves_13 rfl (lv_at hl 2 rfl) ?_
      obtain ⟨q_14, hq_14, h⟩ := ob_e h
      refine r_callS (As := [.int v2]) (rest := []) hx hb hml hts hown (c_X12_isDay l HB D y F n κ σ hN v2  q_14 hq_14) cal_X12_isDay st_X12_isDay lm_X12_544 ⟨Nat.le_of_ble_eq_true rfl, Nat.le_of_ble_eq_true rfl⟩ hI.nil hKK rfl hl.1 hI.2.2 rfl (Nat.le_of_ble_eq_true rfl) dX12_leaves_14 ⟨Nat.le_of_ble_eq_true rfl, Nat.le_of_ble_eq_true rfl⟩ rfl rfl rfl (fun H locs hB hlo => ?_)
      have hI := hB.re hlo
      refine lv_if_eq (tgt := 29) hx hb dX12_leaves_17 (by decide) (fun hc => ?_) (fun hc => ?_)
      · replace h := ite_t hc h
        refine lv_iconst (v := 0) hx hb dX12_leaves_29 (by decide) ?_
        have hq := Option.some.inj h
        exact W.zret (v := 0) (ty := .boolean) hx hb hr rfl (fun t ht hW => qc_mk (congrArg (fun z => Outcome.returned (some (Value.int z.1))) hq) (by rw [ht]; exact ⟨σ, hI.nil, e25.trans (congrArg (fun z => z.2.1) hq), e41.trans (congrArg (fun z => z.2.2) hq), fr⟩)) hI.2.2 dX12_leaves_30 hlocks
      · replace h := ite_f hc h
        exact b20  σ H locs ls G23 G24 G25 G41 v1 v2  hI e23 e24 e25 e41 fr (lv_sub hl [0, 1, 2] rfl) h
noncomputable def f_X12_left (F : Nat) (G24 : Grp) (G41 : Grp) (v1 : Int32) (v2 : Int32) : Option (Int32) :=
  ob (f_X12_isChild F G24 v1) (fun q_2 => if q_2 = 0 then some (-1) else ob (f_X12_isDay F v2) (fun q_9 => if q_9 = 0 then some (-1) else ob (f_X12_leftOn F G41 v1 v2) (fun q_18 => some q_18)))
def RM_X12_left : Room := { frames := 1, cells := 0, slots := 0, locals := 24 }
abbrev B_X12_left (HB : Heap) (D : va_G) (y : Nat → ClassId) (n : Nat) (κ : Nat → Nat) (σ : St) (q : Int32) : Heap → Prop := fun H => IV HB D y n n κ σ [] H
set_option maxRecDepth 100000 in
set_option maxHeartbeats 4000000 in
theorem c_X12_left (l : Launch) (HB : Heap) (D : va_G) (y : Nat → ClassId) (F n : Nat) (κ : Nat → Nat) (σ : St) (hN : N0 ≤ n) (v1 : Int32)  (v2 : Int32)  (G24 : Grp) (e24 : σ 24 = G24) (G41 : Grp) (e41 : σ 41 = G41) (q : Int32) (h : f_X12_left F G24 G41 v1 v2 = some q) : MT l HB D y yX12_left cX12_left 3 (some .int) RM_X12_left [.ref (HB.size + 91), .int v1, .int v2] (IV HB D y n n κ σ []) (some (.int q)) (B_X12_left HB D y n κ σ q) := by
  refine Met.ofW (cc := cX12_left) (maxL := 3) (ret := (some .int)) (by decide) rfl ?_
  intro p e s m args below meth c s₁ BL hml hv
  obtain ⟨rfl, hI, hKK⟩ := hv
  have hx := BL.exec
  have hb := BL.bytes
  have hr := BL.returns
  have hts : ∀ w ∈ gtb, w.before _ s = true := fun w hw => atoms_spec BL.pre w (List.mem_cons_of_mem _ hw)
  have hml : c.maxLocals = 3 := hml
  have hown : s.vm.findClass RX12 = some m.cls := findClass_of_methodNamed BL.named
  have hlocks := BL.notSynchronized
  have hk0 := hI.1.2.2.2.2
  have hl := lv_entry ([.ref (HB.size + 91), .int v1, .int v2]) (n := 3) (Nat.le_of_ble_eq_true rfl)
  rw [lg_entry_eq]
  generalize (lg_sl ([.ref (HB.size + 91), .int v1, .int v2]) ++ List.replicate (3 - (lg_sl ([.ref (HB.size + 91), .int v1, .int v2])).length) Slot.unset).toArray = ls at hl ⊢
  have hl : lv_has ls 3 [(0, .ref (HB.size + 91)), (1, .int v1), (2, .int v2)] := hl
  generalize hargs : ([.ref (HB.size + 91), .int v1, .int v2] : List Value).toArray = args at *
  show WX RM_X12_left p l e s m args below meth c HB (some (.int q)) (B_X12_left HB D y n κ σ q) s.heap [] (F0 m 0 ls [])
  generalize s.heap = H at hI ⊢
  unfold f_X12_left at h
  obtain ⟨locs, hlocs⟩ : ∃ x : List Loc, x = [] := ⟨_, rfl⟩
  rw [← hlocs] at hI ⊢
  refine lv_aload_n hx hb dX12_left_0 rfl (lv_at hl 0 rfl) ?_
  refine lv_iload_n hx hb dX12_left_1 rfl (lv_at hl 1 rfl) ?_
  obtain ⟨q_2, hq_2, h⟩ := ob_e h
  refine r_callV (As := [.int v1]) (rest := []) hx hb hml hts hown (c_X12_isChild l HB D y F n κ σ hN v1 G24 e24 q_2 hq_2) cal_X12_isChild im_X12_isChild se_X12_isChild lm_X12_287 ⟨Nat.le_of_ble_eq_true rfl, Nat.le_of_ble_eq_true rfl⟩ hI.nil hKK (r_recv hKK hI (hE12 HB.size y) rfl (lc91 hN) (kc91 hk0)) rfl hl.1 hI.2.2 rfl (Nat.le_of_ble_eq_true rfl) dX12_left_2 ⟨Nat.le_of_ble_eq_true rfl, Nat.le_of_ble_eq_true rfl⟩ rfl rfl rfl (fun H locs hB hlo => ?_)
  have hI := hB.re hlo
  refine lv_if_eq (tgt := 24) hx hb dX12_left_5 (by decide) (fun hc => ?_) (fun hc => ?_)
  · replace h := ite_t hc h
    refine lv_iconst (v := (-1)) hx hb dX12_left_24 (by decide) ?_
    have hq := Option.some.inj h
    exact W.iret (v := (-1)) hx hb hr (fun t ht hW => qc_mk (congrArg (fun z => Outcome.returned (some (Value.int z))) hq) (by rw [ht]; exact hI.nil)) hI.2.2 dX12_left_25 hlocks
  · replace h := ite_f hc h
    refine lv_iload_n hx hb dX12_left_8 rfl (lv_at hl 2 rfl) ?_
    obtain ⟨q_9, hq_9, h⟩ := ob_e h
    refine r_callS (As := [.int v2]) (rest := []) hx hb hml hts hown (c_X12_isDay l HB D y F n κ σ hN v2  q_9 hq_9) cal_X12_isDay st_X12_isDay lm_X12_544 ⟨Nat.le_of_ble_eq_true rfl, Nat.le_of_ble_eq_true rfl⟩ hI.nil hKK rfl hl.1 hI.2.2 rfl (Nat.le_of_ble_eq_true rfl) dX12_left_9 ⟨Nat.le_of_ble_eq_true rfl, Nat.le_of_ble_eq_true rfl⟩ rfl rfl rfl (fun H locs hB hlo => ?_)
    have hI := hB.re hlo
    refine lv_if_eq (tgt := 24) hx hb dX12_left_12 (by decide) (fun hc => ?_) (fun hc => ?_)
    · replace h := ite_t hc h
      refine lv_iconst (v := (-1)) hx hb dX12_left_24 (by decide) ?_
      have hq := Option.some.inj h
      exact W.iret (v := (-1)) hx hb hr (fun t ht hW => qc_mk (congrArg (fun z => Outcome.returned (some (Value.int z))) hq) (by rw [ht]; exact hI.nil)) hI.2.2 dX12_left_25 hlocks
    · replace h := ite_f hc h
      refine lv_aload_n hx hb dX12_left_15 rfl (lv_at hl 0 rfl) ?_
      refine lv_iload_n hx hb dX12_left_16 rfl (lv_at hl 1 rfl) ?_
      refine lv_iload_n hx hb dX12_left_17 rfl (lv_at hl 2 rfl) ?_
      obtain ⟨q_18, hq_18, h⟩ := ob_e h
      refine r_callV (As := [.int v1, .int v2]) (rest := []) hx hb hml hts hown (c_X12_leftOn l HB D y F n κ σ hN v1 v2 G41 e41 q_18 hq_18) cal_X12_leftOn im_X12_leftOn se_X12_leftOn lm_X12_297 ⟨Nat.le_of_ble_eq_true rfl, Nat.le_of_ble_eq_true rfl⟩ hI.nil hKK (r_recv hKK hI (hE12 HB.size y) rfl (lc91 hN) (kc91 hk0)) rfl hl.1 hI.2.2 rfl (Nat.le_of_ble_eq_true rfl) dX12_left_18 ⟨Nat.le_of_ble_eq_true rfl, Nat.le_of_ble_eq_true rfl⟩ rfl rfl rfl (fun H locs hB hlo => ?_)
      have hI := hB.re hlo
      refine lv_goto (tgt := 25) hx hb dX12_left_21 (by decide) ?_
      have hq := Option.some.inj h
      exact W.iret (v := q_18) hx hb hr (fun t ht hW => qc_mk (congrArg (fun z => Outcome.returned (some (Value.int z))) hq) (by rw [ht]; exact hI.nil)) hI.2.2 dX12_left_25 hlocks
noncomputable def f_X12_amiss_l13b (F : Nat)  (k13 : Grp → Grp → Grp → Int32 → Int32 → Int32 → Option (Int32)) (G25 : Grp) (G32 : Grp) (G41 : Grp) (v1 : Int32) (v2 : Int32) (v3 : Int32) : Option (Int32) :=
  if (G32.1 91 57) ≤ v3 then some v2 else ck v3 200 (ck (G32.1 132 v3.toNatClampNeg) 40 (ob (f_X12_leftOn F G41 (G25.1 100 (G32.1 132 v3.toNatClampNeg).toNatClampNeg) v1) (fun q_34 => ck v3 200 (if (G32.1 135 v3.toNatClampNeg) = 6 then if q_34 = (-1) then bn ((v2 + 0)) (fun v2_74 => bn (v3 + 1) (fun v3_75 => k13 G25 G32 G41 v1 v2_74 v3_75)) else ck v3 200 (if (G32.1 136 v3.toNatClampNeg) < q_34 then bn ((v2 + 0)) (fun v2_74 => bn (v3 + 1) (fun v3_75 => k13 G25 G32 G41 v1 v2_74 v3_75)) else bn ((v2 + 1)) (fun v2_74 => bn (v3 + 1) (fun v3_75 => k13 G25 G32 G41 v1 v2_74 v3_75))) else bn ((v2 + 0)) (fun v2_74 => bn (v3 + 1) (fun v3_75 => k13 G25 G32 G41 v1 v2_74 v3_75))))))
noncomputable def f_X12_amiss_l13 (F : Nat)  (fu : Nat) : Grp → Grp → Grp → Int32 → Int32 → Int32 → Option (Int32) := Nat.rec (motive := fun _ => Grp → Grp → Grp → Int32 → Int32 → Int32 → Option (Int32)) (fun _ _ _ _ _ _ => none) (fun _ ih => f_X12_amiss_l13b F  ih) fu
noncomputable def f_X12_amiss (F : Nat) (G25 : Grp) (G32 : Grp) (G41 : Grp) (v1 : Int32) : Option (Int32) :=
  ob (f_X12_isDay F v1) (fun q_1 => if q_1 = 0 then some (-1) else f_X12_amiss_l13 F  F G25 G32 G41 v1 0 0)
def RM_X12_amiss : Room := { frames := 1, cells := 0, slots := 0, locals := 24 }
abbrev B_X12_amiss (HB : Heap) (D : va_G) (y : Nat → ClassId) (n : Nat) (κ : Nat → Nat) (σ : St) (q : Int32) : Heap → Prop := fun H => IV HB D y n n κ σ [] H
set_option maxRecDepth 100000 in
set_option maxHeartbeats 4000000 in
theorem c_X12_amiss (l : Launch) (HB : Heap) (D : va_G) (y : Nat → ClassId) (F n : Nat) (κ : Nat → Nat) (σ : St) (hN : N0 ≤ n) (v1 : Int32)  (G25 : Grp) (e25 : σ 25 = G25) (G32 : Grp) (e32 : σ 32 = G32) (G41 : Grp) (e41 : σ 41 = G41) (q : Int32) (h : f_X12_amiss F G25 G32 G41 v1 = some q) : MT l HB D y yX12_amiss cX12_amiss 5 (some .int) RM_X12_amiss [.ref (HB.size + 91), .int v1] (IV HB D y n n κ σ []) (some (.int q)) (B_X12_amiss HB D y n κ σ q) := by
  refine Met.ofW (cc := cX12_amiss) (maxL := 5) (ret := (some .int)) (by decide) rfl ?_
  intro p e s m args below meth c s₁ BL hml hv
  obtain ⟨rfl, hI, hKK⟩ := hv
  have hx := BL.exec
  have hb := BL.bytes
  have hr := BL.returns
  have hts : ∀ w ∈ gtb, w.before _ s = true := fun w hw => atoms_spec BL.pre w (List.mem_cons_of_mem _ hw)
  have hml : c.maxLocals = 5 := hml
  have hown : s.vm.findClass RX12 = some m.cls := findClass_of_methodNamed BL.named
  have hlocks := BL.notSynchronized
  have hk0 := hI.1.2.2.2.2
  have hl := lv_entry ([.ref (HB.size + 91), .int v1]) (n := 5) (Nat.le_of_ble_eq_true rfl)
  rw [lg_entry_eq]
  generalize (lg_sl ([.ref (HB.size + 91), .int v1]) ++ List.replicate (5 - (lg_sl ([.ref (HB.size + 91), .int v1])).length) Slot.unset).toArray = ls at hl ⊢
  have hl : lv_has ls 5 [(0, .ref (HB.size + 91)), (1, .int v1)] := hl
  generalize hargs : ([.ref (HB.size + 91), .int v1] : List Value).toArray = args at *
  have b13 : ∀ (fu : Nat) (H : Heap) (locs : List Loc) (ls : Array Slot) (G25 : Grp) (G32 : Grp) (G41 : Grp) (v1 : Int32) (v2 : Int32) (v3 : Int32) , IV HB D y n n κ σ locs H → σ 25 = G25 → σ 32 = G32 → σ 41 = G41 → lv_has ls 5 [(0, .ref (HB.size + 91)), (1, .int v1), (2, .int v2), (3, .int v3)] → f_X12_amiss_l13 F  fu G25 G32 G41 v1 v2 v3 = some q → WX RM_X12_amiss p l e s m args below meth c HB (some (.int q)) (B_X12_amiss HB D y n κ σ q) H locs (F0 m 13 ls []) := by
    intro  fu
    induction fu with
    | zero =>
      intro H locs ls G25 G32 G41 v1 v2 v3 hI e25 e32 e41 hl h
      exact absurd h (by intro h; cases h)
    | succ fu hk13 =>
      intro H locs ls G25 G32 G41 v1 v2 v3 hI e25 e32 e41 hl h
      have h : f_X12_amiss_l13b F  (f_X12_amiss_l13 F  fu) G25 G32 G41 v1 v2 v3 = some q := h
      generalize f_X12_amiss_l13 F  fu = k13 at h hk13
      unfold f_X12_amiss_l13b at h
      refine lv_iload_n hx hb dX12_amiss_13 rfl (lv_at hl 3 rfl) ?_
      refine lv_aload_n hx hb dX12_amiss_14 rfl (lv_at hl 0 rfl) ?_
      refine gt_X12_431 hx hb hts hown hKK hI e32 (lc91 hN) (kc91 hk0) dX12_amiss_15 ?_
      refine lv_icmp_ge (tgt := 81) hx hb dX12_amiss_18 (by decide) (fun hc => ?_) (fun hc => ?_)
      · replace h := ite_t hc h
        refine lv_iload_n hx hb dX12_amiss_81 rfl (lv_at hl 2 rfl) ?_
        have hq := Option.some.inj h
        exact W.iret (v := v2) hx hb hr (fun t ht hW => qc_mk (congrArg (fun z => Outcome.returned (some (Value.int z))) hq) (by rw [ht]; exact hI.nil)) hI.2.2 dX12_amiss_82 hlocks
      · replace h := ite_f hc h
        refine lv_aload_n hx hb dX12_amiss_21 rfl (lv_at hl 0 rfl) ?_
        refine lv_aload_n hx hb dX12_amiss_22 rfl (lv_at hl 0 rfl) ?_
        refine gf_X12_34 hx hb hts hown hKK hI hN dX12_amiss_23 ?_
        refine lv_aload_n hx hb dX12_amiss_26 rfl (lv_at hl 0 rfl) ?_
        refine gf_X12_133 hx hb hts hown hKK hI hN dX12_amiss_27 ?_
        refine lv_iload_n hx hb dX12_amiss_30 rfl (lv_at hl 3 rfl) ?_
        obtain ⟨hin_, h⟩ := ck_e h
        refine la_57 hx hb hKK hI e32 (lc132 hN) (kc132 hk0) hin_ dX12_amiss_31 ?_
        obtain ⟨hin_, h⟩ := ck_e h
        refine la_44 hx hb hKK hI e25 (lc100 hN) (kc100 hk0) hin_ dX12_amiss_32 ?_
        refine lv_iload_n hx hb dX12_amiss_33 rfl (lv_at hl 1 rfl) ?_
        obtain ⟨q_34, hq_34, h⟩ := ob_e h
        refine r_callV (As := [.int (G25.1 100 (G32.1 132 v3.toNatClampNeg).toNatClampNeg), .int v1]) (rest := []) hx hb hml hts hown (c_X12_leftOn l HB D y F n κ σ hN (G25.1 100 (G32.1 132 v3.toNatClampNeg).toNatClampNeg) v1 G41 e41 q_34 hq_34) cal_X12_leftOn im_X12_leftOn se_X12_leftOn lm_X12_297 ⟨Nat.le_of_ble_eq_true rfl, Nat.le_of_ble_eq_true rfl⟩ hI.nil hKK (r_recv hKK hI (hE12 HB.size y) rfl (lc91 hN) (kc91 hk0)) rfl hl.1 hI.2.2 rfl (Nat.le_of_ble_eq_true rfl) dX12_amiss_34 ⟨Nat.le_of_ble_eq_true rfl, Nat.le_of_ble_eq_true rfl⟩ rfl rfl rfl (fun H locs hB hlo => ?_)
        have hI := hB.re hlo
        refine lv_istore (lv' := [(4, .int q_34), (0, .ref (HB.size + 91)), (1, .int v1), (2, .int v2), (3, .int v3)]) hx hb dX12_amiss_37 hl (by decide) rfl (fun ls hl => ?_)
        refine lv_iload_n hx hb dX12_amiss_39 rfl (lv_at hl 3 rfl) ?_
        refine lv_aload_n hx hb dX12_amiss_40 rfl (lv_at hl 1 rfl) ?_
        refine gf_X12_142 hx hb hts hown hKK hI hN dX12_amiss_41 ?_
        refine lv_iload_n hx hb dX12_amiss_44 rfl (lv_at hl 4 rfl) ?_
        obtain ⟨hin_, h⟩ := ck_e h
        refine la_57 hx hb hKK hI e32 (lc135 hN) (kc135 hk0) hin_ dX12_amiss_45 ?_
        refine lv_bipush (v := 6) hx hb dX12_amiss_46 (by decide) ?_
        refine lv_icmp_ne (tgt := 72) hx hb dX12_amiss_48 (by decide) (fun hc => ?_) (fun hc => ?_)
        · replace h := ite_f hc h
          refine lv_iconst (v := 0) hx hb dX12_amiss_72 (by decide) ?_
          refine lv_iadd hx hb dX12_amiss_73 ?_
          obtain ⟨v2_74, qq, h⟩ := bn_e h
          refine topi qq ?_
          refine lv_istore_n (lv' := [(2, .int v2_74), (4, .int q_34), (0, .ref (HB.size + 91)), (1, .int v1), (3, .int v3)]) hx hb dX12_amiss_74 rfl hl (by decide) rfl (fun ls hl => ?_)
          obtain ⟨v3_75, qq, h⟩ := bn_e h
          refine lv_iinc (v := v3_75) (lv' := [(3, .int v3_75), (2, .int v2_74), (4, .int q_34), (0, .ref (HB.size + 91)), (1, .int v1)]) hx hb dX12_amiss_75 hl (k := 4) rfl (by rw [qq]; rfl) (by decide) rfl (fun ls hl => ?_)
          refine lv_goto (tgt := 13) hx hb dX12_amiss_78 (by decide) ?_
          exact hk13 H locs ls G25 G32 G41 v1 v2_74 v3_75  hI e25 e32 e41 (lv_sub hl [3, 4, 1, 0] rfl) h
        · replace h := ite_t hc h
          refine lv_iload hx hb dX12_amiss_51 (lv_at hl 0 rfl) ?_
          refine lv_iconst (v := (-1)) hx hb dX12_amiss_53 (by decide) ?_
          refine lv_icmp_eq (tgt := 72) hx hb dX12_amiss_54 (by decide) (fun hc => ?_) (fun hc => ?_)
          · replace h := ite_t hc h
            refine lv_iconst (v := 0) hx hb dX12_amiss_72 (by decide) ?_
            refine lv_iadd hx hb dX12_amiss_73 ?_
            obtain ⟨v2_74, qq, h⟩ := bn_e h
            refine topi qq ?_
            refine lv_istore_n (lv' := [(2, .int v2_74), (4, .int q_34), (0, .ref (HB.size + 91)), (1, .int v1), (3, .int v3)]) hx hb dX12_amiss_74 rfl hl (by decide) rfl (fun ls hl => ?_)
            obtain ⟨v3_75, qq, h⟩ := bn_e h
            refine lv_iinc (v := v3_75) (lv' := [(3, .int v3_75), (2, .int v2_74), (4, .int q_34), (0, .ref (HB.size + 91)), (1, .int v1)]) hx hb dX12_amiss_75 hl (k := 4) rfl (by rw [qq]; rfl) (by decide) rfl (fun ls hl => ?_)
            refine lv_goto (tgt := 13) hx hb dX12_amiss_78 (by decide) ?_
            exact hk13 H locs ls G25 G32 G41 v1 v2_74 v3_75  hI e25 e32 e41 (lv_sub hl [3, 4, 1, 0] rfl) h
          · replace h := ite_f hc h
            refine lv_aload_n hx hb dX12_amiss_57 rfl (lv_at hl 1 rfl) ?_
            refine gf_X12_145 hx hb hts hown hKK hI hN dX12_amiss_58 ?_
            refine lv_iload_n hx hb dX12_amiss_61 rfl (lv_at hl 4 rfl) ?_
            obtain ⟨hin_, h⟩ := ck_e h
            refine la_57 hx hb hKK hI e32 (lc136 hN) (kc136 hk0) hin_ dX12_amiss_62 ?_
            refine lv_iload hx hb dX12_amiss_63 (lv_at hl 0 rfl) ?_
            refine lv_icmp_lt (tgt := 72) hx hb dX12_amiss_65 (by decide) (fun hc => ?_) (fun hc => ?_)
            · replace h := ite_t hc h
              refine lv_iconst (v := 0) hx hb dX12_amiss_72 (by decide) ?_
              refine lv_iadd hx hb dX12_amiss_73 ?_
              obtain ⟨v2_74, qq, h⟩ := bn_e h
              refine topi qq ?_
              refine lv_istore_n (lv' := [(2, .int v2_74), (4, .int q_34), (0, .ref (HB.size + 91)), (1, .int v1), (3, .int v3)]) hx hb dX12_amiss_74 rfl hl (by decide) rfl (fun ls hl => ?_)
              obtain ⟨v3_75, qq, h⟩ := bn_e h
              refine lv_iinc (v := v3_75) (lv' := [(3, .int v3_75), (2, .int v2_74), (4, .int q_34), (0, .ref (HB.size + 91)), (1, .int v1)]) hx hb dX12_amiss_75 hl (k := 4) rfl (by rw [qq]; rfl) (by decide) rfl (fun ls hl => ?_)
              refine lv_goto (tgt := 13) hx hb dX12_amiss_78 (by decide) ?_
              exact hk13 H locs ls G25 G32 G41 v1 v2_74 v3_75  hI e25 e32 e41 (lv_sub hl [3, 4, 1, 0] rfl) h
            · replace h := ite_f hc h
              refine lv_iconst (v := 1) hx hb dX12_amiss_68 (by decide) ?_
              refine lv_goto (tgt := 73) hx hb dX12_amiss_69 (by decide) ?_
              refine lv_iadd hx hb dX12_amiss_73 ?_
              obtain ⟨v2_74, qq, h⟩ := bn_e h
              refine topi qq ?_
              refine lv_istore_n (lv' := [(2, .int v2_74), (4, .int q_34), (0, .ref (HB.size + 91)), (1, .int v1), (3, .int v3)]) hx hb dX12_amiss_74 rfl hl (by decide) rfl (fun ls hl => ?_)
              obtain ⟨v3_75, qq, h⟩ := bn_e h
              refine lv_iinc (v := v3_75) (lv' := [(3, .int v3_75), (2, .int v2_74), (4, .int q_34), (0, .ref (HB.size + 91)), (1, .int v1)]) hx hb dX12_amiss_75 hl (k := 4) rfl (by rw [qq]; rfl) (by decide) rfl (fun ls hl => ?_)
              refine lv_goto (tgt := 13) hx hb dX12_amiss_78 (by decide) ?_
              exact hk13 H locs ls G25 G32 G41 v1 v2_74 v3_75  hI e25 e32 e41 (lv_sub hl [3, 4, 1, 0] rfl) h
  show WX RM_X12_amiss p l e s m args below meth c HB (some (.int q)) (B_X12_amiss HB D y n κ σ q) s.heap [] (F0 m 0 ls [])
  generalize s.heap = H at hI ⊢
  unfold f_X12_amiss at h
  obtain ⟨locs, hlocs⟩ : ∃ x : List Loc, x = [] := ⟨_, rfl⟩
  rw [← hlocs] at hI ⊢
  refine lv_iload_n hx hb dX12_amiss_0 rfl (lv_at hl 1 rfl) ?_
  obtain ⟨q_1, hq_1, h⟩ := ob_e h
  refine r_callS (As := [.int v1]) (rest := []) hx hb hml hts hown (c_X12_isDay l HB D y F n κ σ hN v1  q_1 hq_1) cal_X12_isDay st_X12_isDay lm_X12_544 ⟨Nat.le_of_ble_eq_true rfl, Nat.le_of_ble_eq_true rfl⟩ hI.nil hKK rfl hl.1 hI.2.2 rfl (Nat.le_of_ble_eq_true rfl) dX12_amiss_1 ⟨Nat.le_of_ble_eq_true rfl, Nat.le_of_ble_eq_true rfl⟩ rfl rfl rfl (fun H locs hB hlo => ?_)
  have hI := hB.re hlo
  refine lv_if_ne (tgt := 9) hx hb dX12_amiss_4 (by decide) (fun hc => ?_) (fun hc => ?_)
  · replace h := ite_f hc h
    refine lv_iconst (v := 0) hx hb dX12_amiss_9 (by decide) ?_
    refine lv_istore_n (lv' := [(2, .int 0), (0, .ref (HB.size + 91)), (1, .int v1)]) hx hb dX12_amiss_10 rfl hl (by decide) rfl (fun ls hl => ?_)
    refine lv_iconst (v := 0) hx hb dX12_amiss_11 (by decide) ?_
    refine lv_istore_n (lv' := [(3, .int 0), (2, .int 0), (0, .ref (HB.size + 91)), (1, .int v1)]) hx hb dX12_amiss_12 rfl hl (by decide) rfl (fun ls hl => ?_)
    exact b13  F H locs ls G25 G32 G41 v1 0 0  hI e25 e32 e41 (lv_sub hl [2, 3, 1, 0] rfl) h
  · replace h := ite_t hc h
    refine lv_iconst (v := (-1)) hx hb dX12_amiss_7 (by decide) ?_
    have hq := Option.some.inj h
    exact W.iret (v := (-1)) hx hb hr (fun t ht hW => qc_mk (congrArg (fun z => Outcome.returned (some (Value.int z))) hq) (by rw [ht]; exact hI.nil)) hI.2.2 dX12_amiss_8 hlocks
noncomputable def f_X12_silent_l27b (F : Nat)  (k27 : Grp → Grp → Grp → Int32 → Int32 → Int32 → Option (Int32)) (G23 : Grp) (G25 : Grp) (G32 : Grp) (v1 : Int32) (v2 : Int32) (v3 : Int32) : Option (Int32) :=
  if (G32.1 91 57) ≤ v3 then some (((G23.1 91 0) / 30) - (v2 / 30)) else ck v3 200 (if (G32.1 132 v3.toNatClampNeg) = v1 then ck v3 200 (if (G32.1 133 v3.toNatClampNeg) = 0 then ck v3 200 (if (G32.1 135 v3.toNatClampNeg) = 6 then ck v3 200 (if (G32.1 136 v3.toNatClampNeg) ≤ v2 then bn (v3 + 1) (fun v3_82 => k27 G23 G25 G32 v1 v2 v3_82) else ck v3 200 (bn ((G32.1 136 v3.toNatClampNeg)) (fun v2_81 => bn (v3 + 1) (fun v3_82 => k27 G23 G25 G32 v1 v2_81 v3_82)))) else bn (v3 + 1) (fun v3_82 => k27 G23 G25 G32 v1 v2 v3_82)) else bn (v3 + 1) (fun v3_82 => k27 G23 G25 G32 v1 v2 v3_82)) else bn (v3 + 1) (fun v3_82 => k27 G23 G25 G32 v1 v2 v3_82))
noncomputable def f_X12_silent_l27 (F : Nat)  (fu : Nat) : Grp → Grp → Grp → Int32 → Int32 → Int32 → Option (Int32) := Nat.rec (motive := fun _ => Grp → Grp → Grp → Int32 → Int32 → Int32 → Option (Int32)) (fun _ _ _ _ _ _ => none) (fun _ ih => f_X12_silent_l27b F  ih) fu
noncomputable def f_X12_silent (F : Nat) (G23 : Grp) (G25 : Grp) (G32 : Grp) (v1 : Int32) : Option (Int32) :=
  ob (f_X12_isPair F G25 v1) (fun q_2 => if q_2 = 0 then some (-1) else ob (f_X12_isOpen F G25 v1) (fun q_10 => if q_10 = 0 then some (-1) else ck v1 40 (bn ((G25.1 101 v1.toNatClampNeg)) (fun v2_24 => f_X12_silent_l27 F  F G23 G25 G32 v1 v2_24 0))))
def RM_X12_silent : Room := { frames := 1, cells := 0, slots := 0, locals := 21 }
abbrev B_X12_silent (HB : Heap) (D : va_G) (y : Nat → ClassId) (n : Nat) (κ : Nat → Nat) (σ : St) (q : Int32) : Heap → Prop := fun H => IV HB D y n n κ σ [] H
set_option maxRecDepth 100000 in
set_option maxHeartbeats 4000000 in
theorem c_X12_silent (l : Launch) (HB : Heap) (D : va_G) (y : Nat → ClassId) (F n : Nat) (κ : Nat → Nat) (σ : St) (hN : N0 ≤ n) (v1 : Int32)  (G23 : Grp) (e23 : σ 23 = G23) (G25 : Grp) (e25 : σ 25 = G25) (G32 : Grp) (e32 : σ 32 = G32) (q : Int32) (h : f_X12_silent F G23 G25 G32 v1 = some q) : MT l HB D y yX12_silent cX12_silent 4 (some .int) RM_X12_silent [.ref (HB.size + 91), .int v1] (IV HB D y n n κ σ []) (some (.int q)) (B_X12_silent HB D y n κ σ q) := by
  refine Met.ofW (cc := cX12_silent) (maxL := 4) (ret := (some .int)) (by decide) rfl ?_
  intro p e s m args below meth c s₁ BL hml hv
  obtain ⟨rfl, hI, hKK⟩ := hv
  have hx := BL.exec
  have hb := BL.bytes
  have hr := BL.returns
  have hts : ∀ w ∈ gtb, w.before _ s = true := fun w hw => atoms_spec BL.pre w (List.mem_cons_of_mem _ hw)
  have hml : c.maxLocals = 4 := hml
  have hown : s.vm.findClass RX12 = some m.cls := findClass_of_methodNamed BL.named
  have hlocks := BL.notSynchronized
  have hk0 := hI.1.2.2.2.2
  have hl := lv_entry ([.ref (HB.size + 91), .int v1]) (n := 4) (Nat.le_of_ble_eq_true rfl)
  rw [lg_entry_eq]
  generalize (lg_sl ([.ref (HB.size + 91), .int v1]) ++ List.replicate (4 - (lg_sl ([.ref (HB.size + 91), .int v1])).length) Slot.unset).toArray = ls at hl ⊢
  have hl : lv_has ls 4 [(0, .ref (HB.size + 91)), (1, .int v1)] := hl
  generalize hargs : ([.ref (HB.size + 91), .int v1] : List Value).toArray = args at *
  have b27 : ∀ (fu : Nat) (H : Heap) (locs : List Loc) (ls : Array Slot) (G23 : Grp) (G25 : Grp) (G32 : Grp) (v1 : Int32) (v2 : Int32) (v3 : Int32) , IV HB D y n n κ σ locs H → σ 23 = G23 → σ 25 = G25 → σ 32 = G32 → lv_has ls 4 [(0, .ref (HB.size + 91)), (1, .int v1), (2, .int v2), (3, .int v3)] → f_X12_silent_l27 F  fu G23 G25 G32 v1 v2 v3 = some q → WX RM_X12_silent p l e s m args below meth c HB (some (.int q)) (B_X12_silent HB D y n κ σ q) H locs (F0 m 27 ls []) := by
    intro  fu
    induction fu with
    | zero =>
      intro H locs ls G23 G25 G32 v1 v2 v3 hI e23 e25 e32 hl h
      exact absurd h (by intro h; cases h)
    | succ fu hk27 =>
      intro H locs ls G23 G25 G32 v1 v2 v3 hI e23 e25 e32 hl h
      have h : f_X12_silent_l27b F  (f_X12_silent_l27 F  fu) G23 G25 G32 v1 v2 v3 = some q := h
      generalize f_X12_silent_l27 F  fu = k27 at h hk27
      unfold f_X12_silent_l27b at h
      refine lv_iload_n hx hb dX12_silent_27 rfl (lv_at hl 3 rfl) ?_
      refine lv_aload_n hx hb dX12_silent_28 rfl (lv_at hl 0 rfl) ?_
      refine gt_X12_431 hx hb hts hown hKK hI e32 (lc91 hN) (kc91 hk0) dX12_silent_29 ?_
      refine lv_icmp_ge (tgt := 88) hx hb dX12_silent_32 (by decide) (fun hc => ?_) (fun hc => ?_)
      · replace h := ite_t hc h
        refine lv_aload_n hx hb dX12_silent_88 rfl (lv_at hl 0 rfl) ?_
        refine gt_X12_281 hx hb hts hown hKK hI e23 (lc91 hN) (kc91 hk0) dX12_silent_89 ?_
        refine lv_bipush (v := 30) hx hb dX12_silent_92 (by decide) ?_
        refine lv_idiv hx hb dX12_silent_94 (by decide) ?_
        refine lv_iload_n hx hb dX12_silent_95 rfl (lv_at hl 2 rfl) ?_
        refine lv_bipush (v := 30) hx hb dX12_silent_96 (by decide) ?_
        refine lv_idiv hx hb dX12_silent_98 (by decide) ?_
        refine lv_isub hx hb dX12_silent_99 ?_
        have hq := Option.some.inj h
        exact W.iret (v := (((G23.1 91 0) / 30) - (v2 / 30))) hx hb hr (fun t ht hW => qc_mk (congrArg (fun z => Outcome.returned (some (Value.int z))) hq) (by rw [ht]; exact hI.nil)) hI.2.2 dX12_silent_100 hlocks
      · replace h := ite_f hc h
        refine lv_aload_n hx hb dX12_silent_35 rfl (lv_at hl 0 rfl) ?_
        refine gf_X12_133 hx hb hts hown hKK hI hN dX12_silent_36 ?_
        refine lv_iload_n hx hb dX12_silent_39 rfl (lv_at hl 3 rfl) ?_
        obtain ⟨hin_, h⟩ := ck_e h
        refine la_57 hx hb hKK hI e32 (lc132 hN) (kc132 hk0) hin_ dX12_silent_40 ?_
        refine lv_iload_n hx hb dX12_silent_41 rfl (lv_at hl 1 rfl) ?_
        refine lv_icmp_ne (tgt := 82) hx hb dX12_silent_42 (by decide) (fun hc => ?_) (fun hc => ?_)
        · replace h := ite_f hc h
          obtain ⟨v3_82, qq, h⟩ := bn_e h
          refine lv_iinc (v := v3_82) (lv' := [(3, .int v3_82), (0, .ref (HB.size + 91)), (1, .int v1), (2, .int v2)]) hx hb dX12_silent_82 hl (k := 3) rfl (by rw [qq]; rfl) (by decide) rfl (fun ls hl => ?_)
          refine lv_goto (tgt := 27) hx hb dX12_silent_85 (by decide) ?_
          exact hk27 H locs ls G23 G25 G32 v1 v2 v3_82  hI e23 e25 e32 (lv_sub hl [1, 2, 3, 0] rfl) h
        · replace h := ite_t hc h
          refine lv_aload_n hx hb dX12_silent_45 rfl (lv_at hl 0 rfl) ?_
          refine gf_X12_136 hx hb hts hown hKK hI hN dX12_silent_46 ?_
          refine lv_iload_n hx hb dX12_silent_49 rfl (lv_at hl 3 rfl) ?_
          obtain ⟨hin_, h⟩ := ck_e h
          refine la_57 hx hb hKK hI e32 (lc133 hN) (kc133 hk0) hin_ dX12_silent_50 ?_
          refine lv_if_ne (tgt := 82) hx hb dX12_silent_51 (by decide) (fun hc => ?_) (fun hc => ?_)
          · replace h := ite_f hc h
            obtain ⟨v3_82, qq, h⟩ := bn_e h
            refine lv_iinc (v := v3_82) (lv' := [(3, .int v3_82), (0, .ref (HB.size + 91)), (1, .int v1), (2, .int v2)]) hx hb dX12_silent_82 hl (k := 3) rfl (by rw [qq]; rfl) (by decide) rfl (fun ls hl => ?_)
            refine lv_goto (tgt := 27) hx hb dX12_silent_85 (by decide) ?_
            exact hk27 H locs ls G23 G25 G32 v1 v2 v3_82  hI e23 e25 e32 (lv_sub hl [1, 2, 3, 0] rfl) h
          · replace h := ite_t hc h
            refine lv_aload_n hx hb dX12_silent_54 rfl (lv_at hl 0 rfl) ?_
            refine gf_X12_142 hx hb hts hown hKK hI hN dX12_silent_55 ?_
            refine lv_iload_n hx hb dX12_silent_58 rfl (lv_at hl 3 rfl) ?_
            obtain ⟨hin_, h⟩ := ck_e h
            refine la_57 hx hb hKK hI e32 (lc135 hN) (kc135 hk0) hin_ dX12_silent_59 ?_
            refine lv_bipush (v := 6) hx hb dX12_silent_60 (by decide) ?_
            refine lv_icmp_ne (tgt := 82) hx hb dX12_silent_62 (by decide) (fun hc => ?_) (fun hc => ?_)
            · replace h := ite_f hc h
              obtain ⟨v3_82, qq, h⟩ := bn_e h
              refine lv_iinc (v := v3_82) (lv' := [(3, .int v3_82), (0, .ref (HB.size + 91)), (1, .int v1), (2, .int v2)]) hx hb dX12_silent_82 hl (k := 3) rfl (by rw [qq]; rfl) (by decide) rfl (fun ls hl => ?_)
              refine lv_goto (tgt := 27) hx hb dX12_silent_85 (by decide) ?_
              exact hk27 H locs ls G23 G25 G32 v1 v2 v3_82  hI e23 e25 e32 (lv_sub hl [1, 2, 3, 0] rfl) h
            · replace h := ite_t hc h
              refine lv_aload_n hx hb dX12_silent_65 rfl (lv_at hl 0 rfl) ?_
              refine gf_X12_145 hx hb hts hown hKK hI hN dX12_silent_66 ?_
              refine lv_iload_n hx hb dX12_silent_69 rfl (lv_at hl 3 rfl) ?_
              obtain ⟨hin_, h⟩ := ck_e h
              refine la_57 hx hb hKK hI e32 (lc136 hN) (kc136 hk0) hin_ dX12_silent_70 ?_
              refine lv_iload_n hx hb dX12_silent_71 rfl (lv_at hl 2 rfl) ?_
              refine lv_icmp_le (tgt := 82) hx hb dX12_silent_72 (by decide) (fun hc => ?_) (fun hc => ?_)
              · replace h := ite_t hc h
                obtain ⟨v3_82, qq, h⟩ := bn_e h
                refine lv_iinc (v := v3_82) (lv' := [(3, .int v3_82), (0, .ref (HB.size + 91)), (1, .int v1), (2, .int v2)]) hx hb dX12_silent_82 hl (k := 3) rfl (by rw [qq]; rfl) (by decide) rfl (fun ls hl => ?_)
                refine lv_goto (tgt := 27) hx hb dX12_silent_85 (by decide) ?_
                exact hk27 H locs ls G23 G25 G32 v1 v2 v3_82  hI e23 e25 e32 (lv_sub hl [1, 2, 3, 0] rfl) h
              · replace h := ite_f hc h
                refine lv_aload_n hx hb dX12_silent_75 rfl (lv_at hl 0 rfl) ?_
                refine gf_X12_145 hx hb hts hown hKK hI hN dX12_silent_76 ?_
                refine lv_iload_n hx hb dX12_silent_79 rfl (lv_at hl 3 rfl) ?_
                obtain ⟨hin_, h⟩ := ck_e h
                refine la_57 hx hb hKK hI e32 (lc136 hN) (kc136 hk0) hin_ dX12_silent_80 ?_
                obtain ⟨v2_81, qq, h⟩ := bn_e h
                refine topi qq ?_
                refine lv_istore_n (lv' := [(2, .int v2_81), (0, .ref (HB.size + 91)), (1, .int v1), (3, .int v3)]) hx hb dX12_silent_81 rfl hl (by decide) rfl (fun ls hl => ?_)
                obtain ⟨v3_82, qq, h⟩ := bn_e h
                refine lv_iinc (v := v3_82) (lv' := [(3, .int v3_82), (2, .int v2_81), (0, .ref (HB.size + 91)), (1, .int v1)]) hx hb dX12_silent_82 hl (k := 3) rfl (by rw [qq]; rfl) (by decide) rfl (fun ls hl => ?_)
                refine lv_goto (tgt := 27) hx hb dX12_silent_85 (by decide) ?_
                exact hk27 H locs ls G23 G25 G32 v1 v2_81 v3_82  hI e23 e25 e32 (lv_sub hl [2, 3, 1, 0] rfl) h
  show WX RM_X12_silent p l e s m args below meth c HB (some (.int q)) (B_X12_silent HB D y n κ σ q) s.heap [] (F0 m 0 ls [])
  generalize s.heap = H at hI ⊢
  unfold f_X12_silent at h
  obtain ⟨locs, hlocs⟩ : ∃ x : List Loc, x = [] := ⟨_, rfl⟩
  rw [← hlocs] at hI ⊢
  refine lv_aload_n hx hb dX12_silent_0 rfl (lv_at hl 0 rfl) ?_
  refine lv_iload_n hx hb dX12_silent_1 rfl (lv_at hl 1 rfl) ?_
  obtain ⟨q_2, hq_2, h⟩ := ob_e h
  refine r_callV (As := [.int v1]) (rest := []) hx hb hml hts hown (c_X12_isPair l HB D y F n κ σ hN v1 G25 e25 q_2 hq_2) cal_X12_isPair im_X12_isPair se_X12_isPair lm_X12_304 ⟨Nat.le_of_ble_eq_true rfl, Nat.le_of_ble_eq_true rfl⟩ hI.nil hKK (r_recv hKK hI (hE12 HB.size y) rfl (lc91 hN) (kc91 hk0)) rfl hl.1 hI.2.2 rfl (Nat.le_of_ble_eq_true rfl) dX12_silent_2 ⟨Nat.le_of_ble_eq_true rfl, Nat.le_of_ble_eq_true rfl⟩ rfl rfl rfl (fun H locs hB hlo => ?_)
  have hI := hB.re hlo
  refine lv_if_eq (tgt := 16) hx hb dX12_silent_5 (by decide) (fun hc => ?_) (fun hc => ?_)
  · replace h := ite_t hc h
    refine lv_iconst (v := (-1)) hx hb dX12_silent_16 (by decide) ?_
    have hq := Option.some.inj h
    exact W.iret (v := (-1)) hx hb hr (fun t ht hW => qc_mk (congrArg (fun z => Outcome.returned (some (Value.int z))) hq) (by rw [ht]; exact hI.nil)) hI.2.2 dX12_silent_17 hlocks
  · replace h := ite_f hc h
    refine lv_aload_n hx hb dX12_silent_8 rfl (lv_at hl 0 rfl) ?_
    refine lv_iload_n hx hb dX12_silent_9 rfl (lv_at hl 1 rfl) ?_
    obtain ⟨q_10, hq_10, h⟩ := ob_e h
    refine r_callV (As := [.int v1]) (rest := []) hx hb hml hts hown (c_X12_isOpen l HB D y F n κ σ hN v1 G25 e25 q_10 hq_10) cal_X12_isOpen im_X12_isOpen se_X12_isOpen lm_X12_277 ⟨Nat.le_of_ble_eq_true rfl, Nat.le_of_ble_eq_true rfl⟩ hI.nil hKK (r_recv hKK hI (hE12 HB.size y) rfl (lc91 hN) (kc91 hk0)) rfl hl.1 hI.2.2 rfl (Nat.le_of_ble_eq_true rfl) dX12_silent_10 ⟨Nat.le_of_ble_eq_true rfl, Nat.le_of_ble_eq_true rfl⟩ rfl rfl rfl (fun H locs hB hlo => ?_)
    have hI := hB.re hlo
    refine lv_if_ne (tgt := 18) hx hb dX12_silent_13 (by decide) (fun hc => ?_) (fun hc => ?_)
    · replace h := ite_f hc h
      refine lv_aload_n hx hb dX12_silent_18 rfl (lv_at hl 0 rfl) ?_
      refine gf_X12_37 hx hb hts hown hKK hI hN dX12_silent_19 ?_
      refine lv_iload_n hx hb dX12_silent_22 rfl (lv_at hl 1 rfl) ?_
      obtain ⟨hin_, h⟩ := ck_e h
      refine la_44 hx hb hKK hI e25 (lc101 hN) (kc101 hk0) hin_ dX12_silent_23 ?_
      obtain ⟨v2_24, qq, h⟩ := bn_e h
      refine topi qq ?_
      refine lv_istore_n (lv' := [(2, .int v2_24), (0, .ref (HB.size + 91)), (1, .int v1)]) hx hb dX12_silent_24 rfl hl (by decide) rfl (fun ls hl => ?_)
      refine lv_iconst (v := 0) hx hb dX12_silent_25 (by decide) ?_
      refine lv_istore_n (lv' := [(3, .int 0), (2, .int v2_24), (0, .ref (HB.size + 91)), (1, .int v1)]) hx hb dX12_silent_26 rfl hl (by decide) rfl (fun ls hl => ?_)
      exact b27  F H locs ls G23 G25 G32 v1 v2_24 0  hI e23 e25 e32 (lv_sub hl [2, 3, 1, 0] rfl) h
    · replace h := ite_t hc h
      refine lv_iconst (v := (-1)) hx hb dX12_silent_16 (by decide) ?_
      have hq := Option.some.inj h
      exact W.iret (v := (-1)) hx hb hr (fun t ht hW => qc_mk (congrArg (fun z => Outcome.returned (some (Value.int z))) hq) (by rw [ht]; exact hI.nil)) hI.2.2 dX12_silent_17 hlocks
noncomputable def f_X12_wish (F : Nat) (G24 : Grp) (G42 : Grp) (v1 : Int32) (v2 : Int32) (v3 : Int32) : Option (Int32 × Grp) :=
  ob (f_X12_isGiver F G24 v1) (fun q_2 => if q_2 = 0 then some (0, G42) else ob (f_X12_in F v2 0 31) (fun q_12 => if q_12 = 0 then some (0, G42) else ob (f_X12_in F v3 0 63) (fun q_22 => if q_22 = 0 then some (0, G42) else ck v1 16 (bn (gI G42 172 v1.toNatClampNeg (vp_nar .boolean 1)) (fun G42_36 => ck v1 16 (bn (gI G42_36 168 v1.toNatClampNeg v2) (fun G42_43 => ck v1 16 (bn (gI G42_43 169 v1.toNatClampNeg v3) (fun G42_50 => some (1, G42_50))))))))))
def RM_X12_wish : Room := { frames := 1, cells := 0, slots := 0, locals := 22 }
abbrev W_X12_wish : List Nat := [42]
abbrev B_X12_wish (HB : Heap) (D : va_G) (y : Nat → ClassId) (n : Nat) (κ : Nat → Nat) (σ0 : St) (q : Int32 × Grp) : Heap → Prop := fun H => ∃ σ : St, IV HB D y n n κ σ [] H ∧ σ 42 = q.2 ∧ ∀ j, j ∉ W_X12_wish → σ j = σ0 j
set_option maxRecDepth 100000 in
set_option maxHeartbeats 4000000 in
theorem c_X12_wish (l : Launch) (HB : Heap) (D : va_G) (y : Nat → ClassId) (F n : Nat) (κ : Nat → Nat) (σ0 : St) (hN : N0 ≤ n) (v1 : Int32)  (v2 : Int32)  (v3 : Int32)  (G24 : Grp) (e24 : σ0 24 = G24) (G42 : Grp) (e42 : σ0 42 = G42) (q : Int32 × Grp) (h : f_X12_wish F G24 G42 v1 v2 v3 = some q) : MT l HB D y yX12_wish cX12_wish 4 (some .boolean) RM_X12_wish [.ref (HB.size + 91), .int v1, .int v2, .int v3] (IV HB D y n n κ σ0 []) (some (.int q.1)) (B_X12_wish HB D y n κ σ0 q) := by
  refine Met.ofW (cc := cX12_wish) (maxL := 4) (ret := (some .boolean)) (by decide) rfl ?_
  intro p e s m args below meth c s₁ BL hml hv
  obtain ⟨rfl, hI, hKK⟩ := hv
  have hx := BL.exec
  have hb := BL.bytes
  have hr := BL.returns
  have hts : ∀ w ∈ gtb, w.before _ s = true := fun w hw => atoms_spec BL.pre w (List.mem_cons_of_mem _ hw)
  have hml : c.maxLocals = 4 := hml
  have hown : s.vm.findClass RX12 = some m.cls := findClass_of_methodNamed BL.named
  have hlocks := BL.notSynchronized
  have hk0 := hI.1.2.2.2.2
  have hl := lv_entry ([.ref (HB.size + 91), .int v1, .int v2, .int v3]) (n := 4) (Nat.le_of_ble_eq_true rfl)
  rw [lg_entry_eq]
  generalize (lg_sl ([.ref (HB.size + 91), .int v1, .int v2, .int v3]) ++ List.replicate (4 - (lg_sl ([.ref (HB.size + 91), .int v1, .int v2, .int v3])).length) Slot.unset).toArray = ls at hl ⊢
  have hl : lv_has ls 4 [(0, .ref (HB.size + 91)), (1, .int v1), (2, .int v2), (3, .int v3)] := hl
  generalize hargs : ([.ref (HB.size + 91), .int v1, .int v2, .int v3] : List Value).toArray = args at *
  obtain ⟨σ, hI, e24, e42, fr⟩ : ∃ σ : St, IV HB D y n n κ σ [] s.heap ∧ σ 24 = G24 ∧ σ 42 = G42 ∧ ∀ j, j ∉ W_X12_wish → σ j = σ0 j := ⟨σ0, hI, e24, e42, fun _ _ => rfl⟩
  show WX RM_X12_wish p l e s m args below meth c HB (some (.int q.1)) (B_X12_wish HB D y n κ σ0 q) s.heap [] (F0 m 0 ls [])
  generalize s.heap = H at hI ⊢
  unfold f_X12_wish at h
  obtain ⟨locs, hlocs⟩ : ∃ x : List Loc, x = [] := ⟨_, rfl⟩
  rw [← hlocs] at hI ⊢
  refine lv_aload_n hx hb dX12_wish_0 rfl (lv_at hl 0 rfl) ?_
  refine lv_iload_n hx hb dX12_wish_1 rfl (lv_at hl 1 rfl) ?_
  obtain ⟨q_2, hq_2, h⟩ := ob_e h
  refine r_callV (As := [.int v1]) (rest := []) hx hb hml hts hown (c_X12_isGiver l HB D y F n κ σ hN v1 G24 e24 q_2 hq_2) cal_X12_isGiver im_X12_isGiver se_X12_isGiver lm_X12_284 ⟨Nat.le_of_ble_eq_true rfl, Nat.le_of_ble_eq_true rfl⟩ hI.nil hKK (r_recv hKK hI (hE12 HB.size y) rfl (lc91 hN) (kc91 hk0)) rfl hl.1 hI.2.2 rfl (Nat.le_of_ble_eq_true rfl) dX12_wish_2 ⟨Nat.le_of_ble_eq_true rfl, Nat.le_of_ble_eq_true rfl⟩ rfl rfl rfl (fun H locs hB hlo => ?_)
  have hI := hB.re hlo
  refine lv_if_eq (tgt := 28) hx hb dX12_wish_5 (by decide) (fun hc => ?_) (fun hc => ?_)
  · replace h := ite_t hc h
    refine lv_iconst (v := 0) hx hb dX12_wish_28 (by decide) ?_
    have hq := Option.some.inj h
    exact W.zret (v := 0) (ty := .boolean) hx hb hr rfl (fun t ht hW => qc_mk (congrArg (fun z => Outcome.returned (some (Value.int z.1))) hq) (by rw [ht]; exact ⟨σ, hI.nil, e42.trans (congrArg (fun z => z.2) hq), fr⟩)) hI.2.2 dX12_wish_29 hlocks
  · replace h := ite_f hc h
    refine lv_iload_n hx hb dX12_wish_8 rfl (lv_at hl 2 rfl) ?_
    refine lv_iconst (v := 0) hx hb dX12_wish_9 (by decide) ?_
    refine lv_bipush (v := 31) hx hb dX12_wish_10 (by decide) ?_
    obtain ⟨q_12, hq_12, h⟩ := ob_e h
    refine r_callS (As := [.int v2, .int 0, .int 31]) (rest := []) hx hb hml hts hown (c_X12_in l HB D y F n κ σ hN v2 0 31  q_12 hq_12) cal_X12_in st_X12_in lm_X12_260 ⟨Nat.le_of_ble_eq_true rfl, Nat.le_of_ble_eq_true rfl⟩ hI.nil hKK rfl hl.1 hI.2.2 rfl (Nat.le_of_ble_eq_true rfl) dX12_wish_12 ⟨Nat.le_of_ble_eq_true rfl, Nat.le_of_ble_eq_true rfl⟩ rfl rfl rfl (fun H locs hB hlo => ?_)
    have hI := hB.re hlo
    refine lv_if_eq (tgt := 28) hx hb dX12_wish_15 (by decide) (fun hc => ?_) (fun hc => ?_)
    · replace h := ite_t hc h
      refine lv_iconst (v := 0) hx hb dX12_wish_28 (by decide) ?_
      have hq := Option.some.inj h
      exact W.zret (v := 0) (ty := .boolean) hx hb hr rfl (fun t ht hW => qc_mk (congrArg (fun z => Outcome.returned (some (Value.int z.1))) hq) (by rw [ht]; exact ⟨σ, hI.nil, e42.trans (congrArg (fun z => z.2) hq), fr⟩)) hI.2.2 dX12_wish_29 hlocks
    · replace h := ite_f hc h
      refine lv_iload_n hx hb dX12_wish_18 rfl (lv_at hl 3 rfl) ?_
      refine lv_iconst (v := 0) hx hb dX12_wish_19 (by decide) ?_
      refine lv_bipush (v := 63) hx hb dX12_wish_20 (by decide) ?_
      obtain ⟨q_22, hq_22, h⟩ := ob_e h
      refine r_callS (As := [.int v3, .int 0, .int 63]) (rest := []) hx hb hml hts hown (c_X12_in l HB D y F n κ σ hN v3 0 63  q_22 hq_22) cal_X12_in st_X12_in lm_X12_260 ⟨Nat.le_of_ble_eq_true rfl, Nat.le_of_ble_eq_true rfl⟩ hI.nil hKK rfl hl.1 hI.2.2 rfl (Nat.le_of_ble_eq_true rfl) dX12_wish_22 ⟨Nat.le_of_ble_eq_true rfl, Nat.le_of_ble_eq_true rfl⟩ rfl rfl rfl (fun H locs hB hlo => ?_)
      have hI := hB.re hlo
      refine lv_if_ne (tgt := 30) hx hb dX12_wish_25 (by decide) (fun hc => ?_) (fun hc => ?_)
      · replace h := ite_f hc h
        refine lv_aload_n hx hb dX12_wish_30 rfl (lv_at hl 0 rfl) ?_
        refine gf_X12_254 hx hb hts hown hKK hI hN dX12_wish_31 ?_
        refine lv_iload_n hx hb dX12_wish_34 rfl (lv_at hl 1 rfl) ?_
        refine lv_iconst (v := 1) hx hb dX12_wish_35 (by decide) ?_
        obtain ⟨hin_, h⟩ := ck_e h
        obtain ⟨G42_36, qq, h⟩ := bn_e h
        refine sa_75 hx hb hKK hI e42 (lc172 hN) (kc172 hk0) hin_ dX12_wish_36 (fun σ H locs hI ew ho => ?_)
        have e42 := ew.trans qq.symm
        have e24 := (ho 24 (nn rfl)).trans e24
        have fr := frs fr ho (by decide)
        refine lv_aload_n hx hb dX12_wish_37 rfl (lv_at hl 0 rfl) ?_
        refine gf_X12_242 hx hb hts hown hKK hI hN dX12_wish_38 ?_
        refine lv_iload_n hx hb dX12_wish_41 rfl (lv_at hl 1 rfl) ?_
        refine lv_iload_n hx hb dX12_wish_42 rfl (lv_at hl 2 rfl) ?_
        obtain ⟨hin_, h⟩ := ck_e h
        obtain ⟨G42_43, qq, h⟩ := bn_e h
        refine sa_73 hx hb hKK hI e42 (lc168 hN) (kc168 hk0) hin_ dX12_wish_43 (fun σ H locs hI ew ho => ?_)
        have e42 := ew.trans qq.symm
        have e24 := (ho 24 (nn rfl)).trans e24
        have fr := frs fr ho (by decide)
        refine lv_aload_n hx hb dX12_wish_44 rfl (lv_at hl 0 rfl) ?_
        refine gf_X12_245 hx hb hts hown hKK hI hN dX12_wish_45 ?_
        refine lv_iload_n hx hb dX12_wish_48 rfl (lv_at hl 1 rfl) ?_
        refine lv_iload_n hx hb dX12_wish_49 rfl (lv_at hl 3 rfl) ?_
        obtain ⟨hin_, h⟩ := ck_e h
        obtain ⟨G42_50, qq, h⟩ := bn_e h
        refine sa_73 hx hb hKK hI e42 (lc169 hN) (kc169 hk0) hin_ dX12_wish_50 (fun σ H locs hI ew ho => ?_)
        have e42 := ew.trans qq.symm
        have e24 := (ho 24 (nn rfl)).trans e24
        have fr := frs fr ho (by decide)
        refine lv_iconst (v := 1) hx hb dX12_wish_51 (by decide) ?_
        have hq := Option.some.inj h
        exact W.zret (v := 1) (ty := .boolean) hx hb hr rfl (fun t ht hW => qc_mk (congrArg (fun z => Outcome.returned (some (Value.int z.1))) hq) (by rw [ht]; exact ⟨σ, hI.nil, e42.trans (congrArg (fun z => z.2) hq), fr⟩)) hI.2.2 dX12_wish_52 hlocks
      · replace h := ite_t hc h
        refine lv_iconst (v := 0) hx hb dX12_wish_28 (by decide) ?_
        have hq := Option.some.inj h
        exact W.zret (v := 0) (ty := .boolean) hx hb hr rfl (fun t ht hW => qc_mk (congrArg (fun z => Outcome.returned (some (Value.int z.1))) hq) (by rw [ht]; exact ⟨σ, hI.nil, e42.trans (congrArg (fun z => z.2) hq), fr⟩)) hI.2.2 dX12_wish_29 hlocks
