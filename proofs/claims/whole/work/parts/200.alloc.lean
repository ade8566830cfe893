theorem kst {v w : Int32} (hg : vp_in v 6) (q : w = v + 1) : w.toNatClampNeg = v.toNatClampNeg + 1 := by
  obtain ⟨j, hj, rfl⟩ := vp_in_of hg (by decide)
  rw [q, nI_1, nI_clamp (by omega), nI_clamp (by omega)]
theorem kst0 {k : Nat} {v w : Int32} (hk : k ≤ v.toNatClampNeg) (hg : vp_in v 6) (q : w = v + 1) : k ≤ w.toNatClampNeg := by rw [kst hg q]; omega
theorem kst1 {k : Nat} {v w : Int32} (hk : k ≤ v.toNatClampNeg) (hg : vp_in v 6) (q : w = v + 1) : k + 1 ≤ w.toNatClampNeg := by rw [kst hg q]; omega
theorem kf1 {k : Nat} {v : Int32} (hk : k ≤ v.toNatClampNeg) (hg : vp_in v 6) : k + 1 ≤ 6 := by
  have h : v.toNatClampNeg < 6 := Nat.not_le.mp fun q => hg (Or.inr q)
  omega
theorem kf2 {k : Nat} {v : Int32} (hk : k ≤ v.toNatClampNeg) (hg : vp_in v 6) : 9 * k + 9 ≤ 54 := by
  have h : v.toNatClampNeg < 6 := Nat.not_le.mp fun q => hg (Or.inr q)
  omega
theorem IV.kap {HB : Heap} {D : va_G} {y : Nat → ClassId} {n : Nat} {κ κ' : Nat → Nat} {σ : St} {locs : List Loc} {H : Heap} (h : IV HB D y n n κ σ locs H) (hN : N0 ≤ n) (hk : ∀ a, a < n → κ' a = κ a) : IV HB D y n n κ' σ locs H := by
  obtain ⟨⟨h1, h2, h3, h4, h5⟩, ⟨h6, h7, h8⟩, h9⟩ := h
  refine ⟨⟨h1, h2, fun a ha => by rw [hk a ha]; exact h3 a ha, h4, fun a ha => by rw [hk a (Nat.lt_of_lt_of_le ha hN)]; exact h5 a ha⟩, ⟨h6, h7, fun a ha => ?_⟩, h9⟩
  rw [hk a ha]
  refine ⟨fun q hq => ?_, fun q hq t ht => ?_, fun q hq j t ht => ?_⟩
  · obtain ⟨g1, g2, g3⟩ := (h8 a ha).1 q hq
    exact ⟨g1, g2, by rw [hk _ g2]; exact g3⟩
  · obtain ⟨g1, g2⟩ := (h8 a ha).2.1 q hq t ht
    exact ⟨g1, by rw [hk _ g1]; exact g2⟩
  · obtain ⟨g1, g2⟩ := (h8 a ha).2.2 q hq j t ht
    exact ⟨g1, by rw [hk _ g1]; exact g2⟩
theorem IV.bump {HB : Heap} {D : va_G} {y : Nat → ClassId} {n : Nat} {κ : Nat → Nat} {σ : St} {locs : List Loc} {H : Heap} (h : IV HB D y n (n + 1) κ σ locs H) (hN : N0 ≤ n) (h1 : ownL (κ n) = []) (h2 : typL (κ n) = []) (h3 : tarL (κ n) = []) : IV HB D y (n + 1) (n + 1) κ σ locs H := by
  obtain ⟨hV, ⟨h6, h7, h8⟩, h9⟩ := h
  refine ⟨hV, ⟨Nat.le_refl _, fun _ => h7 hN, fun a ha => ?_⟩, h9⟩
  by_cases e : a = n
  · subst e
    rw [h1, h2, h3]
    exact ⟨fun q hq => absurd hq List.not_mem_nil, fun q hq => absurd hq List.not_mem_nil, fun q hq => absurd hq List.not_mem_nil⟩
  · have ha : a < n := by omega
    refine ⟨fun q hq => ?_, fun q hq t ht => ?_, fun q hq j t ht => ?_⟩
    · obtain ⟨g1, g2, g3⟩ := (h8 a ha).1 q hq
      exact ⟨g1, by omega, g3⟩
    · obtain ⟨g1, g2⟩ := (h8 a ha).2.1 q hq t ht
      exact ⟨by omega, g2⟩
    · obtain ⟨g1, g2⟩ := (h8 a ha).2.2 q hq j t ht
      exact ⟨by omega, g2⟩
section W20
variable {p : Program} {l : Launch} {e : Env} {R : Room} {s : State} {m : MethodId} {args : Array Value} {below : List Frame} {meth : Method} {c : Code} {H : Heap} {locs : List Loc} {cells slots : Nat} {Q : State → Prop}
variable {cc : ByteArray} {pc : Nat} {ls : Array Slot} {rest : List Value} {HB : Heap} {D : va_G} {y : Nat → ClassId} {n : Nat} {κ : Nat → Nat} {σ : St}
theorem r_newPair (hx : p.tables.exec = Jvm.exec) (hb : c.code = cc) (hts : ∀ w ∈ gtb, w.before args s = true) (hown : s.vm.findClass RX3 = some m.cls) (hKK : KK HB D y s) (hI : IV HB D y n n κ σ locs H) (hN : N0 ≤ n) (hcells : cells + 1 ≤ R.cells) (hslots : slots + 9 ≤ R.slots) (hdg : decode cc pc = .ok (.new 33, 3))
    (kk : ∀ (κ' : Nat → Nat) (H1 : Heap), (∀ a, a < n → κ' a = κ a) → κ' n = 5 → IV HB D y (n + 1) (n + 1) κ' σ locs H1 → W p l e R s m args below meth c H1 locs (cells + 1) (slots + 9) Q (F0 m (pc + 3) ls (.ref (HB.size + n) :: rest))) : W p l e R s m args below meth c H locs cells slots Q (F0 m pc ls rest) := by
  have hka : ∀ a, a < n → va_up κ n 5 a = κ a := fun a ha => if_neg (by omega)
  have hkn : va_up κ n 5 n = 5 := if_pos rfl
  have hI2 := hI.kap hN hka
  refine r_new hx hb hts hown hKK hI2 (kd := 5) (T := TX5) (ty := tyX5) (ci := 5) rfl rfl in_X5 tyX5_ok (hz5 HB.size) lx_X3_33 (gtb_t 526 (by decide +kernel) (by decide +kernel)) (gtb_t 12 (by decide +kernel) (by decide +kernel)) hkn hcells hslots hdg (fun H1 hI3 => ?_)
  exact kk _ H1 hka hkn (hI3.bump hN (by rw [hkn]; rfl) (by rw [hkn]; rfl) (by rw [hkn]; rfl))
end W20

noncomputable def f_X5_init (F : Nat) (G9 : Grp) (v0 : Nat) (v1 : Int32) (v2 : Int32) (v3 : Int32) (v4 : Int32) : Option (Grp) :=
  bn (gI G9 v0 0 v1) (fun G9_6 => bn (gI G9_6 v0 1 v2) (fun G9_11 => bn (gI G9_11 v0 2 v3) (fun G9_16 => bn (gI G9_16 v0 3 v4) (fun G9_22 => bn (gI G9_22 v0 4 (-1)) (fun G9_27 => bn (gI G9_27 v0 5 (-1)) (fun G9_32 => bn (gI G9_32 v0 8 (-1)) (fun G9_37 => some G9_37)))))))
def RM_X5_init : Room := { frames := 1, cells := 0, slots := 0, locals := 12 }
abbrev W_X5_init : List Nat := [9]
abbrev B_X5_init (HB : Heap) (D : va_G) (y : Nat → ClassId) (n : Nat) (κ : Nat → Nat) (σ0 : St) (q : Grp) : Heap → Prop := fun H => ∃ σ : St, IV HB D y n n κ σ [] H ∧ σ 9 = q ∧ ∀ j, j ∉ W_X5_init → σ j = σ0 j
set_option maxRecDepth 100000 in
set_option maxHeartbeats 4000000 in
theorem c_X5_init (l : Launch) (HB : Heap) (D : va_G) (y : Nat → ClassId) (F n : Nat) (κ : Nat → Nat) (σ0 : St) (hN : N0 ≤ n) (v0 : Nat) (ha_v0 : v0 < n) (hk_v0 : κ v0 = 5) (v1 : Int32)  (v2 : Int32)  (v3 : Int32)  (v4 : Int32)  (G9 : Grp) (e9 : σ0 9 = G9) (q : Grp) (h : f_X5_init F G9 v0 v1 v2 v3 v4 = some q) : MT l HB D y yX5_init cX5_init 5 none RM_X5_init [.ref (HB.size + v0), .int v1, .int v2, .int v3, .int v4] (IV HB D y n n κ σ0 []) none (B_X5_init HB D y n κ σ0 q) := by
  refine Met.ofW (cc := cX5_init) (maxL := 5) (ret := none) (by decide) rfl ?_
  intro p e s m args below meth c s₁ BL hml hv
  obtain ⟨rfl, hI, hKK⟩ := hv
  have hx := BL.exec
  have hb := BL.bytes
  have hr := BL.returns
  have hts : ∀ w ∈ gtb, w.before _ s = true := fun w hw => atoms_spec BL.pre w (List.mem_cons_of_mem _ hw)
  have hml : c.maxLocals = 5 := hml
  have hown : s.vm.findClass RX5 = some m.cls := findClass_of_methodNamed BL.named
  have hlocks := BL.notSynchronized
  have hin : meth.name = "<init>" := (name_of_methodNamed BL.named BL.method).1
  have hk0 := hI.1.2.2.2.2
  have hl := lv_entry ([.ref (HB.size + v0), .int v1, .int v2, .int v3, .int v4]) (n := 5) (Nat.le_of_ble_eq_true rfl)
  rw [lg_entry_eq]
  generalize (lg_sl ([.ref (HB.size + v0), .int v1, .int v2, .int v3, .int v4]) ++ List.replicate (5 - (lg_sl ([.ref (HB.size + v0), .int v1, .int v2, .int v3, .int v4])).length) Slot.unset).toArray = ls at hl ⊢
  have hl : lv_has ls 5 [(0, .ref (HB.size + v0)), (1, .int v1), (2, .int v2), (3, .int v3), (4, .int v4)] := hl
  generalize hargs : ([.ref (HB.size + v0), .int v1, .int v2, .int v3, .int v4] : List Value).toArray = args at *
  obtain ⟨σ, hI, e9, fr⟩ : ∃ σ : St, IV HB D y n n κ σ [] s.heap ∧ σ 9 = G9 ∧ ∀ j, j ∉ W_X5_init → σ j = σ0 j := ⟨σ0, hI, e9, fun _ _ => rfl⟩
  show WX RM_X5_init p l e s m args below meth c HB none (B_X5_init HB D y n κ σ0 q) s.heap [] (F0 m 0 ls [])
  generalize s.heap = H at hI ⊢
  unfold f_X5_init at h
  obtain ⟨locs, hlocs⟩ : ∃ x : List Loc, x = [] := ⟨_, rfl⟩
  rw [← hlocs] at hI ⊢
  refine lv_aload_n hx hb dX5_init_0 rfl (lv_at hl 0 rfl) ?_
  refine W.objInit hx hb hown (hts _ (gtb_t 530 (by decide +kernel) (by decide +kernel))) (hts _ obI.1) (hts _ obI.2) rfl (by rw [hml]; exact hl.1) rfl dX5_init_1 (Nat.le_of_ble_eq_true rfl) (Nat.le_of_ble_eq_true rfl) ?_
  refine W.eq (g2 := F0 m 4 ls []) rfl ?_
  refine lv_aload_n hx hb dX5_init_4 rfl (lv_at hl 0 rfl) ?_
  refine lv_iload_n hx hb dX5_init_5 rfl (lv_at hl 1 rfl) ?_
  obtain ⟨G9_6, qq, h⟩ := bn_e h
  refine pt_X5_9 hx hb hts hown hKK hin hI e9 ha_v0 hk_v0 dX5_init_6 (fun σ H locs hI ew ho => ?_)
  have e9 := ew.trans qq.symm
  have fr := frs fr ho (by decide)
  refine lv_aload_n hx hb dX5_init_9 rfl (lv_at hl 0 rfl) ?_
  refine lv_iload_n hx hb dX5_init_10 rfl (lv_at hl 2 rfl) ?_
  obtain ⟨G9_11, qq, h⟩ := bn_e h
  refine pt_X5_15 hx hb hts hown hKK hin hI e9 ha_v0 hk_v0 dX5_init_11 (fun σ H locs hI ew ho => ?_)
  have e9 := ew.trans qq.symm
  have fr := frs fr ho (by decide)
  refine lv_aload_n hx hb dX5_init_14 rfl (lv_at hl 0 rfl) ?_
  refine lv_iload_n hx hb dX5_init_15 rfl (lv_at hl 3 rfl) ?_
  obtain ⟨G9_16, qq, h⟩ := bn_e h
  refine pt_X5_18 hx hb hts hown hKK hin hI e9 ha_v0 hk_v0 dX5_init_16 (fun σ H locs hI ew ho => ?_)
  have e9 := ew.trans qq.symm
  have fr := frs fr ho (by decide)
  refine lv_aload_n hx hb dX5_init_19 rfl (lv_at hl 0 rfl) ?_
  refine lv_iload hx hb dX5_init_20 (lv_at hl 4 rfl) ?_
  obtain ⟨G9_22, qq, h⟩ := bn_e h
  refine pt_X5_21 hx hb hts hown hKK hin hI e9 ha_v0 hk_v0 dX5_init_22 (fun σ H locs hI ew ho => ?_)
  have e9 := ew.trans qq.symm
  have fr := frs fr ho (by decide)
  refine lv_aload_n hx hb dX5_init_25 rfl (lv_at hl 0 rfl) ?_
  refine lv_iconst (v := (-1)) hx hb dX5_init_26 (by decide) ?_
  obtain ⟨G9_27, qq, h⟩ := bn_e h
  refine pt_X5_24 hx hb hts hown hKK hI e9 ha_v0 hk_v0 dX5_init_27 (fun σ H locs hI ew ho => ?_)
  have e9 := ew.trans qq.symm
  have fr := frs fr ho (by decide)
  refine lv_aload_n hx hb dX5_init_30 rfl (lv_at hl 0 rfl) ?_
  refine lv_iconst (v := (-1)) hx hb dX5_init_31 (by decide) ?_
  obtain ⟨G9_32, qq, h⟩ := bn_e h
  refine pt_X5_27 hx hb hts hown hKK hI e9 ha_v0 hk_v0 dX5_init_32 (fun σ H locs hI ew ho => ?_)
  have e9 := ew.trans qq.symm
  have fr := frs fr ho (by decide)
  refine lv_aload_n hx hb dX5_init_35 rfl (lv_at hl 0 rfl) ?_
  refine lv_iconst (v := (-1)) hx hb dX5_init_36 (by decide) ?_
  obtain ⟨G9_37, qq, h⟩ := bn_e h
  refine pt_X5_30 hx hb hts hown hKK hI e9 ha_v0 hk_v0 dX5_init_37 (fun σ H locs hI ew ho => ?_)
  have e9 := ew.trans qq.symm
  have fr := frs fr ho (by decide)
  have hq := Option.some.inj h
  exact W.vret hx hb hr (fun t ht hW => qc_mk (rfl) (by rw [ht]; exact ⟨σ, hI.nil, e9.trans (congrArg (fun z => z) hq), fr⟩)) hI.2.2 dX5_init_40 hlocks
noncomputable def f_X3_addPair (F ns : Nat) (G7 : Grp) (G9 : Grp) (v1 : Int32) (v2 : Int32) (v3 : Int32) : Option (Int32 × Nat × Grp × Grp) :=
  if (G7.1 32 10) < 40 then ob (f_X5_init F G9 ns (G7.1 32 10) v1 v2 v3) (fun q_30 => ck (G7.1 32 10) 40 (bn (gR G7 40 (G7.1 32 10).toNatClampNeg (some ns)) (fun G7_33 => bn (gI G7_33 32 10 ((G7_33.1 32 10) + 1)) (fun G7_41 => some (((G7_41.1 32 10) - 1), (ns + 1), G7_41, q_30))))) else some ((-1), ns, G7, G9)
def RM_X3_addPair : Room := { frames := 2, cells := 1, slots := 9, locals := 36 }
abbrev W_X3_addPair : List Nat := [7, 9]
abbrev B_X3_addPair (HB : Heap) (D : va_G) (y : Nat → ClassId) (ns : Nat) (σ0 : St) (q : Int32 × Nat × Grp × Grp) : Heap → Prop := fun H => ∃ (κ : Nat → Nat) (σ : St), IV HB D y q.2.1 q.2.1 κ σ [] H ∧ ns ≤ q.2.1 ∧ σ 7 = q.2.2.1 ∧ σ 9 = q.2.2.2 ∧ ∀ j, j ∉ W_X3_addPair → σ j = σ0 j
set_option maxRecDepth 100000 in
set_option maxHeartbeats 4000000 in
theorem c_X3_addPair (l : Launch) (HB : Heap) (D : va_G) (y : Nat → ClassId) (F ns : Nat) (κs : Nat → Nat) (σ0 : St) (hN : N0 ≤ ns) (v1 : Int32) (v2 : Int32) (v3 : Int32) (G7 : Grp) (e7 : σ0 7 = G7) (G9 : Grp) (e9 : σ0 9 = G9) (q : Int32 × Nat × Grp × Grp) (h : f_X3_addPair F ns G7 G9 v1 v2 v3 = some q) : MT l HB D y yX3_addPair cX3_addPair 4 (some .int) RM_X3_addPair [.ref (HB.size + 32), .int v1, .int v2, .int v3] (IV HB D y ns ns κs σ0 []) (some (.int q.1)) (B_X3_addPair HB D y ns σ0 q) := by
  refine Met.ofW (cc := cX3_addPair) (maxL := 4) (ret := some .int) (by decide) rfl ?_
  intro p e s m args below meth c s₁ BL hml hv
  obtain ⟨rfl, hI, hKK⟩ := hv
  have hx := BL.exec
  have hb := BL.bytes
  have hr := BL.returns
  have hts : ∀ w ∈ gtb, w.before _ s = true := fun w hw => atoms_spec BL.pre w (List.mem_cons_of_mem _ hw)
  have hml : c.maxLocals = 4 := hml
  have hown : s.vm.findClass RX3 = some m.cls := findClass_of_methodNamed BL.named
  have hlocks := BL.notSynchronized
  have hk0 := hI.1.2.2.2.2
  have hnn : ns ≤ ns := Nat.le_refl _
  have hl := lv_entry ([.ref (HB.size + 32), .int v1, .int v2, .int v3]) (n := 4) (Nat.le_of_ble_eq_true rfl)
  rw [lg_entry_eq]
  generalize (lg_sl ([.ref (HB.size + 32), .int v1, .int v2, .int v3]) ++ List.replicate (4 - (lg_sl ([.ref (HB.size + 32), .int v1, .int v2, .int v3])).length) Slot.unset).toArray = ls at hl ⊢
  have hl : lv_has ls 4 [(0, .ref (HB.size + 32)), (1, .int v1), (2, .int v2), (3, .int v3)] := hl
  generalize hargs : ([.ref (HB.size + 32), .int v1, .int v2, .int v3] : List Value).toArray = args at *
  obtain ⟨σ, hI, e7, e9, fr⟩ : ∃ σ : St, IV HB D y ns ns κs σ [] s.heap ∧ σ 7 = G7 ∧ σ 9 = G9 ∧ ∀ j, j ∉ W_X3_addPair → σ j = σ0 j := ⟨σ0, hI, e7, e9, fun _ _ => rfl⟩
  show W p l e RM_X3_addPair s m args below meth c s.heap [] 0 0 (MQ below (QCg (some (.int q.1)) (B_X3_addPair HB D y ns σ0 q)) args s 1 9 (fun x => HB.size ≤ x)) (F0 m 0 ls [])
  generalize s.heap = H at hI ⊢
  unfold f_X3_addPair at h
  obtain ⟨locs, hlocs⟩ : ∃ x : List Loc, x = [] := ⟨_, rfl⟩
  rw [← hlocs] at hI ⊢
  refine lv_aload_n hx hb dX3_addPair_0 rfl (lv_at hl 0 rfl) ?_
  refine gt_X3_62 hx hb hts hown hKK hI e7 (lc32 hN) (kc32 hk0) dX3_addPair_1 ?_
  refine lv_bipush (v := 40) hx hb dX3_addPair_4 (by decide) ?_
  refine lv_icmp_lt (tgt := 11) hx hb dX3_addPair_6 (by decide) (fun hc => ?_) (fun hc => ?_)
  · replace h := ite_t hc h
    refine lv_aload_n hx hb dX3_addPair_11 rfl (lv_at hl 0 rfl) ?_
    refine gf_X3_35 hx hb hts hown hKK hI hN dX3_addPair_12 ?_
    refine lv_aload_n hx hb dX3_addPair_15 rfl (lv_at hl 0 rfl) ?_
    refine gt_X3_62 hx hb hts hown hKK hI e7 (lc32 hN) (kc32 hk0) dX3_addPair_16 ?_
    refine r_newPair hx hb hts hown hKK hI hN (Nat.le_of_ble_eq_true rfl) (Nat.le_of_ble_eq_true rfl) dX3_addPair_19 (fun κ H hka hkn hI => ?_)
    have hnn : ns ≤ ns + 1 := by omega
    have hN : N0 ≤ ns + 1 := by omega
    have hk0 := hI.1.2.2.2.2
    refine lv_dup hx hb dX3_addPair_22 rfl ?_
    refine lv_aload_n hx hb dX3_addPair_23 rfl (lv_at hl 0 rfl) ?_
    refine gt_X3_62 hx hb hts hown hKK hI e7 (lc32 hN) (kc32 hk0) dX3_addPair_24 ?_
    refine lv_iload_n hx hb dX3_addPair_27 rfl (lv_at hl 1 rfl) ?_
    refine lv_iload_n hx hb dX3_addPair_28 rfl (lv_at hl 2 rfl) ?_
    refine lv_iload_n hx hb dX3_addPair_29 rfl (lv_at hl 3 rfl) ?_
    obtain ⟨q_30, hq_30, h⟩ := ob_e h
    refine r_callI (As := [.int (G7.1 32 10), .int v1, .int v2, .int v3]) (rest := [.ref (HB.size + ns), .int (G7.1 32 10), .ref (HB.size + 40)]) hx hb hml hts hown (c_X5_init l HB D y F (ns + 1) κ σ hN ns (Nat.lt_succ_self _) hkn (G7.1 32 10) v1 v2 v3 G9 e9 q_30 hq_30) cal_X5_init rfl im_X5_init lm_X3_65 ⟨Nat.le_of_ble_eq_true rfl, Nat.le_of_ble_eq_true rfl⟩ hI.nil hKK rfl hl.1 hI.2.2 rfl (Nat.le_of_ble_eq_true rfl) dX3_addPair_30 ⟨Nat.le_of_ble_eq_true rfl, Nat.le_of_ble_eq_true rfl⟩ rfl rfl rfl (fun H locs hB hlo => ?_)
    obtain ⟨σ, hB, en9, ho⟩ := hB
    have hI := hB.re hlo
    have e9 := en9
    have e7 := (ho 7 (ni rfl)).trans e7
    have fr := frc fr ho (by decide)
    obtain ⟨hin_, h⟩ := ck_e h
    obtain ⟨G7_33, qq, h⟩ := bn_e h
    refine sa_22 hx hb hKK hI e7 (lc40 hN) (kc40 hk0) (Nat.lt_succ_self _) hkn hin_ (fun hT => hT.setT (nn rfl) (kc40 hk0) (K := 5) (fun q hq => absurd hq List.not_mem_nil) (by decide) (fun t q => by cases q; exact ⟨(Nat.lt_succ_self _), hkn⟩)) dX3_addPair_33 (fun σ H locs hI ew ho => ?_)
    have e7 := ew.trans qq.symm
    have e9 := (ho 9 (nn rfl)).trans e9
    have fr := frs fr ho (by decide)
    refine lv_aload_n hx hb dX3_addPair_34 rfl (lv_at hl 0 rfl) ?_
    refine lv_dup hx hb dX3_addPair_35 rfl ?_
    refine gt_X3_62 hx hb hts hown hKK hI e7 (lc32 hN) (kc32 hk0) dX3_addPair_36 ?_
    refine lv_iconst (v := 1) hx hb dX3_addPair_39 (by decide) ?_
    refine lv_iadd hx hb dX3_addPair_40 ?_
    obtain ⟨G7_41, qq, h⟩ := bn_e h
    refine pt_X3_62 hx hb hts hown hKK hI e7 (lc32 hN) (kc32 hk0) dX3_addPair_41 (fun σ H locs hI ew ho => ?_)
    have e7 := ew.trans qq.symm
    have e9 := (ho 9 (nn rfl)).trans e9
    have fr := frs fr ho (by decide)
    refine lv_aload_n hx hb dX3_addPair_44 rfl (lv_at hl 0 rfl) ?_
    refine gt_X3_62 hx hb hts hown hKK hI e7 (lc32 hN) (kc32 hk0) dX3_addPair_45 ?_
    refine lv_iconst (v := 1) hx hb dX3_addPair_48 (by decide) ?_
    refine lv_isub hx hb dX3_addPair_49 ?_
    have hq := Option.some.inj h
    refine W.widen (k := 1) (n := 9) (Nat.le_of_ble_eq_true rfl) (Nat.le_of_ble_eq_true rfl) ?_
    exact W.iret (v := ((G7_41.1 32 10) - 1)) hx hb hr (fun t ht hW => qc_mk (congrArg (fun z => Outcome.returned (some (Value.int z.1))) hq) (by rw [ht, ← hq]; exact ⟨κ, σ, hI.nil, hnn, e7, e9, fr⟩)) hI.2.2 dX3_addPair_50 hlocks
  · replace h := ite_f hc h
    refine lv_iconst (v := (-1)) hx hb dX3_addPair_9 (by decide) ?_
    have hq := Option.some.inj h
    refine W.widen (k := 1) (n := 9) (Nat.le_of_ble_eq_true rfl) (Nat.le_of_ble_eq_true rfl) ?_
    exact W.iret (v := (-1)) hx hb hr (fun t ht hW => qc_mk (congrArg (fun z => Outcome.returned (some (Value.int z.1))) hq) (by rw [ht, ← hq]; exact ⟨κs, σ, hI.nil, hnn, e7, e9, fr⟩)) hI.2.2 dX3_addPair_10 hlocks
noncomputable def f_X11_pair (F ns : Nat) (G1 : Grp) (G6 : Grp) (G7 : Grp) (G8 : Grp) (G9 : Grp) (v1 : Int32) (v2 : Int32) : Option (Int32 × Nat × Grp × Grp) :=
  ob (f_X3_hasGiver F G6 v1) (fun q_5 => if q_5 = 0 then some ((-1), ns, G7, G9) else ob (f_X3_isFree F G6 G7 G8 G9 v2 (G1.1 0 0)) (fun q_20 => if q_20 = 0 then some ((-1), ns, G7, G9) else ob (f_X3_hasRoom F G7 G9 v1) (fun q_31 => if q_31 = 0 then some ((-1), ns, G7, G9) else ob (f_X3_addPair F ns G7 G9 v1 v2 (G1.1 0 0)) (fun q_49 => some (q_49.1, q_49.2.1, q_49.2.2.1, q_49.2.2.2)))))
def RM_X11_pair : Room := { frames := 3, cells := 1, slots := 9, locals := 65 }
abbrev W_X11_pair : List Nat := [7, 9]
abbrev B_X11_pair (HB : Heap) (D : va_G) (y : Nat → ClassId) (ns : Nat) (σ0 : St) (q : Int32 × Nat × Grp × Grp) : Heap → Prop := fun H => ∃ (κ : Nat → Nat) (σ : St), IV HB D y q.2.1 q.2.1 κ σ [] H ∧ ns ≤ q.2.1 ∧ σ 7 = q.2.2.1 ∧ σ 9 = q.2.2.2 ∧ ∀ j, j ∉ W_X11_pair → σ j = σ0 j
set_option maxRecDepth 100000 in
set_option maxHeartbeats 4000000 in
theorem c_X11_pair (l : Launch) (HB : Heap) (D : va_G) (y : Nat → ClassId) (F ns : Nat) (κs : Nat → Nat) (σ0 : St) (hN : N0 ≤ ns) (v1 : Int32) (v2 : Int32) (G1 : Grp) (e1 : σ0 1 = G1) (G6 : Grp) (e6 : σ0 6 = G6) (G7 : Grp) (e7 : σ0 7 = G7) (G8 : Grp) (e8 : σ0 8 = G8) (G9 : Grp) (e9 : σ0 9 = G9) (q : Int32 × Nat × Grp × Grp) (h : f_X11_pair F ns G1 G6 G7 G8 G9 v1 v2 = some q) : MT l HB D y yX11_pair cX11_pair 3 (some .int) RM_X11_pair [.ref (HB.size + 0), .int v1, .int v2] (IV HB D y ns ns κs σ0 []) (some (.int q.1)) (B_X11_pair HB D y ns σ0 q) := by
  refine Met.ofW (cc := cX11_pair) (maxL := 3) (ret := some .int) (by decide) rfl ?_
  intro p e s m args below meth c s₁ BL hml hv
  obtain ⟨rfl, hI, hKK⟩ := hv
  have hx := BL.exec
  have hb := BL.bytes
  have hr := BL.returns
  have hts : ∀ w ∈ gtb, w.before _ s = true := fun w hw => atoms_spec BL.pre w (List.mem_cons_of_mem _ hw)
  have hml : c.maxLocals = 3 := hml
  have hown : s.vm.findClass RX11 = some m.cls := findClass_of_methodNamed BL.named
  have hlocks := BL.notSynchronized
  have hk0 := hI.1.2.2.2.2
  have hnn : ns ≤ ns := Nat.le_refl _
  have hl := lv_entry ([.ref (HB.size + 0), .int v1, .int v2]) (n := 3) (Nat.le_of_ble_eq_true rfl)
  rw [lg_entry_eq]
  generalize (lg_sl ([.ref (HB.size + 0), .int v1, .int v2]) ++ List.replicate (3 - (lg_sl ([.ref (HB.size + 0), .int v1, .int v2])).length) Slot.unset).toArray = ls at hl ⊢
  have hl : lv_has ls 3 [(0, .ref (HB.size + 0)), (1, .int v1), (2, .int v2)] := hl
  generalize hargs : ([.ref (HB.size + 0), .int v1, .int v2] : List Value).toArray = args at *
  obtain ⟨σ, hI, e1, e6, e7, e8, e9, fr⟩ : ∃ σ : St, IV HB D y ns ns κs σ [] s.heap ∧ σ 1 = G1 ∧ σ 6 = G6 ∧ σ 7 = G7 ∧ σ 8 = G8 ∧ σ 9 = G9 ∧ ∀ j, j ∉ W_X11_pair → σ j = σ0 j := ⟨σ0, hI, e1, e6, e7, e8, e9, fun _ _ => rfl⟩
  show W p l e RM_X11_pair s m args below meth c s.heap [] 0 0 (MQ below (QCg (some (.int q.1)) (B_X11_pair HB D y ns σ0 q)) args s 1 9 (fun x => HB.size ≤ x)) (F0 m 0 ls [])
  generalize s.heap = H at hI ⊢
  unfold f_X11_pair at h
  obtain ⟨locs, hlocs⟩ : ∃ x : List Loc, x = [] := ⟨_, rfl⟩
  rw [← hlocs] at hI ⊢
  refine lv_aload_n hx hb dX11_pair_0 rfl (lv_at hl 0 rfl) ?_
  refine gf_X11_37 hx hb hts hown hKK hI hN dX11_pair_1 ?_
  refine lv_iload_n hx hb dX11_pair_4 rfl (lv_at hl 1 rfl) ?_
  obtain ⟨q_5, hq_5, h⟩ := ob_e h
  refine r_callV (As := [.int v1]) (rest := []) hx hb hml hts hown (c_X3_hasGiver l HB D y F ns κs σ hN v1 G6 e6 q_5 hq_5) cal_X3_hasGiver im_X3_hasGiver se_X3_hasGiver lm_X11_103 ⟨Nat.le_of_ble_eq_true rfl, Nat.le_of_ble_eq_true rfl⟩ hI.nil hKK (r_recv hKK hI (hE3 HB.size y) rfl (lc32 hN) (kc32 hk0)) rfl hl.1 hI.2.2 rfl (Nat.le_of_ble_eq_true rfl) dX11_pair_5 ⟨Nat.le_of_ble_eq_true rfl, Nat.le_of_ble_eq_true rfl⟩ rfl rfl rfl (fun H locs hB hlo => ?_)
  have hI := hB.re hlo
  refine lv_if_eq (tgt := 37) hx hb dX11_pair_8 (by decide) (fun hc => ?_) (fun hc => ?_)
  · replace h := ite_t hc h
    refine lv_iconst (v := (-1)) hx hb dX11_pair_37 (by decide) ?_
    have hq := Option.some.inj h
    refine W.widen (k := 1) (n := 9) (Nat.le_of_ble_eq_true rfl) (Nat.le_of_ble_eq_true rfl) ?_
    exact W.iret (v := (-1)) hx hb hr (fun t ht hW => qc_mk (congrArg (fun z => Outcome.returned (some (Value.int z.1))) hq) (by rw [ht, ← hq]; exact ⟨κs, σ, hI.nil, hnn, e7, e9, fr⟩)) hI.2.2 dX11_pair_38 hlocks
  · replace h := ite_f hc h
    refine lv_aload_n hx hb dX11_pair_11 rfl (lv_at hl 0 rfl) ?_
    refine gf_X11_37 hx hb hts hown hKK hI hN dX11_pair_12 ?_
    refine lv_iload_n hx hb dX11_pair_15 rfl (lv_at hl 2 rfl) ?_
    refine lv_aload_n hx hb dX11_pair_16 rfl (lv_at hl 0 rfl) ?_
    refine gt_X11_106 hx hb hts hown hKK hI e1 (lc0 hN) (kc0 hk0) dX11_pair_17 ?_
    obtain ⟨q_20, hq_20, h⟩ := ob_e h
    refine r_callV (As := [.int v2, .int (G1.1 0 0)]) (rest := []) hx hb hml hts hown (c_X3_isFree l HB D y F ns κs σ hN v2 (G1.1 0 0) G6 e6 G7 e7 G8 e8 G9 e9 q_20 hq_20) cal_X3_isFree im_X3_isFree se_X3_isFree lm_X11_110 ⟨Nat.le_of_ble_eq_true rfl, Nat.le_of_ble_eq_true rfl⟩ hI.nil hKK (r_recv hKK hI (hE3 HB.size y) rfl (lc32 hN) (kc32 hk0)) rfl hl.1 hI.2.2 rfl (Nat.le_of_ble_eq_true rfl) dX11_pair_20 ⟨Nat.le_of_ble_eq_true rfl, Nat.le_of_ble_eq_true rfl⟩ rfl rfl rfl (fun H locs hB hlo => ?_)
    have hI := hB.re hlo
    refine lv_if_eq (tgt := 37) hx hb dX11_pair_23 (by decide) (fun hc => ?_) (fun hc => ?_)
    · replace h := ite_t hc h
      refine lv_iconst (v := (-1)) hx hb dX11_pair_37 (by decide) ?_
      have hq := Option.some.inj h
      refine W.widen (k := 1) (n := 9) (Nat.le_of_ble_eq_true rfl) (Nat.le_of_ble_eq_true rfl) ?_
      exact W.iret (v := (-1)) hx hb hr (fun t ht hW => qc_mk (congrArg (fun z => Outcome.returned (some (Value.int z.1))) hq) (by rw [ht, ← hq]; exact ⟨κs, σ, hI.nil, hnn, e7, e9, fr⟩)) hI.2.2 dX11_pair_38 hlocks
    · replace h := ite_f hc h
      refine lv_aload_n hx hb dX11_pair_26 rfl (lv_at hl 0 rfl) ?_
      refine gf_X11_37 hx hb hts hown hKK hI hN dX11_pair_27 ?_
      refine lv_iload_n hx hb dX11_pair_30 rfl (lv_at hl 1 rfl) ?_
      obtain ⟨q_31, hq_31, h⟩ := ob_e h
      refine r_callV (As := [.int v1]) (rest := []) hx hb hml hts hown (c_X3_hasRoom l HB D y F ns κs σ hN v1 G7 e7 G9 e9 q_31 hq_31) cal_X3_hasRoom im_X3_hasRoom se_X3_hasRoom lm_X11_114 ⟨Nat.le_of_ble_eq_true rfl, Nat.le_of_ble_eq_true rfl⟩ hI.nil hKK (r_recv hKK hI (hE3 HB.size y) rfl (lc32 hN) (kc32 hk0)) rfl hl.1 hI.2.2 rfl (Nat.le_of_ble_eq_true rfl) dX11_pair_31 ⟨Nat.le_of_ble_eq_true rfl, Nat.le_of_ble_eq_true rfl⟩ rfl rfl rfl (fun H locs hB hlo => ?_)
      have hI := hB.re hlo
      refine lv_if_ne (tgt := 39) hx hb dX11_pair_34 (by decide) (fun hc => ?_) (fun hc => ?_)
      · replace h := ite_f hc h
        refine lv_aload_n hx hb dX11_pair_39 rfl (lv_at hl 0 rfl) ?_
        refine gf_X11_37 hx hb hts hown hKK hI hN dX11_pair_40 ?_
        refine lv_iload_n hx hb dX11_pair_43 rfl (lv_at hl 1 rfl) ?_
        refine lv_iload_n hx hb dX11_pair_44 rfl (lv_at hl 2 rfl) ?_
        refine lv_aload_n hx hb dX11_pair_45 rfl (lv_at hl 0 rfl) ?_
        refine gt_X11_106 hx hb hts hown hKK hI e1 (lc0 hN) (kc0 hk0) dX11_pair_46 ?_
        obtain ⟨q_49, hq_49, h⟩ := ob_e h
        refine r_callV (As := [.int v1, .int v2, .int (G1.1 0 0)]) (rest := []) hx hb hml hts hown (c_X3_addPair l HB D y F ns κs σ hN v1 v2 (G1.1 0 0) G7 e7 G9 e9 q_49 hq_49) cal_X3_addPair im_X3_addPair se_X3_addPair lm_X11_117 ⟨Nat.le_of_ble_eq_true rfl, Nat.le_of_ble_eq_true rfl⟩ hI.nil hKK (r_recv hKK hI (hE3 HB.size y) rfl (lc32 hN) (kc32 hk0)) rfl hl.1 hI.2.2 rfl (Nat.le_of_ble_eq_true rfl) dX11_pair_49 ⟨Nat.le_of_ble_eq_true rfl, Nat.le_of_ble_eq_true rfl⟩ rfl rfl rfl (fun H locs hB hlo => ?_)
        obtain ⟨κ, σ, hB, hn2, en7, en9, ho⟩ := hB
        have hI := hB.re hlo
        have hN := Nat.le_trans hN hn2
        have hnn := Nat.le_trans hnn hn2
        have hk0 := hI.1.2.2.2.2
        have e7 := en7
        have e9 := en9
        have e1 := (ho 1 (ni rfl)).trans e1
        have e6 := (ho 6 (ni rfl)).trans e6
        have e8 := (ho 8 (ni rfl)).trans e8
        have fr := frc fr ho (by decide)
        have hq := Option.some.inj h
        refine W.widen (k := 1) (n := 9) (Nat.le_of_ble_eq_true rfl) (Nat.le_of_ble_eq_true rfl) ?_
        exact W.iret (v := q_49.1) hx hb hr (fun t ht hW => qc_mk (congrArg (fun z => Outcome.returned (some (Value.int z.1))) hq) (by rw [ht, ← hq]; exact ⟨κ, σ, hI.nil, hnn, e7, e9, fr⟩)) hI.2.2 dX11_pair_52 hlocks
      · replace h := ite_t hc h
        refine lv_iconst (v := (-1)) hx hb dX11_pair_37 (by decide) ?_
        have hq := Option.some.inj h
        refine W.widen (k := 1) (n := 9) (Nat.le_of_ble_eq_true rfl) (Nat.le_of_ble_eq_true rfl) ?_
        exact W.iret (v := (-1)) hx hb hr (fun t ht hW => qc_mk (congrArg (fun z => Outcome.returned (some (Value.int z.1))) hq) (by rw [ht, ← hq]; exact ⟨κs, σ, hI.nil, hnn, e7, e9, fr⟩)) hI.2.2 dX11_pair_38 hlocks
noncomputable def f_X10_makePairs_l46b (F : Nat) (k25 : Nat → Grp → Grp → Grp → Grp → Grp → Grp → Grp → Int32 → Int32 → Int32 → Int32 → Option (Int32 × Nat × Grp × Grp × Grp × Grp × Grp)) (k46 : Nat → Grp → Grp → Grp → Grp → Grp → Grp → Grp → Int32 → Int32 → Int32 → Int32 → Int32 → Option (Int32 × Nat × Grp × Grp × Grp × Grp × Grp)) (ns : Nat) (G6 : Grp) (G7 : Grp) (G8 : Grp) (G9 : Grp) (G17 : Grp) (G20 : Grp) (G21 : Grp) (v2 : Int32) (v3 : Int32) (v4 : Int32) (v5 : Int32) (v6 : Int32) : Option (Int32 × Nat × Grp × Grp × Grp × Grp × Grp) :=
  if v3 ≤ v6 then bn (v5 + 1) (fun v5_88 => k25 ns G6 G7 G8 G9 G17 G20 G21 v2 v3 v4 v5_88) else ck v6 6 (ck v5 6 (ob (f_X10_pointsOf F G6 G7 G9 G20 (G21.1 82 v6.toNatClampNeg) (G21.1 83 v5.toNatClampNeg)) (fun q_76 => ob (f_X0_allow F G17 84 v6 v5 q_76) (fun q_79 => bn (v6 + 1) (fun v6_82 => k46 ns G6 G7 G8 G9 q_79 G20 G21 v2 v3 v4 v5 v6_82)))))
noncomputable def f_X10_makePairs_l46 (F : Nat) (k25 : Nat → Grp → Grp → Grp → Grp → Grp → Grp → Grp → Int32 → Int32 → Int32 → Int32 → Option (Int32 × Nat × Grp × Grp × Grp × Grp × Grp)) (fu : Nat) : Nat → Grp → Grp → Grp → Grp → Grp → Grp → Grp → Int32 → Int32 → Int32 → Int32 → Int32 → Option (Int32 × Nat × Grp × Grp × Grp × Grp × Grp) := Nat.rec (motive := fun _ => Nat → Grp → Grp → Grp → Grp → Grp → Grp → Grp → Int32 → Int32 → Int32 → Int32 → Int32 → Option (Int32 × Nat × Grp × Grp × Grp × Grp × Grp)) (fun _ _ _ _ _ _ _ _ _ _ _ _ _ => none) (fun _ ih => f_X10_makePairs_l46b F k25 ih) fu
noncomputable def f_X10_makePairs_l107b (F : Nat)  (k107 : Nat → Grp → Grp → Grp → Grp → Grp → Grp → Grp → Int32 → Int32 → Int32 → Int32 → Int32 → Option (Int32 × Nat × Grp × Grp × Grp × Grp × Grp)) (n : Nat) (G6 : Grp) (G7 : Grp) (G8 : Grp) (G9 : Grp) (G17 : Grp) (G20 : Grp) (G21 : Grp) (v2 : Int32) (v3 : Int32) (v4 : Int32) (v5 : Int32) (v6 : Int32) : Option (Int32 × Nat × Grp × Grp × Grp × Grp × Grp) :=
  if v3 ≤ v6 then some (v5, n, G7, G9, G17, G20, G21) else ck v6 6 (bn ((G17.1 86 v6.toNatClampNeg)) (fun v7_123 => if v4 ≤ v7_123 then bn (v6 + 1) (fun v6_171 => k107 n G6 G7 G8 G9 G17 G20 G21 v2 v3 v4 v5 v6_171) else ck v6 6 (ck v7_123 6 (ob (f_X3_addPair F n G7 G9 (G21.1 82 v6.toNatClampNeg) (G21.1 83 v7_123.toNatClampNeg) v2) (fun q_148 => if q_148.1 = (-1) then bn (v6 + 1) (fun v6_171 => k107 (q_148.2.1) G6 (q_148.2.2.1) G8 (q_148.2.2.2) G17 G20 G21 v2 v3 v4 v5 v6_171) else ck v6 6 (ck (G21.1 82 v6.toNatClampNeg) 16 (bn (gI G20 79 (G21.1 82 v6.toNatClampNeg).toNatClampNeg (vp_nar .boolean 0)) (fun G20_167 => bn (v5 + 1) (fun v5_168 => bn (v6 + 1) (fun v6_171 => k107 (q_148.2.1) G6 (q_148.2.2.1) G8 (q_148.2.2.2) G17 G20_167 G21 v2 v3 v4 v5_168 v6_171))))))))))
noncomputable def f_X10_makePairs_l107 (F : Nat)  (fu : Nat) : Nat → Grp → Grp → Grp → Grp → Grp → Grp → Grp → Int32 → Int32 → Int32 → Int32 → Int32 → Option (Int32 × Nat × Grp × Grp × Grp × Grp × Grp) := Nat.rec (motive := fun _ => Nat → Grp → Grp → Grp → Grp → Grp → Grp → Grp → Int32 → Int32 → Int32 → Int32 → Int32 → Option (Int32 × Nat × Grp × Grp × Grp × Grp × Grp)) (fun _ _ _ _ _ _ _ _ _ _ _ _ _ => none) (fun _ ih => f_X10_makePairs_l107b F  ih) fu
noncomputable def f_X10_makePairs_l25b (F : Nat)  (k25 : Nat → Grp → Grp → Grp → Grp → Grp → Grp → Grp → Int32 → Int32 → Int32 → Int32 → Option (Int32 × Nat × Grp × Grp × Grp × Grp × Grp)) (ns : Nat) (G6 : Grp) (G7 : Grp) (G8 : Grp) (G9 : Grp) (G17 : Grp) (G20 : Grp) (G21 : Grp) (v2 : Int32) (v3 : Int32) (v4 : Int32) (v5 : Int32) : Option (Int32 × Nat × Grp × Grp × Grp × Grp × Grp) :=
  if v4 ≤ v5 then ob (f_X0_solve F G17 84) (fun q_98 => f_X10_makePairs_l107 F F ns G6 G7 G8 G9 q_98 G20 G21 v2 v3 v4 0 0) else ck v5 6 (bn (gI G17 85 v5.toNatClampNeg 1) (fun G17_42 => f_X10_makePairs_l46 F k25 F ns G6 G7 G8 G9 G17_42 G20 G21 v2 v3 v4 v5 0))
noncomputable def f_X10_makePairs_l25 (F : Nat)  (fu : Nat) : Nat → Grp → Grp → Grp → Grp → Grp → Grp → Grp → Int32 → Int32 → Int32 → Int32 → Option (Int32 × Nat × Grp × Grp × Grp × Grp × Grp) := Nat.rec (motive := fun _ => Nat → Grp → Grp → Grp → Grp → Grp → Grp → Grp → Int32 → Int32 → Int32 → Int32 → Option (Int32 × Nat × Grp × Grp × Grp × Grp × Grp)) (fun _ _ _ _ _ _ _ _ _ _ _ _ => none) (fun _ ih => f_X10_makePairs_l25b F  ih) fu
noncomputable def f_X10_makePairs (F ns : Nat) (G6 : Grp) (G7 : Grp) (G8 : Grp) (G9 : Grp) (G17 : Grp) (G20 : Grp) (G21 : Grp) (v2 : Int32) : Option (Int32 × Nat × Grp × Grp × Grp × Grp × Grp) :=
  ob (f_X10_pickGivers F G6 G7 G9 G20 G21) (fun q_2 => bn (q_2.1) (fun v3_5 => ob (f_X10_pickChildren F G6 G7 G8 G9 (q_2.2) v2) (fun q_9 => bn (q_9.1) (fun v4_12 => ob (f_X0_clear F G17 84 v3_5) (fun q_19 => f_X10_makePairs_l25 F F ns G6 G7 G8 G9 q_19 G20 (q_9.2) v2 v3_5 v4_12 0)))))
def RM_X10_makePairs : Room := { frames := 11, cells := 6, slots := 54, locals := 390 }
abbrev W_X10_makePairs : List Nat := [7, 9, 17, 20, 21]
abbrev B_X10_makePairs (HB : Heap) (D : va_G) (y : Nat → ClassId) (ns : Nat) (σ0 : St) (q : Int32 × Nat × Grp × Grp × Grp × Grp × Grp) : Heap → Prop := fun H => ∃ (κ : Nat → Nat) (σ : St), IV HB D y q.2.1 q.2.1 κ σ [] H ∧ ns ≤ q.2.1 ∧ σ 7 = q.2.2.1 ∧ σ 9 = q.2.2.2.1 ∧ σ 17 = q.2.2.2.2.1 ∧ σ 20 = q.2.2.2.2.2.1 ∧ σ 21 = q.2.2.2.2.2.2 ∧ ∀ j, j ∉ W_X10_makePairs → σ j = σ0 j
set_option maxRecDepth 100000 in
set_option maxHeartbeats 4000000 in
theorem c_X10_makePairs (l : Launch) (HB : Heap) (D : va_G) (y : Nat → ClassId) (F ns : Nat) (κs : Nat → Nat) (σ0 : St) (hN : N0 ≤ ns) (v2 : Int32) (G6 : Grp) (e6 : σ0 6 = G6) (G7 : Grp) (e7 : σ0 7 = G7) (G8 : Grp) (e8 : σ0 8 = G8) (G9 : Grp) (e9 : σ0 9 = G9) (G17 : Grp) (e17 : σ0 17 = G17) (G20 : Grp) (e20 : σ0 20 = G20) (G21 : Grp) (e21 : σ0 21 = G21) (q : Int32 × Nat × Grp × Grp × Grp × Grp × Grp) (h : f_X10_makePairs F ns G6 G7 G8 G9 G17 G20 G21 v2 = some q) : MT l HB D y yX10_makePairs cX10_makePairs 8 (some .int) RM_X10_makePairs [.ref (HB.size + 78), .ref (HB.size + 32), .int v2] (IV HB D y ns ns κs σ0 []) (some (.int q.1)) (B_X10_makePairs HB D y ns σ0 q) := by
  refine Met.ofW (cc := cX10_makePairs) (maxL := 8) (ret := some .int) (by decide) rfl ?_
  intro p e s m args below meth c s₁ BL hml hv
  obtain ⟨rfl, hI, hKK⟩ := hv
  have hx := BL.exec
  have hb := BL.bytes
  have hr := BL.returns
  have hts : ∀ w ∈ gtb, w.before _ s = true := fun w hw => atoms_spec BL.pre w (List.mem_cons_of_mem _ hw)
  have hml : c.maxLocals = 8 := hml
  have hown : s.vm.findClass RX10 = some m.cls := findClass_of_methodNamed BL.named
  have hlocks := BL.notSynchronized
  have hk0 := hI.1.2.2.2.2
  have hnn : ns ≤ ns := Nat.le_refl _
  have hl := lv_entry ([.ref (HB.size + 78), .ref (HB.size + 32), .int v2]) (n := 8) (Nat.le_of_ble_eq_true rfl)
  rw [lg_entry_eq]
  generalize (lg_sl ([.ref (HB.size + 78), .ref (HB.size + 32), .int v2]) ++ List.replicate (8 - (lg_sl ([.ref (HB.size + 78), .ref (HB.size + 32), .int v2])).length) Slot.unset).toArray = ls at hl ⊢
  have hl : lv_has ls 8 [(0, .ref (HB.size + 78)), (1, .ref (HB.size + 32)), (2, .int v2)] := hl
  generalize hargs : ([.ref (HB.size + 78), .ref (HB.size + 32), .int v2] : List Value).toArray = args at *
  have b46 : ∀ (k25 : Nat → Grp → Grp → Grp → Grp → Grp → Grp → Grp → Int32 → Int32 → Int32 → Int32 → Option (Int32 × Nat × Grp × Grp × Grp × Grp × Grp)) (hk25 : ∀ (σ : St) (H : Heap) (locs : List Loc) (ls : Array Slot) (G6 : Grp) (G7 : Grp) (G8 : Grp) (G9 : Grp) (G17 : Grp) (G20 : Grp) (G21 : Grp) (v2 : Int32) (v3 : Int32) (v4 : Int32) (v5 : Int32), IV HB D y ns ns κs σ locs H → σ 6 = G6 → σ 7 = G7 → σ 8 = G8 → σ 9 = G9 → σ 17 = G17 → σ 20 = G20 → σ 21 = G21 → (∀ j, j ∉ W_X10_makePairs → σ j = σ0 j) → lv_has ls 8 [(0, .ref (HB.size + 78)), (1, .ref (HB.size + 32)), (2, .int v2), (3, .int v3), (4, .int v4), (5, .int v5)] → k25 ns G6 G7 G8 G9 G17 G20 G21 v2 v3 v4 v5 = some q → W p l e RM_X10_makePairs s m args below meth c H locs 0 0 (MQ below (QCg (some (.int q.1)) (B_X10_makePairs HB D y ns σ0 q)) args s 6 54 (fun x => HB.size ≤ x)) (F0 m 25 ls [])) (fu : Nat), ∀ (σ : St) (H : Heap) (locs : List Loc) (ls : Array Slot) (G6 : Grp) (G7 : Grp) (G8 : Grp) (G9 : Grp) (G17 : Grp) (G20 : Grp) (G21 : Grp) (v2 : Int32) (v3 : Int32) (v4 : Int32) (v5 : Int32) (v6 : Int32), IV HB D y ns ns κs σ locs H → σ 6 = G6 → σ 7 = G7 → σ 8 = G8 → σ 9 = G9 → σ 17 = G17 → σ 20 = G20 → σ 21 = G21 → (∀ j, j ∉ W_X10_makePairs → σ j = σ0 j) → lv_has ls 8 [(0, .ref (HB.size + 78)), (1, .ref (HB.size + 32)), (2, .int v2), (3, .int v3), (4, .int v4), (5, .int v5), (6, .int v6)] → f_X10_makePairs_l46 F k25 fu ns G6 G7 G8 G9 G17 G20 G21 v2 v3 v4 v5 v6 = some q → W p l e RM_X10_makePairs s m args below meth c H locs 0 0 (MQ below (QCg (some (.int q.1)) (B_X10_makePairs HB D y ns σ0 q)) args s 6 54 (fun x => HB.size ≤ x)) (F0 m 46 ls []) := by
    intro k25 hk25 fu
    induction fu with
    | zero =>
      intro σ H locs ls G6 G7 G8 G9 G17 G20 G21 v2 v3 v4 v5 v6 hI e6 e7 e8 e9 e17 e20 e21 fr hl h
      exact absurd h (by intro h; cases h)
    | succ fu hk46 =>
      intro σ H locs ls G6 G7 G8 G9 G17 G20 G21 v2 v3 v4 v5 v6 hI e6 e7 e8 e9 e17 e20 e21 fr hl h
      have h : f_X10_makePairs_l46b F k25 (f_X10_makePairs_l46 F k25 fu) ns G6 G7 G8 G9 G17 G20 G21 v2 v3 v4 v5 v6 = some q := h
      generalize f_X10_makePairs_l46 F k25 fu = k46 at h hk46
      unfold f_X10_makePairs_l46b at h
      refine lv_iload hx hb dX10_makePairs_46 (lv_at hl 6 rfl) ?_
      refine lv_iload_n hx hb dX10_makePairs_48 rfl (lv_at hl 3 rfl) ?_
      refine lv_icmp_ge (tgt := 88) hx hb dX10_makePairs_49 (by decide) (fun hc => ?_) (fun hc => ?_)
      · replace h := ite_t hc h
        obtain ⟨v5_88, qq, h⟩ := bn_e h
        refine lv_iinc (v := v5_88) (lv' := [(5, .int v5_88), (0, .ref (HB.size + 78)), (1, .ref (HB.size + 32)), (2, .int v2), (3, .int v3), (4, .int v4), (6, .int v6)]) hx hb dX10_makePairs_88 hl (k := 5) rfl (by rw [qq]; rfl) (by decide) rfl (fun ls hl => ?_)
        refine lv_goto (tgt := 25) hx hb dX10_makePairs_91 (by decide) ?_
        exact hk25 σ H locs ls G6 G7 G8 G9 G17 G20 G21 v2 v3 v4 v5_88  hI e6 e7 e8 e9 e17 e20 e21 fr (lv_sub hl [1, 2, 3, 4, 5, 0] rfl) h
      · replace h := ite_f hc h
        refine lv_aload_n hx hb dX10_makePairs_52 rfl (lv_at hl 0 rfl) ?_
        refine gf_X10_31 hx hb hts hown hKK hI hN dX10_makePairs_53 ?_
        refine lv_iload hx hb dX10_makePairs_56 (lv_at hl 6 rfl) ?_
        refine lv_iload hx hb dX10_makePairs_58 (lv_at hl 5 rfl) ?_
        refine lv_aload_n hx hb dX10_makePairs_60 rfl (lv_at hl 0 rfl) ?_
        refine lv_aload_n hx hb dX10_makePairs_61 rfl (lv_at hl 1 rfl) ?_
        refine lv_aload_n hx hb dX10_makePairs_62 rfl (lv_at hl 0 rfl) ?_
        refine gf_X10_22 hx hb hts hown hKK hI hN dX10_makePairs_63 ?_
        refine lv_iload hx hb dX10_makePairs_66 (lv_at hl 6 rfl) ?_
        obtain ⟨hin_, h⟩ := ck_e h
        refine la_40 hx hb hKK hI e21 (lc82 hN) (kc82 hk0) hin_ dX10_makePairs_68 ?_
        refine lv_aload_n hx hb dX10_makePairs_69 rfl (lv_at hl 0 rfl) ?_
        refine gf_X10_25 hx hb hts hown hKK hI hN dX10_makePairs_70 ?_
        refine lv_iload hx hb dX10_makePairs_73 (lv_at hl 5 rfl) ?_
        obtain ⟨hin_, h⟩ := ck_e h
        refine la_40 hx hb hKK hI e21 (lc83 hN) (kc83 hk0) hin_ dX10_makePairs_75 ?_
        obtain ⟨q_76, hq_76, h⟩ := ob_e h
        refine r_callV (As := [.ref (HB.size + 32), .int (G21.1 82 v6.toNatClampNeg), .int (G21.1 83 v5.toNatClampNeg)]) (rest := [.int v5, .int v6, .ref (HB.size + 84)]) hx hb hml hts hown (c_X10_pointsOf l HB D y F ns κs σ hN (G21.1 82 v6.toNatClampNeg) (G21.1 83 v5.toNatClampNeg) G6 e6 G7 e7 G9 e9 G20 e20 q_76 hq_76) cal_X10_pointsOf im_X10_pointsOf se_X10_pointsOf lm_X10_50 ⟨Nat.le_of_ble_eq_true rfl, Nat.le_of_ble_eq_true rfl⟩ hI.nil hKK (r_recv hKK hI (hE10 HB.size y) rfl (lc78 hN) (kc78 hk0)) rfl hl.1 hI.2.2 rfl (Nat.le_of_ble_eq_true rfl) dX10_makePairs_76 ⟨Nat.le_of_ble_eq_true rfl, Nat.le_of_ble_eq_true rfl⟩ rfl rfl rfl (fun H locs hB hlo => ?_)
        have hI := hB.re hlo
        obtain ⟨q_79, hq_79, h⟩ := ob_e h
        refine r_callV (As := [.int v6, .int v5, .int q_76]) (rest := []) hx hb hml hts hown (c_X0_allow l HB D y F ns κs σ hN 84 (lc84 hN) (kc84 hk0) v6 v5 q_76 G17 e17 q_79 hq_79) cal_X0_allow im_X0_allow se_X0_allow lm_X10_54 ⟨Nat.le_of_ble_eq_true rfl, Nat.le_of_ble_eq_true rfl⟩ hI.nil hKK (r_recv hKK hI (hE0 HB.size y) rfl (lc84 hN) (kc84 hk0)) rfl hl.1 hI.2.2 rfl (Nat.le_of_ble_eq_true rfl) dX10_makePairs_79 ⟨Nat.le_of_ble_eq_true rfl, Nat.le_of_ble_eq_true rfl⟩ rfl rfl rfl (fun H locs hB hlo => ?_)
        obtain ⟨σ, hB, en17, ho⟩ := hB
        have hI := hB.re hlo
        have e17 := en17
        have e6 := (ho 6 (ni rfl)).trans e6
        have e7 := (ho 7 (ni rfl)).trans e7
        have e8 := (ho 8 (ni rfl)).trans e8
        have e9 := (ho 9 (ni rfl)).trans e9
        have e20 := (ho 20 (ni rfl)).trans e20
        have e21 := (ho 21 (ni rfl)).trans e21
        have fr := frc fr ho (by decide)
        obtain ⟨v6_82, qq, h⟩ := bn_e h
        refine lv_iinc (v := v6_82) (lv' := [(6, .int v6_82), (0, .ref (HB.size + 78)), (1, .ref (HB.size + 32)), (2, .int v2), (3, .int v3), (4, .int v4), (5, .int v5)]) hx hb dX10_makePairs_82 hl (k := 6) rfl (by rw [qq]; rfl) (by decide) rfl (fun ls hl => ?_)
        refine lv_goto (tgt := 46) hx hb dX10_makePairs_85 (by decide) ?_
        exact hk46 σ H locs ls G6 G7 G8 G9 q_79 G20 G21 v2 v3 v4 v5 v6_82  hI e6 e7 e8 e9 e17 e20 e21 fr (lv_sub hl [1, 2, 3, 4, 5, 6, 0] rfl) h
  have b107 : ∀ (fu : Nat), ∀ (k n : Nat) (κ : Nat → Nat) {vg : Int32} (hkg : k ≤ vg.toNatClampNeg) (hk6 : k ≤ 6) (hN : N0 ≤ n) (hnn : ns ≤ n) (σ : St) (H : Heap) (locs : List Loc) (ls : Array Slot) (G6 : Grp) (G7 : Grp) (G8 : Grp) (G9 : Grp) (G17 : Grp) (G20 : Grp) (G21 : Grp) (v2 : Int32) (v3 : Int32) (v4 : Int32) (v5 : Int32) (v6 : Int32), v6 = vg → IV HB D y n n κ σ locs H → σ 6 = G6 → σ 7 = G7 → σ 8 = G8 → σ 9 = G9 → σ 17 = G17 → σ 20 = G20 → σ 21 = G21 → (∀ j, j ∉ W_X10_makePairs → σ j = σ0 j) → lv_has ls 8 [(0, .ref (HB.size + 78)), (1, .ref (HB.size + 32)), (2, .int v2), (3, .int v3), (4, .int v4), (5, .int v5), (6, .int v6)] → f_X10_makePairs_l107 F  fu n G6 G7 G8 G9 G17 G20 G21 v2 v3 v4 v5 v6 = some q → W p l e RM_X10_makePairs s m args below meth c H locs k (9 * k) (MQ below (QCg (some (.int q.1)) (B_X10_makePairs HB D y ns σ0 q)) args s 6 54 (fun x => HB.size ≤ x)) (F0 m 107 ls []) := by
    intro  fu
    induction fu with
    | zero =>
      intro k n κ vg hkg hk6 hN hnn σ H locs ls G6 G7 G8 G9 G17 G20 G21 v2 v3 v4 v5 v6 hvg hI e6 e7 e8 e9 e17 e20 e21 fr hl h
      exact absurd h (by intro h; cases h)
    | succ fu hk107 =>
      intro k n κ vg hkg hk6 hN hnn σ H locs ls G6 G7 G8 G9 G17 G20 G21 v2 v3 v4 v5 v6 hvg hI e6 e7 e8 e9 e17 e20 e21 fr hl h
      subst hvg
      have hk0 := hI.1.2.2.2.2
      have h : f_X10_makePairs_l107b F  (f_X10_makePairs_l107 F  fu) n G6 G7 G8 G9 G17 G20 G21 v2 v3 v4 v5 v6 = some q := h
      generalize f_X10_makePairs_l107 F  fu = k107 at h hk107
      unfold f_X10_makePairs_l107b at h
      refine lv_iload hx hb dX10_makePairs_107 (lv_at hl 6 rfl) ?_
      refine lv_iload_n hx hb dX10_makePairs_109 rfl (lv_at hl 3 rfl) ?_
      refine lv_icmp_ge (tgt := 177) hx hb dX10_makePairs_110 (by decide) (fun hc => ?_) (fun hc => ?_)
      · replace h := ite_t hc h
        refine lv_iload hx hb dX10_makePairs_177 (lv_at hl 5 rfl) ?_
        have hq := Option.some.inj h
        refine W.widen (k := 6) (n := 54) hk6 (by omega) ?_
        exact W.iret (v := v5) hx hb hr (fun t ht hW => qc_mk (congrArg (fun z => Outcome.returned (some (Value.int z.1))) hq) (by rw [ht, ← hq]; exact ⟨κ, σ, hI.nil, hnn, e7, e9, e17, e20, e21, fr⟩)) hI.2.2 dX10_makePairs_179 hlocks
      · replace h := ite_f hc h
        refine lv_aload_n hx hb dX10_makePairs_113 rfl (lv_at hl 0 rfl) ?_
        refine gf_X10_31 hx hb hts hown hKK hI hN dX10_makePairs_114 ?_
        refine gf_X10_61 hx hb hts hown hKK hI (lc84 hN) (kc84 hk0) dX10_makePairs_117 ?_
        refine lv_iload hx hb dX10_makePairs_120 (lv_at hl 6 rfl) ?_
        obtain ⟨hin_, h⟩ := ck_e h
        have hg6 := hin_
        refine la_32 hx hb hKK hI e17 (lc86 hN) (kc86 hk0) hin_ dX10_makePairs_122 ?_
        obtain ⟨v7_123, qq, h⟩ := bn_e h
        refine topi qq ?_
        refine lv_istore (lv' := [(7, .int v7_123), (0, .ref (HB.size + 78)), (1, .ref (HB.size + 32)), (2, .int v2), (3, .int v3), (4, .int v4), (5, .int v5), (6, .int v6)]) hx hb dX10_makePairs_123 hl (by decide) rfl (fun ls hl => ?_)
        refine lv_iload hx hb dX10_makePairs_125 (lv_at hl 0 rfl) ?_
        refine lv_iload hx hb dX10_makePairs_127 (lv_at hl 5 rfl) ?_
        refine lv_icmp_ge (tgt := 171) hx hb dX10_makePairs_129 (by decide) (fun hc => ?_) (fun hc => ?_)
        · replace h := ite_t hc h
          obtain ⟨v6_171, qq, h⟩ := bn_e h
          refine lv_iinc (v := v6_171) (lv' := [(6, .int v6_171), (7, .int v7_123), (0, .ref (HB.size + 78)), (1, .ref (HB.size + 32)), (2, .int v2), (3, .int v3), (4, .int v4), (5, .int v5)]) hx hb dX10_makePairs_171 hl (k := 7) rfl (by rw [qq]; rfl) (by decide) rfl (fun ls hl => ?_)
          refine lv_goto (tgt := 107) hx hb dX10_makePairs_174 (by decide) ?_
          exact hk107 k n κ (kst0 hkg hg6 qq) hk6 hN hnn σ H locs ls G6 G7 G8 G9 G17 G20 G21 v2 v3 v4 v5 v6_171  rfl hI e6 e7 e8 e9 e17 e20 e21 fr (lv_sub hl [2, 3, 4, 5, 6, 7, 0] rfl) h
        · replace h := ite_f hc h
          refine lv_aload_n hx hb dX10_makePairs_132 rfl (lv_at hl 2 rfl) ?_
          refine lv_aload_n hx hb dX10_makePairs_133 rfl (lv_at hl 1 rfl) ?_
          refine gf_X10_22 hx hb hts hown hKK hI hN dX10_makePairs_134 ?_
          refine lv_iload hx hb dX10_makePairs_137 (lv_at hl 7 rfl) ?_
          obtain ⟨hin_, h⟩ := ck_e h
          refine la_40 hx hb hKK hI e21 (lc82 hN) (kc82 hk0) hin_ dX10_makePairs_139 ?_
          refine lv_aload_n hx hb dX10_makePairs_140 rfl (lv_at hl 1 rfl) ?_
          refine gf_X10_25 hx hb hts hown hKK hI hN dX10_makePairs_141 ?_
          refine lv_iload hx hb dX10_makePairs_144 (lv_at hl 0 rfl) ?_
          obtain ⟨hin_, h⟩ := ck_e h
          refine la_40 hx hb hKK hI e21 (lc83 hN) (kc83 hk0) hin_ dX10_makePairs_146 ?_
          refine lv_iload_n hx hb dX10_makePairs_147 rfl (lv_at hl 3 rfl) ?_
          obtain ⟨q_148, hq_148, h⟩ := ob_e h
          refine r_callV (As := [.int (G21.1 82 v6.toNatClampNeg), .int (G21.1 83 v7_123.toNatClampNeg), .int v2]) (rest := []) hx hb hml hts hown (c_X3_addPair l HB D y F n κ σ hN (G21.1 82 v6.toNatClampNeg) (G21.1 83 v7_123.toNatClampNeg) v2 G7 e7 G9 e9 q_148 hq_148) cal_X3_addPair im_X3_addPair se_X3_addPair lm_X10_64 ⟨Nat.le_of_ble_eq_true rfl, Nat.le_of_ble_eq_true rfl⟩ hI.nil hKK (r_recv hKK hI (hE3 HB.size y) rfl (lc32 hN) (kc32 hk0)) rfl hl.1 hI.2.2 rfl (Nat.le_of_ble_eq_true rfl) dX10_makePairs_148 ⟨kf1 hkg hg6, kf2 hkg hg6⟩ rfl rfl rfl (fun H locs hB hlo => ?_)
          obtain ⟨κ, σ, hB, hn2, en7, en9, ho⟩ := hB
          have hI := hB.re hlo
          have hN := Nat.le_trans hN hn2
          have hnn := Nat.le_trans hnn hn2
          have hk0 := hI.1.2.2.2.2
          have e7 := en7
          have e9 := en9
          have e6 := (ho 6 (ni rfl)).trans e6
          have e8 := (ho 8 (ni rfl)).trans e8
          have e17 := (ho 17 (ni rfl)).trans e17
          have e20 := (ho 20 (ni rfl)).trans e20
          have e21 := (ho 21 (ni rfl)).trans e21
          have fr := frc fr ho (by decide)
          have hk6 := kf1 hkg hg6
          refine lv_iconst (v := (-1)) hx hb dX10_makePairs_151 (by decide) ?_
          refine lv_icmp_eq (tgt := 171) hx hb dX10_makePairs_152 (by decide) (fun hc => ?_) (fun hc => ?_)
          · replace h := ite_t hc h
            obtain ⟨v6_171, qq, h⟩ := bn_e h
            refine lv_iinc (v := v6_171) (lv' := [(6, .int v6_171), (7, .int v7_123), (0, .ref (HB.size + 78)), (1, .ref (HB.size + 32)), (2, .int v2), (3, .int v3), (4, .int v4), (5, .int v5)]) hx hb dX10_makePairs_171 hl (k := 7) rfl (by rw [qq]; rfl) (by decide) rfl (fun ls hl => ?_)
            refine lv_goto (tgt := 107) hx hb dX10_makePairs_174 (by decide) ?_
            exact hk107 (k + 1) (q_148.2.1) κ (kst1 hkg hg6 qq) hk6 hN hnn σ H locs ls G6 (q_148.2.2.1) G8 (q_148.2.2.2) G17 G20 G21 v2 v3 v4 v5 v6_171  rfl hI e6 e7 e8 e9 e17 e20 e21 fr (lv_sub hl [2, 3, 4, 5, 6, 7, 0] rfl) h
          · replace h := ite_f hc h
            refine lv_aload_n hx hb dX10_makePairs_155 rfl (lv_at hl 1 rfl) ?_
            refine gf_X10_9 hx hb hts hown hKK hI hN dX10_makePairs_156 ?_
            refine lv_aload_n hx hb dX10_makePairs_159 rfl (lv_at hl 1 rfl) ?_
            refine gf_X10_22 hx hb hts hown hKK hI hN dX10_makePairs_160 ?_
            refine lv_iload hx hb dX10_makePairs_163 (lv_at hl 7 rfl) ?_
            obtain ⟨hin_, h⟩ := ck_e h
            refine la_40 hx hb hKK hI e21 (lc82 hN) (kc82 hk0) hin_ dX10_makePairs_165 ?_
            refine lv_iconst (v := 0) hx hb dX10_makePairs_166 (by decide) ?_
            obtain ⟨hin_, h⟩ := ck_e h
            obtain ⟨G20_167, qq, h⟩ := bn_e h
            refine sa_38 hx hb hKK hI e20 (lc79 hN) (kc79 hk0) hin_ dX10_makePairs_167 (fun σ H locs hI ew ho => ?_)
            have e20 := ew.trans qq.symm
            have e6 := (ho 6 (nn rfl)).trans e6
            have e7 := (ho 7 (nn rfl)).trans e7
            have e8 := (ho 8 (nn rfl)).trans e8
            have e9 := (ho 9 (nn rfl)).trans e9
            have e17 := (ho 17 (nn rfl)).trans e17
            have e21 := (ho 21 (nn rfl)).trans e21
            have fr := frs fr ho (by decide)
            obtain ⟨v5_168, qq, h⟩ := bn_e h
            refine lv_iinc (v := v5_168) (lv' := [(5, .int v5_168), (7, .int v7_123), (0, .ref (HB.size + 78)), (1, .ref (HB.size + 32)), (2, .int v2), (3, .int v3), (4, .int v4), (6, .int v6)]) hx hb dX10_makePairs_168 hl (k := 6) rfl (by rw [qq]; rfl) (by decide) rfl (fun ls hl => ?_)
            obtain ⟨v6_171, qq, h⟩ := bn_e h
            refine lv_iinc (v := v6_171) (lv' := [(6, .int v6_171), (5, .int v5_168), (7, .int v7_123), (0, .ref (HB.size + 78)), (1, .ref (HB.size + 32)), (2, .int v2), (3, .int v3), (4, .int v4)]) hx hb dX10_makePairs_171 hl (k := 7) rfl (by rw [qq]; rfl) (by decide) rfl (fun ls hl => ?_)
            refine lv_goto (tgt := 107) hx hb dX10_makePairs_174 (by decide) ?_
            exact hk107 (k + 1) (q_148.2.1) κ (kst1 hkg hg6 qq) hk6 hN hnn σ H locs ls G6 (q_148.2.2.1) G8 (q_148.2.2.2) G17 G20_167 G21 v2 v3 v4 v5_168 v6_171  rfl hI e6 e7 e8 e9 e17 e20 e21 fr (lv_sub hl [3, 4, 5, 6, 7, 1, 0] rfl) h
  have b25 : ∀ (fu : Nat), ∀ (σ : St) (H : Heap) (locs : List Loc) (ls : Array Slot) (G6 : Grp) (G7 : Grp) (G8 : Grp) (G9 : Grp) (G17 : Grp) (G20 : Grp) (G21 : Grp) (v2 : Int32) (v3 : Int32) (v4 : Int32) (v5 : Int32), IV HB D y ns ns κs σ locs H → σ 6 = G6 → σ 7 = G7 → σ 8 = G8 → σ 9 = G9 → σ 17 = G17 → σ 20 = G20 → σ 21 = G21 → (∀ j, j ∉ W_X10_makePairs → σ j = σ0 j) → lv_has ls 8 [(0, .ref (HB.size + 78)), (1, .ref (HB.size + 32)), (2, .int v2), (3, .int v3), (4, .int v4), (5, .int v5)] → f_X10_makePairs_l25 F  fu ns G6 G7 G8 G9 G17 G20 G21 v2 v3 v4 v5 = some q → W p l e RM_X10_makePairs s m args below meth c H locs 0 0 (MQ below (QCg (some (.int q.1)) (B_X10_makePairs HB D y ns σ0 q)) args s 6 54 (fun x => HB.size ≤ x)) (F0 m 25 ls []) := by
    intro  fu
    induction fu with
    | zero =>
      intro σ H locs ls G6 G7 G8 G9 G17 G20 G21 v2 v3 v4 v5 hI e6 e7 e8 e9 e17 e20 e21 fr hl h
      exact absurd h (by intro h; cases h)
    | succ fu hk25 =>
      intro σ H locs ls G6 G7 G8 G9 G17 G20 G21 v2 v3 v4 v5 hI e6 e7 e8 e9 e17 e20 e21 fr hl h
      have h : f_X10_makePairs_l25b F  (f_X10_makePairs_l25 F  fu) ns G6 G7 G8 G9 G17 G20 G21 v2 v3 v4 v5 = some q := h
      generalize f_X10_makePairs_l25 F  fu = k25 at h hk25
      unfold f_X10_makePairs_l25b at h
      refine lv_iload hx hb dX10_makePairs_25 (lv_at hl 5 rfl) ?_
      refine lv_iload hx hb dX10_makePairs_27 (lv_at hl 4 rfl) ?_
      refine lv_icmp_ge (tgt := 94) hx hb dX10_makePairs_29 (by decide) (fun hc => ?_) (fun hc => ?_)
      · replace h := ite_t hc h
        refine lv_aload_n hx hb dX10_makePairs_94 rfl (lv_at hl 0 rfl) ?_
        refine gf_X10_31 hx hb hts hown hKK hI hN dX10_makePairs_95 ?_
        obtain ⟨q_98, hq_98, h⟩ := ob_e h
        refine r_callV (As := []) (rest := []) hx hb hml hts hown (c_X0_solve l HB D y F ns κs σ hN 84 (lc84 hN) (kc84 hk0) G17 e17 q_98 hq_98) cal_X0_solve im_X0_solve se_X0_solve lm_X10_58 ⟨Nat.le_of_ble_eq_true rfl, Nat.le_of_ble_eq_true rfl⟩ hI.nil hKK (r_recv hKK hI (hE0 HB.size y) rfl (lc84 hN) (kc84 hk0)) rfl hl.1 hI.2.2 rfl (Nat.le_of_ble_eq_true rfl) dX10_makePairs_98 ⟨Nat.le_of_ble_eq_true rfl, Nat.le_of_ble_eq_true rfl⟩ rfl rfl rfl (fun H locs hB hlo => ?_)
        obtain ⟨σ, hB, en17, ho⟩ := hB
        have hI := hB.re hlo
        have e17 := en17
        have e6 := (ho 6 (ni rfl)).trans e6
        have e7 := (ho 7 (ni rfl)).trans e7
        have e8 := (ho 8 (ni rfl)).trans e8
        have e9 := (ho 9 (ni rfl)).trans e9
        have e20 := (ho 20 (ni rfl)).trans e20
        have e21 := (ho 21 (ni rfl)).trans e21
        have fr := frc fr ho (by decide)
        refine lv_iconst (v := 0) hx hb dX10_makePairs_101 (by decide) ?_
        refine lv_istore (lv' := [(5, .int 0), (0, .ref (HB.size + 78)), (1, .ref (HB.size + 32)), (2, .int v2), (3, .int v3), (4, .int v4)]) hx hb dX10_makePairs_102 hl (by decide) rfl (fun ls hl => ?_)
        refine lv_iconst (v := 0) hx hb dX10_makePairs_104 (by decide) ?_
        refine lv_istore (lv' := [(6, .int 0), (5, .int 0), (0, .ref (HB.size + 78)), (1, .ref (HB.size + 32)), (2, .int v2), (3, .int v3), (4, .int v4)]) hx hb dX10_makePairs_105 hl (by decide) rfl (fun ls hl => ?_)
        exact b107  F 0 ns κs (Nat.zero_le _) (by decide) hN hnn σ H locs ls G6 G7 G8 G9 q_98 G20 G21 v2 v3 v4 0 0  rfl hI e6 e7 e8 e9 e17 e20 e21 fr (lv_sub hl [2, 3, 4, 5, 6, 1, 0] rfl) h
      · replace h := ite_f hc h
        refine lv_aload_n hx hb dX10_makePairs_32 rfl (lv_at hl 0 rfl) ?_
        refine gf_X10_31 hx hb hts hown hKK hI hN dX10_makePairs_33 ?_
        refine gf_X10_47 hx hb hts hown hKK hI (lc84 hN) (kc84 hk0) dX10_makePairs_36 ?_
        refine lv_iload hx hb dX10_makePairs_39 (lv_at hl 5 rfl) ?_
        refine lv_iconst (v := 1) hx hb dX10_makePairs_41 (by decide) ?_
        obtain ⟨hin_, h⟩ := ck_e h
        obtain ⟨G17_42, qq, h⟩ := bn_e h
        refine sa_32 hx hb hKK hI e17 (lc85 hN) (kc85 hk0) hin_ dX10_makePairs_42 (fun σ H locs hI ew ho => ?_)
        have e17 := ew.trans qq.symm
        have e6 := (ho 6 (nn rfl)).trans e6
        have e7 := (ho 7 (nn rfl)).trans e7
        have e8 := (ho 8 (nn rfl)).trans e8
        have e9 := (ho 9 (nn rfl)).trans e9
        have e20 := (ho 20 (nn rfl)).trans e20
        have e21 := (ho 21 (nn rfl)).trans e21
        have fr := frs fr ho (by decide)
        refine lv_iconst (v := 0) hx hb dX10_makePairs_43 (by decide) ?_
        refine lv_istore (lv' := [(6, .int 0), (0, .ref (HB.size + 78)), (1, .ref (HB.size + 32)), (2, .int v2), (3, .int v3), (4, .int v4), (5, .int v5)]) hx hb dX10_makePairs_44 hl (by decide) rfl (fun ls hl => ?_)
        exact b46 k25 hk25 F σ H locs ls G6 G7 G8 G9 G17_42 G20 G21 v2 v3 v4 v5 0  hI e6 e7 e8 e9 e17 e20 e21 fr (lv_sub hl [1, 2, 3, 4, 5, 6, 0] rfl) h
  obtain ⟨σ, hI, e6, e7, e8, e9, e17, e20, e21, fr⟩ : ∃ σ : St, IV HB D y ns ns κs σ [] s.heap ∧ σ 6 = G6 ∧ σ 7 = G7 ∧ σ 8 = G8 ∧ σ 9 = G9 ∧ σ 17 = G17 ∧ σ 20 = G20 ∧ σ 21 = G21 ∧ ∀ j, j ∉ W_X10_makePairs → σ j = σ0 j := ⟨σ0, hI, e6, e7, e8, e9, e17, e20, e21, fun _ _ => rfl⟩
  show W p l e RM_X10_makePairs s m args below meth c s.heap [] 0 0 (MQ below (QCg (some (.int q.1)) (B_X10_makePairs HB D y ns σ0 q)) args s 6 54 (fun x => HB.size ≤ x)) (F0 m 0 ls [])
  generalize s.heap = H at hI ⊢
  unfold f_X10_makePairs at h
  obtain ⟨locs, hlocs⟩ : ∃ x : List Loc, x = [] := ⟨_, rfl⟩
  rw [← hlocs] at hI ⊢
  refine lv_aload_n hx hb dX10_makePairs_0 rfl (lv_at hl 0 rfl) ?_
  refine lv_aload_n hx hb dX10_makePairs_1 rfl (lv_at hl 1 rfl) ?_
  obtain ⟨q_2, hq_2, h⟩ := ob_e h
  refine r_callV (As := [.ref (HB.size + 32)]) (rest := []) hx hb hml hts hown (c_X10_pickGivers l HB D y F ns κs σ hN  G6 e6 G7 e7 G9 e9 G20 e20 G21 e21 q_2 hq_2) cal_X10_pickGivers im_X10_pickGivers se_X10_pickGivers lm_X10_35 ⟨Nat.le_of_ble_eq_true rfl, Nat.le_of_ble_eq_true rfl⟩ hI.nil hKK (r_recv hKK hI (hE10 HB.size y) rfl (lc78 hN) (kc78 hk0)) rfl hl.1 hI.2.2 rfl (Nat.le_of_ble_eq_true rfl) dX10_makePairs_2 ⟨Nat.le_of_ble_eq_true rfl, Nat.le_of_ble_eq_true rfl⟩ rfl rfl rfl (fun H locs hB hlo => ?_)
  obtain ⟨σ, hB, en21, ho⟩ := hB
  have hI := hB.re hlo
  have e21 := en21
  have e6 := (ho 6 (ni rfl)).trans e6
  have e7 := (ho 7 (ni rfl)).trans e7
  have e8 := (ho 8 (ni rfl)).trans e8
  have e9 := (ho 9 (ni rfl)).trans e9
  have e17 := (ho 17 (ni rfl)).trans e17
  have e20 := (ho 20 (ni rfl)).trans e20
  have fr := frc fr ho (by decide)
  obtain ⟨v3_5, qq, h⟩ := bn_e h
  refine topi qq ?_
  refine lv_istore_n (lv' := [(3, .int v3_5), (0, .ref (HB.size + 78)), (1, .ref (HB.size + 32)), (2, .int v2)]) hx hb dX10_makePairs_5 rfl hl (by decide) rfl (fun ls hl => ?_)
  refine lv_aload_n hx hb dX10_makePairs_6 rfl (lv_at hl 1 rfl) ?_
  refine lv_aload_n hx hb dX10_makePairs_7 rfl (lv_at hl 2 rfl) ?_
  refine lv_iload_n hx hb dX10_makePairs_8 rfl (lv_at hl 3 rfl) ?_
  obtain ⟨q_9, hq_9, h⟩ := ob_e h
  refine r_callV (As := [.ref (HB.size + 32), .int v2]) (rest := []) hx hb hml hts hown (c_X10_pickChildren l HB D y F ns κs σ hN v2 G6 e6 G7 e7 G8 e8 G9 e9 (q_2.2) e21 q_9 hq_9) cal_X10_pickChildren im_X10_pickChildren se_X10_pickChildren lm_X10_39 ⟨Nat.le_of_ble_eq_true rfl, Nat.le_of_ble_eq_true rfl⟩ hI.nil hKK (r_recv hKK hI (hE10 HB.size y) rfl (lc78 hN) (kc78 hk0)) rfl hl.1 hI.2.2 rfl (Nat.le_of_ble_eq_true rfl) dX10_makePairs_9 ⟨Nat.le_of_ble_eq_true rfl, Nat.le_of_ble_eq_true rfl⟩ rfl rfl rfl (fun H locs hB hlo => ?_)
  obtain ⟨σ, hB, en21, ho⟩ := hB
  have hI := hB.re hlo
  have e21 := en21
  have e6 := (ho 6 (ni rfl)).trans e6
  have e7 := (ho 7 (ni rfl)).trans e7
  have e8 := (ho 8 (ni rfl)).trans e8
  have e9 := (ho 9 (ni rfl)).trans e9
  have e17 := (ho 17 (ni rfl)).trans e17
  have e20 := (ho 20 (ni rfl)).trans e20
  have fr := frc fr ho (by decide)
  obtain ⟨v4_12, qq, h⟩ := bn_e h
  refine topi qq ?_
  refine lv_istore (lv' := [(4, .int v4_12), (3, .int v3_5), (0, .ref (HB.size + 78)), (1, .ref (HB.size + 32)), (2, .int v2)]) hx hb dX10_makePairs_12 hl (by decide) rfl (fun ls hl => ?_)
  refine lv_aload_n hx hb dX10_makePairs_14 rfl (lv_at hl 2 rfl) ?_
  refine gf_X10_31 hx hb hts hown hKK hI hN dX10_makePairs_15 ?_
  refine lv_iload_n hx hb dX10_makePairs_18 rfl (lv_at hl 1 rfl) ?_
  obtain ⟨q_19, hq_19, h⟩ := ob_e h
  refine r_callV (As := [.int v3_5]) (rest := []) hx hb hml hts hown (c_X0_clear l HB D y F ns κs σ hN 84 (lc84 hN) (kc84 hk0) v3_5 G17 e17 q_19 hq_19) cal_X0_clear im_X0_clear se_X0_clear lm_X10_43 ⟨Nat.le_of_ble_eq_true rfl, Nat.le_of_ble_eq_true rfl⟩ hI.nil hKK (r_recv hKK hI (hE0 HB.size y) rfl (lc84 hN) (kc84 hk0)) rfl hl.1 hI.2.2 rfl (Nat.le_of_ble_eq_true rfl) dX10_makePairs_19 ⟨Nat.le_of_ble_eq_true rfl, Nat.le_of_ble_eq_true rfl⟩ rfl rfl rfl (fun H locs hB hlo => ?_)
  obtain ⟨σ, hB, en17, ho⟩ := hB
  have hI := hB.re hlo
  have e17 := en17
  have e6 := (ho 6 (ni rfl)).trans e6
  have e7 := (ho 7 (ni rfl)).trans e7
  have e8 := (ho 8 (ni rfl)).trans e8
  have e9 := (ho 9 (ni rfl)).trans e9
  have e20 := (ho 20 (ni rfl)).trans e20
  have e21 := (ho 21 (ni rfl)).trans e21
  have fr := frc fr ho (by decide)
  refine lv_iconst (v := 0) hx hb dX10_makePairs_22 (by decide) ?_
  refine lv_istore (lv' := [(5, .int 0), (4, .int v4_12), (3, .int v3_5), (0, .ref (HB.size + 78)), (1, .ref (HB.size + 32)), (2, .int v2)]) hx hb dX10_makePairs_23 hl (by decide) rfl (fun ls hl => ?_)
  exact b25  F σ H locs ls G6 G7 G8 G9 q_19 G20 (q_9.2) v2 v3_5 v4_12 0  hI e6 e7 e8 e9 e17 e20 e21 fr (lv_sub hl [3, 4, 5, 2, 1, 0] rfl) h
noncomputable def f_X11_pairing (F ns : Nat) (G1 : Grp) (G6 : Grp) (G7 : Grp) (G8 : Grp) (G9 : Grp) (G17 : Grp) (G20 : Grp) (G21 : Grp)  : Option (Int32 × Nat × Grp × Grp × Grp × Grp × Grp) :=
  ob (f_X10_makePairs F ns G6 G7 G8 G9 G17 G20 G21 (G1.1 0 0)) (fun q_12 => some (q_12.1, q_12.2.1, q_12.2.2.1, q_12.2.2.2.1, q_12.2.2.2.2.1, q_12.2.2.2.2.2.1, q_12.2.2.2.2.2.2))
def RM_X11_pairing : Room := { frames := 12, cells := 6, slots := 54, locals := 417 }
abbrev W_X11_pairing : List Nat := [7, 9, 17, 20, 21]
abbrev B_X11_pairing (HB : Heap) (D : va_G) (y : Nat → ClassId) (ns : Nat) (σ0 : St) (q : Int32 × Nat × Grp × Grp × Grp × Grp × Grp) : Heap → Prop := fun H => ∃ (κ : Nat → Nat) (σ : St), IV HB D y q.2.1 q.2.1 κ σ [] H ∧ ns ≤ q.2.1 ∧ σ 7 = q.2.2.1 ∧ σ 9 = q.2.2.2.1 ∧ σ 17 = q.2.2.2.2.1 ∧ σ 20 = q.2.2.2.2.2.1 ∧ σ 21 = q.2.2.2.2.2.2 ∧ ∀ j, j ∉ W_X11_pairing → σ j = σ0 j
set_option maxRecDepth 100000 in
set_option maxHeartbeats 4000000 in
theorem c_X11_pairing (l : Launch) (HB : Heap) (D : va_G) (y : Nat → ClassId) (F ns : Nat) (κs : Nat → Nat) (σ0 : St) (hN : N0 ≤ ns)  (G1 : Grp) (e1 : σ0 1 = G1) (G6 : Grp) (e6 : σ0 6 = G6) (G7 : Grp) (e7 : σ0 7 = G7) (G8 : Grp) (e8 : σ0 8 = G8) (G9 : Grp) (e9 : σ0 9 = G9) (G17 : Grp) (e17 : σ0 17 = G17) (G20 : Grp) (e20 : σ0 20 = G20) (G21 : Grp) (e21 : σ0 21 = G21) (q : Int32 × Nat × Grp × Grp × Grp × Grp × Grp) (h : f_X11_pairing F ns G1 G6 G7 G8 G9 G17 G20 G21 = some q) : MT l HB D y yX11_pairing cX11_pairing 1 (some .int) RM_X11_pairing [.ref (HB.size + 0)] (IV HB D y ns ns κs σ0 []) (some (.int q.1)) (B_X11_pairing HB D y ns σ0 q) := by
  refine Met.ofW (cc := cX11_pairing) (maxL := 1) (ret := some .int) (by decide) rfl ?_
  intro p e s m args below meth c s₁ BL hml hv
  obtain ⟨rfl, hI, hKK⟩ := hv
  have hx := BL.exec
  have hb := BL.bytes
  have hr := BL.returns
  have hts : ∀ w ∈ gtb, w.before _ s = true := fun w hw => atoms_spec BL.pre w (List.mem_cons_of_mem _ hw)
  have hml : c.maxLocals = 1 := hml
  have hown : s.vm.findClass RX11 = some m.cls := findClass_of_methodNamed BL.named
  have hlocks := BL.notSynchronized
  have hk0 := hI.1.2.2.2.2
  have hnn : ns ≤ ns := Nat.le_refl _
  have hl := lv_entry ([.ref (HB.size + 0)]) (n := 1) (Nat.le_of_ble_eq_true rfl)
  rw [lg_entry_eq]
  generalize (lg_sl ([.ref (HB.size + 0)]) ++ List.replicate (1 - (lg_sl ([.ref (HB.size + 0)])).length) Slot.unset).toArray = ls at hl ⊢
  have hl : lv_has ls 1 [(0, .ref (HB.size + 0))] := hl
  generalize hargs : ([.ref (HB.size + 0)] : List Value).toArray = args at *
  obtain ⟨σ, hI, e1, e6, e7, e8, e9, e17, e20, e21, fr⟩ : ∃ σ : St, IV HB D y ns ns κs σ [] s.heap ∧ σ 1 = G1 ∧ σ 6 = G6 ∧ σ 7 = G7 ∧ σ 8 = G8 ∧ σ 9 = G9 ∧ σ 17 = G17 ∧ σ 20 = G20 ∧ σ 21 = G21 ∧ ∀ j, j ∉ W_X11_pairing → σ j = σ0 j := ⟨σ0, hI, e1, e6, e7, e8, e9, e17, e20, e21, fun _ _ => rfl⟩
  show W p l e RM_X11_pairing s m args below meth c s.heap [] 0 0 (MQ below (QCg (some (.int q.1)) (B_X11_pairing HB D y ns σ0 q)) args s 6 54 (fun x => HB.size ≤ x)) (F0 m 0 ls [])
  generalize s.heap = H at hI ⊢
  unfold f_X11_pairing at h
  obtain ⟨locs, hlocs⟩ : ∃ x : List Loc, x = [] := ⟨_, rfl⟩
  rw [← hlocs] at hI ⊢
  refine lv_aload_n hx hb dX11_pairing_0 rfl (lv_at hl 0 rfl) ?_
  refine gf_X11_69 hx hb hts hown hKK hI hN dX11_pairing_1 ?_
  refine lv_aload_n hx hb dX11_pairing_4 rfl (lv_at hl 0 rfl) ?_
  refine gf_X11_37 hx hb hts hown hKK hI hN dX11_pairing_5 ?_
  refine lv_aload_n hx hb dX11_pairing_8 rfl (lv_at hl 0 rfl) ?_
  refine gt_X11_106 hx hb hts hown hKK hI e1 (lc0 hN) (kc0 hk0) dX11_pairing_9 ?_
  obtain ⟨q_12, hq_12, h⟩ := ob_e h
  refine r_callV (As := [.ref (HB.size + 32), .int (G1.1 0 0)]) (rest := []) hx hb hml hts hown (c_X10_makePairs l HB D y F ns κs σ hN (G1.1 0 0) G6 e6 G7 e7 G8 e8 G9 e9 G17 e17 G20 e20 G21 e21 q_12 hq_12) cal_X10_makePairs im_X10_makePairs se_X10_makePairs lm_X11_289 ⟨Nat.le_of_ble_eq_true rfl, Nat.le_of_ble_eq_true rfl⟩ hI.nil hKK (r_recv hKK hI (hE10 HB.size y) rfl (lc78 hN) (kc78 hk0)) rfl hl.1 hI.2.2 rfl (Nat.le_of_ble_eq_true rfl) dX11_pairing_12 ⟨Nat.le_of_ble_eq_true rfl, Nat.le_of_ble_eq_true rfl⟩ rfl rfl rfl (fun H locs hB hlo => ?_)
  obtain ⟨κ, σ, hB, hn2, en7, en9, en17, en20, en21, ho⟩ := hB
  have hI := hB.re hlo
  have hN := Nat.le_trans hN hn2
  have hnn := Nat.le_trans hnn hn2
  have hk0 := hI.1.2.2.2.2
  have e7 := en7
  have e9 := en9
  have e17 := en17
  have e20 := en20
  have e21 := en21
  have e1 := (ho 1 (ni rfl)).trans e1
  have e6 := (ho 6 (ni rfl)).trans e6
  have e8 := (ho 8 (ni rfl)).trans e8
  have fr := frc fr ho (by decide)
  have hq := Option.some.inj h
  refine W.widen (k := 6) (n := 54) (Nat.le_of_ble_eq_true rfl) (Nat.le_of_ble_eq_true rfl) ?_
  exact W.iret (v := q_12.1) hx hb hr (fun t ht hW => qc_mk (congrArg (fun z => Outcome.returned (some (Value.int z.1))) hq) (by rw [ht, ← hq]; exact ⟨κ, σ, hI.nil, hnn, e7, e9, e17, e20, e21, fr⟩)) hI.2.2 dX11_pairing_15 hlocks
