noncomputable def f_X4_tell_b48 (F : Nat)  (G3 : Grp) (G9 : Grp) (G13 : Grp) (G15 : Grp) (v0 : Nat) (v1 : Int32) : Option (Int32) :=
  if v1 = 0 then some (G13.1 v0 8) else if v1 = 1 then om (G13.2.2 v0 0) (none) (fun t_106 => some (G9.1 t_106 0)) else if v1 = 2 then some (G13.1 v0 1) else if v1 = 3 then some (G13.1 v0 2) else if v1 = 4 then some (G13.1 v0 9) else if v1 = 5 then some (G13.1 v0 10) else if v1 = 6 then some (G13.1 v0 11) else if v1 = 7 then some (G13.1 v0 6) else if v1 = 8 then some (G13.1 v0 7) else some (-1)
noncomputable def f_X4_tell (F : Nat) (G3 : Grp) (G9 : Grp) (G13 : Grp) (G15 : Grp) (v0 : Nat) (v1 : Int32) : Option (Int32) :=
  ob (f_X11_within F v1 10 15) (fun q_5 => if q_5 = 0 then if v1 < 20 then f_X4_tell_b48 F  G3 G9 G13 G15 v0 v1 else if (G13.1 v0 6) ≤ (v1 - 20) then f_X4_tell_b48 F  G3 G9 G13 G15 v0 v1 else ck (v1 - 20) ((G3.2.2 (v0 + 3) 0).getD 0) (some (G3.1 (v0 + 3) (v1 - 20).toNatClampNeg)) else ck (v1 - 10) 6 (some (G15.1 (v0 + 2) (v1 - 10).toNatClampNeg)))
def RM_X4_tell : Room := { frames := 1, cells := 0, slots := 0, locals := 22 }
abbrev B_X4_tell (HB : Heap) (D : va_G) (y : Nat → ClassId) (n : Nat) (κ : Nat → Nat) (σ : St) (q : Int32) : Heap → Prop := fun H => IV HB D y n n κ σ [] H
set_option maxRecDepth 100000 in
set_option maxHeartbeats 4000000 in
theorem c_X4_tell (l : Launch) (HB : Heap) (D : va_G) (y : Nat → ClassId) (F n : Nat) (κ : Nat → Nat) (σ : St) (hN : N0 ≤ n) (v0 : Nat) (ha_v0 : v0 < n) (hk_v0 : κ v0 = 4) (v1 : Int32)  (G3 : Grp) (e3 : σ 3 = G3) (G9 : Grp) (e9 : σ 9 = G9) (G13 : Grp) (e13 : σ 13 = G13) (G15 : Grp) (e15 : σ 15 = G15) (q : Int32) (h : f_X4_tell F G3 G9 G13 G15 v0 v1 = some q) : MT l HB D y yX4_tell cX4_tell 2 (some .int) RM_X4_tell [.ref (HB.size + v0), .int v1] (IV HB D y n n κ σ []) (some (.int q)) (B_X4_tell HB D y n κ σ q) := by
  refine Met.ofW (cc := cX4_tell) (maxL := 2) (ret := (some .int)) (by decide) rfl ?_
  intro p e s m args below meth c s₁ BL hml hv
  obtain ⟨rfl, hI, hKK⟩ := hv
  have hx := BL.exec
  have hb := BL.bytes
  have hr := BL.returns
  have hts : ∀ w ∈ gtb, w.before _ s = true := fun w hw => atoms_spec BL.pre w (List.mem_cons_of_mem _ hw)
  have hml : c.maxLocals = 2 := hml
  have hown : s.vm.findClass RX4 = some m.cls := findClass_of_methodNamed BL.named
  have hlocks := BL.notSynchronized
  have hk0 := hI.1.2.2.2.2
  have hl := lv_entry ([.ref (HB.size + v0), .int v1]) (n := 2) (Nat.le_of_ble_eq_true rfl)
  rw [lg_entry_eq]
  generalize (lg_sl ([.ref (HB.size + v0), .int v1]) ++ List.replicate (2 - (lg_sl ([.ref (HB.size + v0), .int v1])).length) Slot.unset).toArray = ls at hl ⊢
  have hl : lv_has ls 2 [(0, .ref (HB.size + v0)), (1, .int v1)] := hl
  generalize hargs : ([.ref (HB.size + v0), .int v1] : List Value).toArray = args at *
  have b48 : ∀ (H : Heap) (locs : List Loc) (ls : Array Slot) (G3 : Grp) (G9 : Grp) (G13 : Grp) (G15 : Grp) (v0 : Nat) (v1 : Int32) (ha_v0 : v0 < n) (hk_v0 : κ v0 = 4), IV HB D y n n κ σ locs H → σ 3 = G3 → σ 9 = G9 → σ 13 = G13 → σ 15 = G15 → lv_has ls 2 [(0, .ref (HB.size + v0)), (1, .int v1)] → f_X4_tell_b48 F  G3 G9 G13 G15 v0 v1 = some q → WX RM_X4_tell p l e s m args below meth c HB (some (.int q)) (B_X4_tell HB D y n κ σ q) H locs (F0 m 48 ls []) := by
    intro  H locs ls G3 G9 G13 G15 v0 v1 ha_v0 hk_v0 hI e3 e9 e13 e15 hl h
    unfold f_X4_tell_b48 at h
    refine lv_iload_n hx hb dX4_tell_48 rfl (lv_at hl 1 rfl) ?_
    by_cases hc0 : v1 = 0
    · replace h := ite_t hc0 h
      refine lv_tableIn (off := 51) (tgt := 100) hx hb dX4_tell_49 (by rw [hc0]; decide) (by rw [hc0]; decide) (by rw [hc0]; decide) (by decide) ?_
      refine lv_aload_n hx hb dX4_tell_100 rfl (lv_at hl 0 rfl) ?_
      refine gt_X4_51 hx hb hts hown hKK hI e13 ha_v0 hk_v0 dX4_tell_101 ?_
      have hq := Option.some.inj h
      exact W.iret (v := (G13.1 v0 8)) hx hb hr (fun t ht hW => qc_mk (congrArg (fun z => Outcome.returned (some (Value.int z))) hq) (by rw [ht]; exact hI.nil)) hI.2.2 dX4_tell_104 hlocks
    · replace h := ite_f hc0 h
      by_cases hc1 : v1 = 1
      · replace h := ite_t hc1 h
        refine lv_tableIn (off := 56) (tgt := 105) hx hb dX4_tell_49 (by rw [hc1]; decide) (by rw [hc1]; decide) (by rw [hc1]; decide) (by decide) ?_
        refine lv_aload_n hx hb dX4_tell_105 rfl (lv_at hl 0 rfl) ?_
        refine gt_X4_18 hx hb hts hown hKK hI e13 ha_v0 hk_v0 dX4_tell_106 ?_
        rcases om_e h with ⟨eo, h⟩ | ⟨t_106, eo, h⟩
        · cases h
        · refine topr eo ?_
          obtain ⟨ha_106, hk_106⟩ := typF hI ha_v0 hk_v0 0 rfl e13 eo
          refine gt_X4_92 hx hb hts hown hKK hI e9 ha_106 hk_106 dX4_tell_109 ?_
          have hq := Option.some.inj h
          exact W.iret (v := (G9.1 t_106 0)) hx hb hr (fun t ht hW => qc_mk (congrArg (fun z => Outcome.returned (some (Value.int z))) hq) (by rw [ht]; exact hI.nil)) hI.2.2 dX4_tell_112 hlocks
      · replace h := ite_f hc1 h
        by_cases hc2 : v1 = 2
        · replace h := ite_t hc2 h
          refine lv_tableIn (off := 64) (tgt := 113) hx hb dX4_tell_49 (by rw [hc2]; decide) (by rw [hc2]; decide) (by rw [hc2]; decide) (by decide) ?_
          refine lv_aload_n hx hb dX4_tell_113 rfl (lv_at hl 0 rfl) ?_
          refine gt_X4_22 hx hb hts hown hKK hI e13 ha_v0 hk_v0 dX4_tell_114 ?_
          have hq := Option.some.inj h
          exact W.iret (v := (G13.1 v0 1)) hx hb hr (fun t ht hW => qc_mk (congrArg (fun z => Outcome.returned (some (Value.int z))) hq) (by rw [ht]; exact hI.nil)) hI.2.2 dX4_tell_117 hlocks
        · replace h := ite_f hc2 h
          by_cases hc3 : v1 = 3
          · replace h := ite_t hc3 h
            refine lv_tableIn (off := 69) (tgt := 118) hx hb dX4_tell_49 (by rw [hc3]; decide) (by rw [hc3]; decide) (by rw [hc3]; decide) (by decide) ?_
            refine lv_aload_n hx hb dX4_tell_118 rfl (lv_at hl 0 rfl) ?_
            refine gt_X4_48 hx hb hts hown hKK hI e13 ha_v0 hk_v0 dX4_tell_119 ?_
            have hq := Option.some.inj h
            exact W.iret (v := (G13.1 v0 2)) hx hb hr (fun t ht hW => qc_mk (congrArg (fun z => Outcome.returned (some (Value.int z))) hq) (by rw [ht]; exact hI.nil)) hI.2.2 dX4_tell_122 hlocks
          · replace h := ite_f hc3 h
            by_cases hc4 : v1 = 4
            · replace h := ite_t hc4 h
              refine lv_tableIn (off := 74) (tgt := 123) hx hb dX4_tell_49 (by rw [hc4]; decide) (by rw [hc4]; decide) (by rw [hc4]; decide) (by decide) ?_
              refine lv_aload_n hx hb dX4_tell_123 rfl (lv_at hl 0 rfl) ?_
              refine gt_X4_54 hx hb hts hown hKK hI e13 ha_v0 hk_v0 dX4_tell_124 ?_
              have hq := Option.some.inj h
              exact W.iret (v := (G13.1 v0 9)) hx hb hr (fun t ht hW => qc_mk (congrArg (fun z => Outcome.returned (some (Value.int z))) hq) (by rw [ht]; exact hI.nil)) hI.2.2 dX4_tell_127 hlocks
            · replace h := ite_f hc4 h
              by_cases hc5 : v1 = 5
              · replace h := ite_t hc5 h
                refine lv_tableIn (off := 79) (tgt := 128) hx hb dX4_tell_49 (by rw [hc5]; decide) (by rw [hc5]; decide) (by rw [hc5]; decide) (by decide) ?_
                refine lv_aload_n hx hb dX4_tell_128 rfl (lv_at hl 0 rfl) ?_
                refine gt_X4_57 hx hb hts hown hKK hI e13 ha_v0 hk_v0 dX4_tell_129 ?_
                have hq := Option.some.inj h
                exact W.iret (v := (G13.1 v0 10)) hx hb hr (fun t ht hW => qc_mk (congrArg (fun z => Outcome.returned (some (Value.int z))) hq) (by rw [ht]; exact hI.nil)) hI.2.2 dX4_tell_132 hlocks
              · replace h := ite_f hc5 h
                by_cases hc6 : v1 = 6
                · replace h := ite_t hc6 h
                  refine lv_tableIn (off := 84) (tgt := 133) hx hb dX4_tell_49 (by rw [hc6]; decide) (by rw [hc6]; decide) (by rw [hc6]; decide) (by decide) ?_
                  refine lv_aload_n hx hb dX4_tell_133 rfl (lv_at hl 0 rfl) ?_
                  refine gt_X4_60 hx hb hts hown hKK hI e13 ha_v0 hk_v0 dX4_tell_134 ?_
                  have hq := Option.some.inj h
                  exact W.iret (v := (G13.1 v0 11)) hx hb hr (fun t ht hW => qc_mk (congrArg (fun z => Outcome.returned (some (Value.int z))) hq) (by rw [ht]; exact hI.nil)) hI.2.2 dX4_tell_137 hlocks
                · replace h := ite_f hc6 h
                  by_cases hc7 : v1 = 7
                  · replace h := ite_t hc7 h
                    refine lv_tableIn (off := 89) (tgt := 138) hx hb dX4_tell_49 (by rw [hc7]; decide) (by rw [hc7]; decide) (by rw [hc7]; decide) (by decide) ?_
                    refine lv_aload_n hx hb dX4_tell_138 rfl (lv_at hl 0 rfl) ?_
                    refine gt_X4_35 hx hb hts hown hKK hI e13 ha_v0 hk_v0 dX4_tell_139 ?_
                    have hq := Option.some.inj h
                    exact W.iret (v := (G13.1 v0 6)) hx hb hr (fun t ht hW => qc_mk (congrArg (fun z => Outcome.returned (some (Value.int z))) hq) (by rw [ht]; exact hI.nil)) hI.2.2 dX4_tell_142 hlocks
                  · replace h := ite_f hc7 h
                    by_cases hc8 : v1 = 8
                    · replace h := ite_t hc8 h
                      refine lv_tableIn (off := 94) (tgt := 143) hx hb dX4_tell_49 (by rw [hc8]; decide) (by rw [hc8]; decide) (by rw [hc8]; decide) (by decide) ?_
                      refine lv_aload_n hx hb dX4_tell_143 rfl (lv_at hl 0 rfl) ?_
                      refine gt_X4_85 hx hb hts hown hKK hI e13 ha_v0 hk_v0 dX4_tell_144 ?_
                      have hq := Option.some.inj h
                      exact W.iret (v := (G13.1 v0 7)) hx hb hr (fun t ht hW => qc_mk (congrArg (fun z => Outcome.returned (some (Value.int z))) hq) (by rw [ht]; exact hI.nil)) hI.2.2 dX4_tell_147 hlocks
                    · replace h := ite_f hc8 h
                      refine lv_tableOut (tgt := 148) hx hb dX4_tell_49 (swo (fun j h1 h2 => ?_)) (by decide) ?_
                      · have hj : j = 0 ∨ j = 1 ∨ j = 2 ∨ j = 3 ∨ j = 4 ∨ j = 5 ∨ j = 6 ∨ j = 7 ∨ j = 8 := by omega
                        rcases hj with rfl | rfl | rfl | rfl | rfl | rfl | rfl | rfl | rfl
                        · exact lv_neT hc0 (by decide)
                        · exact lv_neT hc1 (by decide)
                        · exact lv_neT hc2 (by decide)
                        · exact lv_neT hc3 (by decide)
                        · exact lv_neT hc4 (by decide)
                        · exact lv_neT hc5 (by decide)
                        · exact lv_neT hc6 (by decide)
                        · exact lv_neT hc7 (by decide)
                        · exact lv_neT hc8 (by decide)
                      · refine lv_iconst (v := (-1)) hx hb dX4_tell_148 (by decide) ?_
                        have hq := Option.some.inj h
                        exact W.iret (v := (-1)) hx hb hr (fun t ht hW => qc_mk (congrArg (fun z => Outcome.returned (some (Value.int z))) hq) (by rw [ht]; exact hI.nil)) hI.2.2 dX4_tell_149 hlocks
  show WX RM_X4_tell p l e s m args below meth c HB (some (.int q)) (B_X4_tell HB D y n κ σ q) s.heap [] (F0 m 0 ls [])
  generalize s.heap = H at hI ⊢
  unfold f_X4_tell at h
  obtain ⟨locs, hlocs⟩ : ∃ x : List Loc, x = [] := ⟨_, rfl⟩
  rw [← hlocs] at hI ⊢
  refine lv_iload_n hx hb dX4_tell_0 rfl (lv_at hl 1 rfl) ?_
  refine lv_bipush (v := 10) hx hb dX4_tell_1 (by decide) ?_
  refine lv_bipush (v := 15) hx hb dX4_tell_3 (by decide) ?_
  obtain ⟨q_5, hq_5, h⟩ := ob_e h
  refine r_callSN (As := [.int v1, .int 10, .int 15]) (rest := []) hx hb hml hts hown (c_X11_within l HB D y F n κ σ hN v1 10 15  q_5 hq_5) cal_X11_within st_X11_within (hKK.2.1 _ (List.mem_of_getElem? (i := 16) rfl)) ⟨Nat.le_of_ble_eq_true rfl, Nat.le_of_ble_eq_true rfl⟩ hI.nil hKK rfl hl.1 hI.2.2 rfl (Nat.le_of_ble_eq_true rfl) dX4_tell_5 ⟨Nat.le_of_ble_eq_true rfl, Nat.le_of_ble_eq_true rfl⟩ rfl rfl rfl (fun H locs hB hlo => ?_)
  have hI := hB.re hlo
  refine lv_if_eq (tgt := 21) hx hb dX4_tell_8 (by decide) (fun hc => ?_) (fun hc => ?_)
  · replace h := ite_t hc h
    refine lv_iload_n hx hb dX4_tell_21 rfl (lv_at hl 1 rfl) ?_
    refine lv_bipush (v := 20) hx hb dX4_tell_22 (by decide) ?_
    refine lv_icmp_lt (tgt := 48) hx hb dX4_tell_24 (by decide) (fun hc => ?_) (fun hc => ?_)
    · replace h := ite_t hc h
      exact b48  H locs ls G3 G9 G13 G15 v0 v1 ha_v0 hk_v0 hI e3 e9 e13 e15 (lv_sub hl [0, 1] rfl) h
    · replace h := ite_f hc h
      refine lv_iload_n hx hb dX4_tell_27 rfl (lv_at hl 1 rfl) ?_
      refine lv_bipush (v := 20) hx hb dX4_tell_28 (by decide) ?_
      refine lv_isub hx hb dX4_tell_30 ?_
      refine lv_aload_n hx hb dX4_tell_31 rfl (lv_at hl 0 rfl) ?_
      refine gt_X4_35 hx hb hts hown hKK hI e13 ha_v0 hk_v0 dX4_tell_32 ?_
      refine lv_icmp_ge (tgt := 48) hx hb dX4_tell_35 (by decide) (fun hc => ?_) (fun hc => ?_)
      · replace h := ite_t hc h
        exact b48  H locs ls G3 G9 G13 G15 v0 v1 ha_v0 hk_v0 hI e3 e9 e13 e15 (lv_sub hl [0, 1] rfl) h
      · replace h := ite_f hc h
        refine lv_aload_n hx hb dX4_tell_38 rfl (lv_at hl 0 rfl) ?_
        refine gf_X4_38 hx hb hts hown hKK hI ha_v0 hk_v0 dX4_tell_39 ?_
        refine lv_iload_n hx hb dX4_tell_42 rfl (lv_at hl 1 rfl) ?_
        refine lv_bipush (v := 20) hx hb dX4_tell_43 (by decide) ?_
        refine lv_isub hx hb dX4_tell_45 ?_
        obtain ⟨hin_, h⟩ := ck_e h
        refine la_13 hx hb hKK hI e3 (ownF hI ha_v0 hk_v0 0 rfl).2.1 (ownF hI ha_v0 hk_v0 0 rfl).2.2 hin_ dX4_tell_46 ?_
        have hq := Option.some.inj h
        exact W.iret (v := (G3.1 (v0 + 3) (v1 - 20).toNatClampNeg)) hx hb hr (fun t ht hW => qc_mk (congrArg (fun z => Outcome.returned (some (Value.int z))) hq) (by rw [ht]; exact hI.nil)) hI.2.2 dX4_tell_47 hlocks
  · replace h := ite_f hc h
    refine lv_aload_n hx hb dX4_tell_11 rfl (lv_at hl 0 rfl) ?_
    refine gf_X4_15 hx hb hts hown hKK hI ha_v0 hk_v0 dX4_tell_12 ?_
    refine lv_iload_n hx hb dX4_tell_15 rfl (lv_at hl 1 rfl) ?_
    refine lv_bipush (v := 10) hx hb dX4_tell_16 (by decide) ?_
    refine lv_isub hx hb dX4_tell_18 ?_
    obtain ⟨hin_, h⟩ := ck_e h
    refine la_78 hx hb hKK hI e15 (ownF hI ha_v0 hk_v0 2 rfl).2.1 (ownF hI ha_v0 hk_v0 2 rfl).2.2 hin_ dX4_tell_19 ?_
    have hq := Option.some.inj h
    exact W.iret (v := (G15.1 (v0 + 2) (v1 - 10).toNatClampNeg)) hx hb hr (fun t ht hW => qc_mk (congrArg (fun z => Outcome.returned (some (Value.int z))) hq) (by rw [ht]; exact hI.nil)) hI.2.2 dX4_tell_20 hlocks
noncomputable def f_X5_tell (F : Nat) (G9 : Grp) (v0 : Nat) (v1 : Int32) : Option (Int32) :=
  if v1 = 0 then some (G9.1 v0 1) else if v1 = 1 then some (G9.1 v0 2) else if v1 = 2 then some (G9.1 v0 3) else if v1 = 3 then some (G9.1 v0 4) else if v1 = 4 then some (G9.1 v0 5) else if v1 = 5 then some (G9.1 v0 6) else some (-1)
def RM_X5_tell : Room := { frames := 0, cells := 0, slots := 0, locals := 0 }
abbrev B_X5_tell (HB : Heap) (D : va_G) (y : Nat → ClassId) (n : Nat) (κ : Nat → Nat) (σ : St) (q : Int32) : Heap → Prop := fun H => IV HB D y n n κ σ [] H
set_option maxRecDepth 100000 in
set_option maxHeartbeats 4000000 in
theorem c_X5_tell (l : Launch) (HB : Heap) (D : va_G) (y : Nat → ClassId) (F n : Nat) (κ : Nat → Nat) (σ : St) (hN : N0 ≤ n) (v0 : Nat) (ha_v0 : v0 < n) (hk_v0 : κ v0 = 5) (v1 : Int32)  (G9 : Grp) (e9 : σ 9 = G9) (q : Int32) (h : f_X5_tell F G9 v0 v1 = some q) : MT l HB D y yX5_tell cX5_tell 2 (some .int) RM_X5_tell [.ref (HB.size + v0), .int v1] (IV HB D y n n κ σ []) (some (.int q)) (B_X5_tell HB D y n κ σ q) := by
  refine Met.ofW (cc := cX5_tell) (maxL := 2) (ret := (some .int)) (by decide) rfl ?_
  intro p e s m args below meth c s₁ BL hml hv
  obtain ⟨rfl, hI, hKK⟩ := hv
  have hx := BL.exec
  have hb := BL.bytes
  have hr := BL.returns
  have hts : ∀ w ∈ gtb, w.before _ s = true := fun w hw => atoms_spec BL.pre w (List.mem_cons_of_mem _ hw)
  have hml : c.maxLocals = 2 := hml
  have hown : s.vm.findClass RX5 = some m.cls := findClass_of_methodNamed BL.named
  have hlocks := BL.notSynchronized
  have hk0 := hI.1.2.2.2.2
  have hl := lv_entry ([.ref (HB.size + v0), .int v1]) (n := 2) (Nat.le_of_ble_eq_true rfl)
  rw [lg_entry_eq]
  generalize (lg_sl ([.ref (HB.size + v0), .int v1]) ++ List.replicate (2 - (lg_sl ([.ref (HB.size + v0), .int v1])).length) Slot.unset).toArray = ls at hl ⊢
  have hl : lv_has ls 2 [(0, .ref (HB.size + v0)), (1, .int v1)] := hl
  generalize hargs : ([.ref (HB.size + v0), .int v1] : List Value).toArray = args at *
  show WX RM_X5_tell p l e s m args below meth c HB (some (.int q)) (B_X5_tell HB D y n κ σ q) s.heap [] (F0 m 0 ls [])
  generalize s.heap = H at hI ⊢
  unfold f_X5_tell at h
  obtain ⟨locs, hlocs⟩ : ∃ x : List Loc, x = [] := ⟨_, rfl⟩
  rw [← hlocs] at hI ⊢
  refine lv_iload_n hx hb dX5_tell_0 rfl (lv_at hl 1 rfl) ?_
  by_cases hc0 : v1 = 0
  · replace h := ite_t hc0 h
    refine lv_tableIn (off := 39) (tgt := 40) hx hb dX5_tell_1 (by rw [hc0]; decide) (by rw [hc0]; decide) (by rw [hc0]; decide) (by decide) ?_
    refine lv_aload_n hx hb dX5_tell_40 rfl (lv_at hl 0 rfl) ?_
    refine gt_X5_15 hx hb hts hown hKK hI e9 ha_v0 hk_v0 dX5_tell_41 ?_
    have hq := Option.some.inj h
    exact W.iret (v := (G9.1 v0 1)) hx hb hr (fun t ht hW => qc_mk (congrArg (fun z => Outcome.returned (some (Value.int z))) hq) (by rw [ht]; exact hI.nil)) hI.2.2 dX5_tell_44 hlocks
  · replace h := ite_f hc0 h
    by_cases hc1 : v1 = 1
    · replace h := ite_t hc1 h
      refine lv_tableIn (off := 44) (tgt := 45) hx hb dX5_tell_1 (by rw [hc1]; decide) (by rw [hc1]; decide) (by rw [hc1]; decide) (by decide) ?_
      refine lv_aload_n hx hb dX5_tell_45 rfl (lv_at hl 0 rfl) ?_
      refine gt_X5_18 hx hb hts hown hKK hI e9 ha_v0 hk_v0 dX5_tell_46 ?_
      have hq := Option.some.inj h
      exact W.iret (v := (G9.1 v0 2)) hx hb hr (fun t ht hW => qc_mk (congrArg (fun z => Outcome.returned (some (Value.int z))) hq) (by rw [ht]; exact hI.nil)) hI.2.2 dX5_tell_49 hlocks
    · replace h := ite_f hc1 h
      by_cases hc2 : v1 = 2
      · replace h := ite_t hc2 h
        refine lv_tableIn (off := 49) (tgt := 50) hx hb dX5_tell_1 (by rw [hc2]; decide) (by rw [hc2]; decide) (by rw [hc2]; decide) (by decide) ?_
        refine lv_aload_n hx hb dX5_tell_50 rfl (lv_at hl 0 rfl) ?_
        refine gt_X5_21 hx hb hts hown hKK hI e9 ha_v0 hk_v0 dX5_tell_51 ?_
        have hq := Option.some.inj h
        exact W.iret (v := (G9.1 v0 3)) hx hb hr (fun t ht hW => qc_mk (congrArg (fun z => Outcome.returned (some (Value.int z))) hq) (by rw [ht]; exact hI.nil)) hI.2.2 dX5_tell_54 hlocks
      · replace h := ite_f hc2 h
        by_cases hc3 : v1 = 3
        · replace h := ite_t hc3 h
          refine lv_tableIn (off := 54) (tgt := 55) hx hb dX5_tell_1 (by rw [hc3]; decide) (by rw [hc3]; decide) (by rw [hc3]; decide) (by decide) ?_
          refine lv_aload_n hx hb dX5_tell_55 rfl (lv_at hl 0 rfl) ?_
          refine gt_X5_24 hx hb hts hown hKK hI e9 ha_v0 hk_v0 dX5_tell_56 ?_
          have hq := Option.some.inj h
          exact W.iret (v := (G9.1 v0 4)) hx hb hr (fun t ht hW => qc_mk (congrArg (fun z => Outcome.returned (some (Value.int z))) hq) (by rw [ht]; exact hI.nil)) hI.2.2 dX5_tell_59 hlocks
        · replace h := ite_f hc3 h
          by_cases hc4 : v1 = 4
          · replace h := ite_t hc4 h
            refine lv_tableIn (off := 59) (tgt := 60) hx hb dX5_tell_1 (by rw [hc4]; decide) (by rw [hc4]; decide) (by rw [hc4]; decide) (by decide) ?_
            refine lv_aload_n hx hb dX5_tell_60 rfl (lv_at hl 0 rfl) ?_
            refine gt_X5_27 hx hb hts hown hKK hI e9 ha_v0 hk_v0 dX5_tell_61 ?_
            have hq := Option.some.inj h
            exact W.iret (v := (G9.1 v0 5)) hx hb hr (fun t ht hW => qc_mk (congrArg (fun z => Outcome.returned (some (Value.int z))) hq) (by rw [ht]; exact hI.nil)) hI.2.2 dX5_tell_64 hlocks
          · replace h := ite_f hc4 h
            by_cases hc5 : v1 = 5
            · replace h := ite_t hc5 h
              refine lv_tableIn (off := 64) (tgt := 65) hx hb dX5_tell_1 (by rw [hc5]; decide) (by rw [hc5]; decide) (by rw [hc5]; decide) (by decide) ?_
              refine lv_aload_n hx hb dX5_tell_65 rfl (lv_at hl 0 rfl) ?_
              refine gt_X5_33 hx hb hts hown hKK hI e9 ha_v0 hk_v0 dX5_tell_66 ?_
              have hq := Option.some.inj h
              exact W.iret (v := (G9.1 v0 6)) hx hb hr (fun t ht hW => qc_mk (congrArg (fun z => Outcome.returned (some (Value.int z))) hq) (by rw [ht]; exact hI.nil)) hI.2.2 dX5_tell_69 hlocks
            · replace h := ite_f hc5 h
              refine lv_tableOut (tgt := 70) hx hb dX5_tell_1 (swo (fun j h1 h2 => ?_)) (by decide) ?_
              · have hj : j = 0 ∨ j = 1 ∨ j = 2 ∨ j = 3 ∨ j = 4 ∨ j = 5 := by omega
                rcases hj with rfl | rfl | rfl | rfl | rfl | rfl
                · exact lv_neT hc0 (by decide)
                · exact lv_neT hc1 (by decide)
                · exact lv_neT hc2 (by decide)
                · exact lv_neT hc3 (by decide)
                · exact lv_neT hc4 (by decide)
                · exact lv_neT hc5 (by decide)
              · refine lv_iconst (v := (-1)) hx hb dX5_tell_70 (by decide) ?_
                have hq := Option.some.inj h
                exact W.iret (v := (-1)) hx hb hr (fun t ht hW => qc_mk (congrArg (fun z => Outcome.returned (some (Value.int z))) hq) (by rw [ht]; exact hI.nil)) hI.2.2 dX5_tell_71 hlocks
noncomputable def f_X6_add (F : Nat) (G9 : Grp) (G10 : Grp) (G13 : Grp) (v1 : Nat) : Option (Int32 × Grp × Grp) :=
  if (G10.1 44 1) < 200 then ck (G10.1 44 1) 200 (bn (gR G10 45 (G10.1 44 1).toNatClampNeg (some v1)) (fun G10_21 => bn (gI G10_21 44 1 ((G10_21.1 44 1) + 1)) (fun G10_29 => om (G13.2.2 v1 0) (none) (fun t_33 => bn (gI G9 t_33 6 ((G9.1 t_33 6) + 1)) (fun G9_42 => some (((G10_29.1 44 1) - 1), G9_42, G10_29)))))) else some ((-1), G9, G10)
def RM_X6_add : Room := { frames := 0, cells := 0, slots := 0, locals := 0 }
abbrev W_X6_add : List Nat := [9, 10]
abbrev B_X6_add (HB : Heap) (D : va_G) (y : Nat → ClassId) (n : Nat) (κ : Nat → Nat) (σ0 : St) (q : Int32 × Grp × Grp) : Heap → Prop := fun H => ∃ σ : St, IV HB D y n n κ σ [] H ∧ σ 9 = q.2.1 ∧ σ 10 = q.2.2 ∧ ∀ j, j ∉ W_X6_add → σ j = σ0 j
set_option maxRecDepth 100000 in
set_option maxHeartbeats 4000000 in
theorem c_X6_add (l : Launch) (HB : Heap) (D : va_G) (y : Nat → ClassId) (F n : Nat) (κ : Nat → Nat) (σ0 : St) (hN : N0 ≤ n) (v1 : Nat) (ha_v1 : v1 < n) (hk_v1 : κ v1 = 4) (G9 : Grp) (e9 : σ0 9 = G9) (G10 : Grp) (e10 : σ0 10 = G10) (G13 : Grp) (e13 : σ0 13 = G13) (q : Int32 × Grp × Grp) (h : f_X6_add F G9 G10 G13 v1 = some q) : MT l HB D y yX6_add cX6_add 2 (some .int) RM_X6_add [.ref (HB.size + 44), .ref (HB.size + v1)] (IV HB D y n n κ σ0 []) (some (.int q.1)) (B_X6_add HB D y n κ σ0 q) := by
  refine Met.ofW (cc := cX6_add) (maxL := 2) (ret := (some .int)) (by decide) rfl ?_
  intro p e s m args below meth c s₁ BL hml hv
  obtain ⟨rfl, hI, hKK⟩ := hv
  have hx := BL.exec
  have hb := BL.bytes
  have hr := BL.returns
  have hts : ∀ w ∈ gtb, w.before _ s = true := fun w hw => atoms_spec BL.pre w (List.mem_cons_of_mem _ hw)
  have hml : c.maxLocals = 2 := hml
  have hown : s.vm.findClass RX6 = some m.cls := findClass_of_methodNamed BL.named
  have hlocks := BL.notSynchronized
  have hk0 := hI.1.2.2.2.2
  have hl := lv_entry ([.ref (HB.size + 44), .ref (HB.size + v1)]) (n := 2) (Nat.le_of_ble_eq_true rfl)
  rw [lg_entry_eq]
  generalize (lg_sl ([.ref (HB.size + 44), .ref (HB.size + v1)]) ++ List.replicate (2 - (lg_sl ([.ref (HB.size + 44), .ref (HB.size + v1)])).length) Slot.unset).toArray = ls at hl ⊢
  have hl : lv_has ls 2 [(0, .ref (HB.size + 44)), (1, .ref (HB.size + v1))] := hl
  generalize hargs : ([.ref (HB.size + 44), .ref (HB.size + v1)] : List Value).toArray = args at *
  obtain ⟨σ, hI, e9, e10, e13, fr⟩ : ∃ σ : St, IV HB D y n n κ σ [] s.heap ∧ σ 9 = G9 ∧ σ 10 = G10 ∧ σ 13 = G13 ∧ ∀ j, j ∉ W_X6_add → σ j = σ0 j := ⟨σ0, hI, e9, e10, e13, fun _ _ => rfl⟩
  show WX RM_X6_add p l e s m args below meth c HB (some (.int q.1)) (B_X6_add HB D y n κ σ0 q) s.heap [] (F0 m 0 ls [])
  generalize s.heap = H at hI ⊢
  unfold f_X6_add at h
  obtain ⟨locs, hlocs⟩ : ∃ x : List Loc, x = [] := ⟨_, rfl⟩
  rw [← hlocs] at hI ⊢
  refine lv_aload_n hx hb dX6_add_0 rfl (lv_at hl 0 rfl) ?_
  refine gt_X6_48 hx hb hts hown hKK hI e10 (lc44 hN) (kc44 hk0) dX6_add_1 ?_
  refine lv_sipush (v := 200) hx hb dX6_add_4 (by decide) ?_
  refine lv_icmp_lt (tgt := 12) hx hb dX6_add_7 (by decide) (fun hc => ?_) (fun hc => ?_)
  · replace h := ite_t hc h
    refine lv_aload_n hx hb dX6_add_12 rfl (lv_at hl 0 rfl) ?_
    refine gf_X6_11 hx hb hts hown hKK hI hN dX6_add_13 ?_
    refine lv_aload_n hx hb dX6_add_16 rfl (lv_at hl 0 rfl) ?_
    refine gt_X6_48 hx hb hts hown hKK hI e10 (lc44 hN) (kc44 hk0) dX6_add_17 ?_
    refine lv_aload_n hx hb dX6_add_20 rfl (lv_at hl 1 rfl) ?_
    obtain ⟨hin_, h⟩ := ck_e h
    obtain ⟨G10_21, qq, h⟩ := bn_e h
    refine sa_24 hx hb hKK hI e10 (lc45 hN) (kc45 hk0) ha_v1 hk_v1 hin_ (fun hT => hT.setT (nn rfl) (kc45 hk0) (K := 4) (fun q hq => absurd hq List.not_mem_nil) (by decide) (fun t q => by cases q; exact ⟨ha_v1, hk_v1⟩)) dX6_add_21 (fun σ H locs hI ew ho => ?_)
    have e10 := ew.trans qq.symm
    have e9 := (ho 9 (nn rfl)).trans e9
    have e13 := (ho 13 (nn rfl)).trans e13
    have fr := frs fr ho (by decide)
    refine lv_aload_n hx hb dX6_add_22 rfl (lv_at hl 0 rfl) ?_
    refine lv_dup hx hb dX6_add_23 rfl ?_
    refine gt_X6_48 hx hb hts hown hKK hI e10 (lc44 hN) (kc44 hk0) dX6_add_24 ?_
    refine lv_iconst (v := 1) hx hb dX6_add_27 (by decide) ?_
    refine lv_iadd hx hb dX6_add_28 ?_
    obtain ⟨G10_29, qq, h⟩ := bn_e h
    refine pt_X6_48 hx hb hts hown hKK hI e10 (lc44 hN) (kc44 hk0) dX6_add_29 (fun σ H locs hI ew ho => ?_)
    have e10 := ew.trans qq.symm
    have e9 := (ho 9 (nn rfl)).trans e9
    have e13 := (ho 13 (nn rfl)).trans e13
    have fr := frs fr ho (by decide)
    refine lv_aload_n hx hb dX6_add_32 rfl (lv_at hl 1 rfl) ?_
    refine gt_X6_52 hx hb hts hown hKK hI e13 ha_v1 hk_v1 dX6_add_33 ?_
    rcases om_e h with ⟨eo, h⟩ | ⟨t_33, eo, h⟩
    · refine topn eo ?_
      refine lv_dup hx hb dX6_add_36 rfl ?_
      cases h
    · refine topr eo ?_
      obtain ⟨ha_33, hk_33⟩ := typF hI ha_v1 hk_v1 0 rfl e13 eo
      refine lv_dup hx hb dX6_add_36 rfl ?_
      refine gt_X6_56 hx hb hts hown hKK hI e9 ha_33 hk_33 dX6_add_37 ?_
      refine lv_iconst (v := 1) hx hb dX6_add_40 (by decide) ?_
      refine lv_iadd hx hb dX6_add_41 ?_
      obtain ⟨G9_42, qq, h⟩ := bn_e h
      refine pt_X6_56 hx hb hts hown hKK hI e9 ha_33 hk_33 dX6_add_42 (fun σ H locs hI ew ho => ?_)
      have e9 := ew.trans qq.symm
      have e10 := (ho 10 (nn rfl)).trans e10
      have e13 := (ho 13 (nn rfl)).trans e13
      have fr := frs fr ho (by decide)
      refine lv_aload_n hx hb dX6_add_45 rfl (lv_at hl 0 rfl) ?_
      refine gt_X6_48 hx hb hts hown hKK hI e10 (lc44 hN) (kc44 hk0) dX6_add_46 ?_
      refine lv_iconst (v := 1) hx hb dX6_add_49 (by decide) ?_
      refine lv_isub hx hb dX6_add_50 ?_
      have hq := Option.some.inj h
      exact W.iret (v := ((G10_29.1 44 1) - 1)) hx hb hr (fun t ht hW => qc_mk (congrArg (fun z => Outcome.returned (some (Value.int z.1))) hq) (by rw [ht]; exact ⟨σ, hI.nil, e9.trans (congrArg (fun z => z.2.1) hq), e10.trans (congrArg (fun z => z.2.2) hq), fr⟩)) hI.2.2 dX6_add_51 hlocks
  · replace h := ite_f hc h
    refine lv_iconst (v := (-1)) hx hb dX6_add_10 (by decide) ?_
    have hq := Option.some.inj h
    exact W.iret (v := (-1)) hx hb hr (fun t ht hW => qc_mk (congrArg (fun z => Outcome.returned (some (Value.int z.1))) hq) (by rw [ht]; exact ⟨σ, hI.nil, e9.trans (congrArg (fun z => z.2.1) hq), e10.trans (congrArg (fun z => z.2.2) hq), fr⟩)) hI.2.2 dX6_add_11 hlocks
noncomputable def f_X6_letterAt_b24 (F : Nat)  (G10 : Grp) (s0 : Option Nat) : Option (Option Nat) :=
  some s0
noncomputable def f_X6_letterAt (F : Nat) (G10 : Grp) (v1 : Int32) : Option (Option Nat) :=
  ob (f_X11_within F v1 0 ((G10.1 44 1) - 1)) (fun q_8 => if q_8 = 0 then f_X6_letterAt_b24 F  G10 none else ck v1 200 (om (G10.2.2 45 v1.toNatClampNeg) (f_X6_letterAt_b24 F  G10 none) (fun t_19 => f_X6_letterAt_b24 F  G10 (some t_19))))
def RM_X6_letterAt : Room := { frames := 1, cells := 0, slots := 0, locals := 22 }
abbrev B_X6_letterAt (HB : Heap) (D : va_G) (y : Nat → ClassId) (n : Nat) (κ : Nat → Nat) (σ : St) (q : Option Nat) : Heap → Prop := fun H => (IV HB D y n n κ σ [] H) ∧ ∀ t : Nat, q = some t → t < n ∧ κ t = 4
set_option maxRecDepth 100000 in
set_option maxHeartbeats 4000000 in
theorem c_X6_letterAt (l : Launch) (HB : Heap) (D : va_G) (y : Nat → ClassId) (F n : Nat) (κ : Nat → Nat) (σ : St) (hN : N0 ≤ n) (v1 : Int32)  (G10 : Grp) (e10 : σ 10 = G10) (q : Option Nat) (h : f_X6_letterAt F G10 v1 = some q) : MT l HB D y yX6_letterAt cX6_letterAt 2 (some (.object "ChildLetters$Letter")) RM_X6_letterAt [.ref (HB.size + 44), .int v1] (IV HB D y n n κ σ []) (some (rfv HB.size q)) (B_X6_letterAt HB D y n κ σ q) := by
  refine Met.ofW (cc := cX6_letterAt) (maxL := 2) (ret := (some (.object "ChildLetters$Letter"))) (by decide) rfl ?_
  intro p e s m args below meth c s₁ BL hml hv
  obtain ⟨rfl, hI, hKK⟩ := hv
  have hx := BL.exec
  have hb := BL.bytes
  have hr := BL.returns
  have hts : ∀ w ∈ gtb, w.before _ s = true := fun w hw => atoms_spec BL.pre w (List.mem_cons_of_mem _ hw)
  have hml : c.maxLocals = 2 := hml
  have hown : s.vm.findClass RX6 = some m.cls := findClass_of_methodNamed BL.named
  have hlocks := BL.notSynchronized
  have hk0 := hI.1.2.2.2.2
  have hl := lv_entry ([.ref (HB.size + 44), .int v1]) (n := 2) (Nat.le_of_ble_eq_true rfl)
  rw [lg_entry_eq]
  generalize (lg_sl ([.ref (HB.size + 44), .int v1]) ++ List.replicate (2 - (lg_sl ([.ref (HB.size + 44), .int v1])).length) Slot.unset).toArray = ls at hl ⊢
  have hl : lv_has ls 2 [(0, .ref (HB.size + 44)), (1, .int v1)] := hl
  generalize hargs : ([.ref (HB.size + 44), .int v1] : List Value).toArray = args at *
  have b24 : ∀ (H : Heap) (locs : List Loc) (ls : Array Slot) (G10 : Grp) (s0 : Option Nat) (hf_s0 : ∀ t : Nat, s0 = some t → t < n ∧ κ t = 4), IV HB D y n n κ σ locs H → σ 10 = G10 → lv_has ls 2 [] → f_X6_letterAt_b24 F  G10 s0 = some q → WX RM_X6_letterAt p l e s m args below meth c HB (some (rfv HB.size q)) (B_X6_letterAt HB D y n κ σ q) H locs (F0 m 24 ls [rfv HB.size s0]) := by
    intro  H locs ls G10 s0 hf_s0 hI e10 hl h
    unfold f_X6_letterAt_b24 at h
    have hq := Option.some.inj h
    exact W.aret (v := rfv HB.size s0) hx hb hr (Or.inl ⟨_, rfl⟩) (rfv_or _ _) (fun t ht hW => qc_mk (congrArg (fun z => Outcome.returned (some (rfv HB.size z))) hq) (by rw [ht]; exact ⟨hI.nil, (fun t q => hf_s0 t (hq.trans q))⟩)) hI.2.2 dX6_letterAt_24 hlocks
  show WX RM_X6_letterAt p l e s m args below meth c HB (some (rfv HB.size q)) (B_X6_letterAt HB D y n κ σ q) s.heap [] (F0 m 0 ls [])
  generalize s.heap = H at hI ⊢
  unfold f_X6_letterAt at h
  obtain ⟨locs, hlocs⟩ : ∃ x : List Loc, x = [] := ⟨_, rfl⟩
  rw [← hlocs] at hI ⊢
  refine lv_iload_n hx hb dX6_letterAt_0 rfl (lv_at hl 1 rfl) ?_
  refine lv_iconst (v := 0) hx hb dX6_letterAt_1 (by decide) ?_
  refine lv_aload_n hx hb dX6_letterAt_2 rfl (lv_at hl 0 rfl) ?_
  refine gt_X6_48 hx hb hts hown hKK hI e10 (lc44 hN) (kc44 hk0) dX6_letterAt_3 ?_
  refine lv_iconst (v := 1) hx hb dX6_letterAt_6 (by decide) ?_
  refine lv_isub hx hb dX6_letterAt_7 ?_
  obtain ⟨q_8, hq_8, h⟩ := ob_e h
  refine r_callSN (As := [.int v1, .int 0, .int ((G10.1 44 1) - 1)]) (rest := []) hx hb hml hts hown (c_X11_within l HB D y F n κ σ hN v1 0 ((G10.1 44 1) - 1)  q_8 hq_8) cal_X11_within st_X11_within (hKK.2.1 _ (List.mem_of_getElem? (i := 15) rfl)) ⟨Nat.le_of_ble_eq_true rfl, Nat.le_of_ble_eq_true rfl⟩ hI.nil hKK rfl hl.1 hI.2.2 rfl (Nat.le_of_ble_eq_true rfl) dX6_letterAt_8 ⟨Nat.le_of_ble_eq_true rfl, Nat.le_of_ble_eq_true rfl⟩ rfl rfl rfl (fun H locs hB hlo => ?_)
  have hI := hB.re hlo
  refine lv_if_eq (tgt := 23) hx hb dX6_letterAt_11 (by decide) (fun hc => ?_) (fun hc => ?_)
  · replace h := ite_t hc h
    refine lv_null hx hb dX6_letterAt_23 ?_
    exact b24  H locs ls G10 none (fun _ q => by cases q) hI e10 (lv_sub hl [] rfl) h
  · replace h := ite_f hc h
    refine lv_aload_n hx hb dX6_letterAt_14 rfl (lv_at hl 0 rfl) ?_
    refine gf_X6_11 hx hb hts hown hKK hI hN dX6_letterAt_15 ?_
    refine lv_iload_n hx hb dX6_letterAt_18 rfl (lv_at hl 1 rfl) ?_
    obtain ⟨hin_, h⟩ := ck_e h
    refine la_24 hx hb hKK hI e10 (lc45 hN) (kc45 hk0) hin_ dX6_letterAt_19 ?_
    rcases om_e h with ⟨eo, h⟩ | ⟨t_19, eo, h⟩
    · refine topn eo ?_
      refine lv_goto (tgt := 24) hx hb dX6_letterAt_20 (by decide) ?_
      exact b24  H locs ls G10 none (fun _ q => by cases q) hI e10 (lv_sub hl [] rfl) h
    · refine topr eo ?_
      obtain ⟨ha_19, hk_19⟩ := tarF hI (lc45 hN) (kc45 hk0) 0 rfl e10 eo
      refine lv_goto (tgt := 24) hx hb dX6_letterAt_20 (by decide) ?_
      exact b24  H locs ls G10 (some t_19) (fun _ q => by cases q; exact ⟨ha_19, hk_19⟩) hI e10 (lv_sub hl [] rfl) h
noncomputable def f_X6_inState_l4b (F : Nat)  (k4 : Grp → Grp → Int32 → Int32 → Int32 → Option (Int32)) (G10 : Grp) (G13 : Grp) (v1 : Int32) (v2 : Int32) (v3 : Int32) : Option (Int32) :=
  if (G10.1 44 1) ≤ v3 then some v2 else ck v3 200 (om (G10.2.2 45 v3.toNatClampNeg) (none) (fun t_18 => if (G13.1 t_18 8) = v1 then bn ((v2 + 1)) (fun v2_32 => bn (v3 + 1) (fun v3_33 => k4 G10 G13 v1 v2_32 v3_33)) else bn ((v2 + 0)) (fun v2_32 => bn (v3 + 1) (fun v3_33 => k4 G10 G13 v1 v2_32 v3_33))))
noncomputable def f_X6_inState_l4 (F : Nat)  (fu : Nat) : Grp → Grp → Int32 → Int32 → Int32 → Option (Int32) := Nat.rec (motive := fun _ => Grp → Grp → Int32 → Int32 → Int32 → Option (Int32)) (fun _ _ _ _ _ => none) (fun _ ih => f_X6_inState_l4b F  ih) fu
noncomputable def f_X6_inState (F : Nat) (G10 : Grp) (G13 : Grp) (v1 : Int32) : Option (Int32) :=
  f_X6_inState_l4 F  F G10 G13 v1 0 0
def RM_X6_inState : Room := { frames := 0, cells := 0, slots := 0, locals := 0 }
abbrev B_X6_inState (HB : Heap) (D : va_G) (y : Nat → ClassId) (n : Nat) (κ : Nat → Nat) (σ : St) (q : Int32) : Heap → Prop := fun H => IV HB D y n n κ σ [] H
set_option maxRecDepth 100000 in
set_option maxHeartbeats 4000000 in
theorem c_X6_inState (l : Launch) (HB : Heap) (D : va_G) (y : Nat → ClassId) (F n : Nat) (κ : Nat → Nat) (σ : St) (hN : N0 ≤ n) (v1 : Int32)  (G10 : Grp) (e10 : σ 10 = G10) (G13 : Grp) (e13 : σ 13 = G13) (q : Int32) (h : f_X6_inState F G10 G13 v1 = some q) : MT l HB D y yX6_inState cX6_inState 4 (some .int) RM_X6_inState [.ref (HB.size + 44), .int v1] (IV HB D y n n κ σ []) (some (.int q)) (B_X6_inState HB D y n κ σ q) := by
  refine Met.ofW (cc := cX6_inState) (maxL := 4) (ret := (some .int)) (by decide) rfl ?_
  intro p e s m args below meth c s₁ BL hml hv
  obtain ⟨rfl, hI, hKK⟩ := hv
  have hx := BL.exec
  have hb := BL.bytes
  have hr := BL.returns
  have hts : ∀ w ∈ gtb, w.before _ s = true := fun w hw => atoms_spec BL.pre w (List.mem_cons_of_mem _ hw)
  have hml : c.maxLocals = 4 := hml
  have hown : s.vm.findClass RX6 = some m.cls := findClass_of_methodNamed BL.named
  have hlocks := BL.notSynchronized
  have hk0 := hI.1.2.2.2.2
  have hl := lv_entry ([.ref (HB.size + 44), .int v1]) (n := 4) (Nat.le_of_ble_eq_true rfl)
  rw [lg_entry_eq]
  generalize (lg_sl ([.ref (HB.size + 44), .int v1]) ++ List.replicate (4 - (lg_sl ([.ref (HB.size + 44), .int v1])).length) Slot.unset).toArray = ls at hl ⊢
  have hl : lv_has ls 4 [(0, .ref (HB.size + 44)), (1, .int v1)] := hl
  generalize hargs : ([.ref (HB.size + 44), .int v1] : List Value).toArray = args at *
  have b4 : ∀ (fu : Nat) (H : Heap) (locs : List Loc) (ls : Array Slot) (G10 : Grp) (G13 : Grp) (v1 : Int32) (v2 : Int32) (v3 : Int32) , IV HB D y n n κ σ locs H → σ 10 = G10 → σ 13 = G13 → lv_has ls 4 [(0, .ref (HB.size + 44)), (1, .int v1), (2, .int v2), (3, .int v3)] → f_X6_inState_l4 F  fu G10 G13 v1 v2 v3 = some q → WX RM_X6_inState p l e s m args below meth c HB (some (.int q)) (B_X6_inState HB D y n κ σ q) H locs (F0 m 4 ls []) := by
    intro  fu
    induction fu with
    | zero =>
      intro H locs ls G10 G13 v1 v2 v3 hI e10 e13 hl h
      exact absurd h (by intro h; cases h)
    | succ fu hk4 =>
      intro H locs ls G10 G13 v1 v2 v3 hI e10 e13 hl h
      have h : f_X6_inState_l4b F  (f_X6_inState_l4 F  fu) G10 G13 v1 v2 v3 = some q := h
      generalize f_X6_inState_l4 F  fu = k4 at h hk4
      unfold f_X6_inState_l4b at h
      refine lv_iload_n hx hb dX6_inState_4 rfl (lv_at hl 3 rfl) ?_
      refine lv_aload_n hx hb dX6_inState_5 rfl (lv_at hl 0 rfl) ?_
      refine gt_X6_48 hx hb hts hown hKK hI e10 (lc44 hN) (kc44 hk0) dX6_inState_6 ?_
      refine lv_icmp_ge (tgt := 39) hx hb dX6_inState_9 (by decide) (fun hc => ?_) (fun hc => ?_)
      · replace h := ite_t hc h
        refine lv_iload_n hx hb dX6_inState_39 rfl (lv_at hl 2 rfl) ?_
        have hq := Option.some.inj h
        exact W.iret (v := v2) hx hb hr (fun t ht hW => qc_mk (congrArg (fun z => Outcome.returned (some (Value.int z))) hq) (by rw [ht]; exact hI.nil)) hI.2.2 dX6_inState_40 hlocks
      · replace h := ite_f hc h
        refine lv_iload_n hx hb dX6_inState_12 rfl (lv_at hl 2 rfl) ?_
        refine lv_aload_n hx hb dX6_inState_13 rfl (lv_at hl 0 rfl) ?_
        refine gf_X6_11 hx hb hts hown hKK hI hN dX6_inState_14 ?_
        refine lv_iload_n hx hb dX6_inState_17 rfl (lv_at hl 3 rfl) ?_
        obtain ⟨hin_, h⟩ := ck_e h
        refine la_24 hx hb hKK hI e10 (lc45 hN) (kc45 hk0) hin_ dX6_inState_18 ?_
        rcases om_e h with ⟨eo, h⟩ | ⟨t_18, eo, h⟩
        · cases h
        · refine topr eo ?_
          obtain ⟨ha_18, hk_18⟩ := tarF hI (lc45 hN) (kc45 hk0) 0 rfl e10 eo
          refine gt_X6_64 hx hb hts hown hKK hI e13 ha_18 hk_18 dX6_inState_19 ?_
          refine lv_iload_n hx hb dX6_inState_22 rfl (lv_at hl 1 rfl) ?_
          refine lv_icmp_ne (tgt := 30) hx hb dX6_inState_23 (by decide) (fun hc => ?_) (fun hc => ?_)
          · replace h := ite_f hc h
            refine lv_iconst (v := 0) hx hb dX6_inState_30 (by decide) ?_
            refine lv_iadd hx hb dX6_inState_31 ?_
            obtain ⟨v2_32, qq, h⟩ := bn_e h
            refine topi qq ?_
            refine lv_istore_n (lv' := [(2, .int v2_32), (0, .ref (HB.size + 44)), (1, .int v1), (3, .int v3)]) hx hb dX6_inState_32 rfl hl (by decide) rfl (fun ls hl => ?_)
            obtain ⟨v3_33, qq, h⟩ := bn_e h
            refine lv_iinc (v := v3_33) (lv' := [(3, .int v3_33), (2, .int v2_32), (0, .ref (HB.size + 44)), (1, .int v1)]) hx hb dX6_inState_33 hl (k := 3) rfl (by rw [qq]; rfl) (by decide) rfl (fun ls hl => ?_)
            refine lv_goto (tgt := 4) hx hb dX6_inState_36 (by decide) ?_
            exact hk4 H locs ls G10 G13 v1 v2_32 v3_33  hI e10 e13 (lv_sub hl [2, 3, 1, 0] rfl) h
          · replace h := ite_t hc h
            refine lv_iconst (v := 1) hx hb dX6_inState_26 (by decide) ?_
            refine lv_goto (tgt := 31) hx hb dX6_inState_27 (by decide) ?_
            refine lv_iadd hx hb dX6_inState_31 ?_
            obtain ⟨v2_32, qq, h⟩ := bn_e h
            refine topi qq ?_
            refine lv_istore_n (lv' := [(2, .int v2_32), (0, .ref (HB.size + 44)), (1, .int v1), (3, .int v3)]) hx hb dX6_inState_32 rfl hl (by decide) rfl (fun ls hl => ?_)
            obtain ⟨v3_33, qq, h⟩ := bn_e h
            refine lv_iinc (v := v3_33) (lv' := [(3, .int v3_33), (2, .int v2_32), (0, .ref (HB.size + 44)), (1, .int v1)]) hx hb dX6_inState_33 hl (k := 3) rfl (by rw [qq]; rfl) (by decide) rfl (fun ls hl => ?_)
            refine lv_goto (tgt := 4) hx hb dX6_inState_36 (by decide) ?_
            exact hk4 H locs ls G10 G13 v1 v2_32 v3_33  hI e10 e13 (lv_sub hl [2, 3, 1, 0] rfl) h
  show WX RM_X6_inState p l e s m args below meth c HB (some (.int q)) (B_X6_inState HB D y n κ σ q) s.heap [] (F0 m 0 ls [])
  generalize s.heap = H at hI ⊢
  unfold f_X6_inState at h
  obtain ⟨locs, hlocs⟩ : ∃ x : List Loc, x = [] := ⟨_, rfl⟩
  rw [← hlocs] at hI ⊢
  refine lv_iconst (v := 0) hx hb dX6_inState_0 (by decide) ?_
  refine lv_istore_n (lv' := [(2, .int 0), (0, .ref (HB.size + 44)), (1, .int v1)]) hx hb dX6_inState_1 rfl hl (by decide) rfl (fun ls hl => ?_)
  refine lv_iconst (v := 0) hx hb dX6_inState_2 (by decide) ?_
  refine lv_istore_n (lv' := [(3, .int 0), (2, .int 0), (0, .ref (HB.size + 44)), (1, .int v1)]) hx hb dX6_inState_3 rfl hl (by decide) rfl (fun ls hl => ?_)
  exact b4  F H locs ls G10 G13 v1 0 0  hI e10 e13 (lv_sub hl [2, 3, 1, 0] rfl) h
noncomputable def f_X6_lagIn_l4b (F : Nat)  (k4 : Grp → Grp → Int32 → Int32 → Int32 → Option (Int32)) (G10 : Grp) (G15 : Grp) (v1 : Int32) (v2 : Int32) (v3 : Int32) : Option (Int32) :=
  if (G10.1 44 1) ≤ v3 then some v2 else ck v3 200 (om (G10.2.2 45 v3.toNatClampNeg) (none) (fun t_18 => ck v1 6 (bn ((v2 + (G15.1 (t_18 + 2) v1.toNatClampNeg))) (fun v2_25 => bn (v3 + 1) (fun v3_26 => k4 G10 G15 v1 v2_25 v3_26)))))
noncomputable def f_X6_lagIn_l4 (F : Nat)  (fu : Nat) : Grp → Grp → Int32 → Int32 → Int32 → Option (Int32) := Nat.rec (motive := fun _ => Grp → Grp → Int32 → Int32 → Int32 → Option (Int32)) (fun _ _ _ _ _ => none) (fun _ ih => f_X6_lagIn_l4b F  ih) fu
noncomputable def f_X6_lagIn (F : Nat) (G10 : Grp) (G15 : Grp) (v1 : Int32) : Option (Int32) :=
  f_X6_lagIn_l4 F  F G10 G15 v1 0 0
def RM_X6_lagIn : Room := { frames := 0, cells := 0, slots := 0, locals := 0 }
abbrev B_X6_lagIn (HB : Heap) (D : va_G) (y : Nat → ClassId) (n : Nat) (κ : Nat → Nat) (σ : St) (q : Int32) : Heap → Prop := fun H => IV HB D y n n κ σ [] H
set_option maxRecDepth 100000 in
set_option maxHeartbeats 4000000 in
theorem c_X6_lagIn (l : Launch) (HB : Heap) (D : va_G) (y : Nat → ClassId) (F n : Nat) (κ : Nat → Nat) (σ : St) (hN : N0 ≤ n) (v1 : Int32)  (G10 : Grp) (e10 : σ 10 = G10) (G15 : Grp) (e15 : σ 15 = G15) (q : Int32) (h : f_X6_lagIn F G10 G15 v1 = some q) : MT l HB D y yX6_lagIn cX6_lagIn 4 (some .int) RM_X6_lagIn [.ref (HB.size + 44), .int v1] (IV HB D y n n κ σ []) (some (.int q)) (B_X6_lagIn HB D y n κ σ q) := by
  refine Met.ofW (cc := cX6_lagIn) (maxL := 4) (ret := (some .int)) (by decide) rfl ?_
  intro p e s m args below meth c s₁ BL hml hv
  obtain ⟨rfl, hI, hKK⟩ := hv
  have hx := BL.exec
  have hb := BL.bytes
  have hr := BL.returns
  have hts : ∀ w ∈ gtb, w.before _ s = true := fun w hw => atoms_spec BL.pre w (List.mem_cons_of_mem _ hw)
  have hml : c.maxLocals = 4 := hml
  have hown : s.vm.findClass RX6 = some m.cls := findClass_of_methodNamed BL.named
  have hlocks := BL.notSynchronized
  have hk0 := hI.1.2.2.2.2
  have hl := lv_entry ([.ref (HB.size + 44), .int v1]) (n := 4) (Nat.le_of_ble_eq_true rfl)
  rw [lg_entry_eq]
  generalize (lg_sl ([.ref (HB.size + 44), .int v1]) ++ List.replicate (4 - (lg_sl ([.ref (HB.size + 44), .int v1])).length) Slot.unset).toArray = ls at hl ⊢
  have hl : lv_has ls 4 [(0, .ref (HB.size + 44)), (1, .int v1)] := hl
  generalize hargs : ([.ref (HB.size + 44), .int v1] : List Value).toArray = args at *
  have b4 : ∀ (fu : Nat) (H : Heap) (locs : List Loc) (ls : Array Slot) (G10 : Grp) (G15 : Grp) (v1 : Int32) (v2 : Int32) (v3 : Int32) , IV HB D y n n κ σ locs H → σ 10 = G10 → σ 15 = G15 → lv_has ls 4 [(0, .ref (HB.size + 44)), (1, .int v1), (2, .int v2), (3, .int v3)] → f_X6_lagIn_l4 F  fu G10 G15 v1 v2 v3 = some q → WX RM_X6_lagIn p l e s m args below meth c HB (some (.int q)) (B_X6_lagIn HB D y n κ σ q) H locs (F0 m 4 ls []) := by
    intro  fu
    induction fu with
    | zero =>
      intro H locs ls G10 G15 v1 v2 v3 hI e10 e15 hl h
      exact absurd h (by intro h; cases h)
    | succ fu hk4 =>
      intro H locs ls G10 G15 v1 v2 v3 hI e10 e15 hl h
      have h : f_X6_lagIn_l4b F  (f_X6_lagIn_l4 F  fu) G10 G15 v1 v2 v3 = some q := h
      generalize f_X6_lagIn_l4 F  fu = k4 at h hk4
      unfold f_X6_lagIn_l4b at h
      refine lv_iload_n hx hb dX6_lagIn_4 rfl (lv_at hl 3 rfl) ?_
      refine lv_aload_n hx hb dX6_lagIn_5 rfl (lv_at hl 0 rfl) ?_
      refine gt_X6_48 hx hb hts hown hKK hI e10 (lc44 hN) (kc44 hk0) dX6_lagIn_6 ?_
      refine lv_icmp_ge (tgt := 32) hx hb dX6_lagIn_9 (by decide) (fun hc => ?_) (fun hc => ?_)
      · replace h := ite_t hc h
        refine lv_iload_n hx hb dX6_lagIn_32 rfl (lv_at hl 2 rfl) ?_
        have hq := Option.some.inj h
        exact W.iret (v := v2) hx hb hr (fun t ht hW => qc_mk (congrArg (fun z => Outcome.returned (some (Value.int z))) hq) (by rw [ht]; exact hI.nil)) hI.2.2 dX6_lagIn_33 hlocks
      · replace h := ite_f hc h
        refine lv_iload_n hx hb dX6_lagIn_12 rfl (lv_at hl 2 rfl) ?_
        refine lv_aload_n hx hb dX6_lagIn_13 rfl (lv_at hl 0 rfl) ?_
        refine gf_X6_11 hx hb hts hown hKK hI hN dX6_lagIn_14 ?_
        refine lv_iload_n hx hb dX6_lagIn_17 rfl (lv_at hl 3 rfl) ?_
        obtain ⟨hin_, h⟩ := ck_e h
        refine la_24 hx hb hKK hI e10 (lc45 hN) (kc45 hk0) hin_ dX6_lagIn_18 ?_
        rcases om_e h with ⟨eo, h⟩ | ⟨t_18, eo, h⟩
        · cases h
        · refine topr eo ?_
          obtain ⟨ha_18, hk_18⟩ := tarF hI (lc45 hN) (kc45 hk0) 0 rfl e10 eo
          refine gf_X6_67 hx hb hts hown hKK hI ha_18 hk_18 dX6_lagIn_19 ?_
          refine lv_iload_n hx hb dX6_lagIn_22 rfl (lv_at hl 1 rfl) ?_
          obtain ⟨hin_, h⟩ := ck_e h
          refine la_78 hx hb hKK hI e15 (ownF hI ha_18 hk_18 2 rfl).2.1 (ownF hI ha_18 hk_18 2 rfl).2.2 hin_ dX6_lagIn_23 ?_
          refine lv_iadd hx hb dX6_lagIn_24 ?_
          obtain ⟨v2_25, qq, h⟩ := bn_e h
          refine topi qq ?_
          refine lv_istore_n (lv' := [(2, .int v2_25), (0, .ref (HB.size + 44)), (1, .int v1), (3, .int v3)]) hx hb dX6_lagIn_25 rfl hl (by decide) rfl (fun ls hl => ?_)
          obtain ⟨v3_26, qq, h⟩ := bn_e h
          refine lv_iinc (v := v3_26) (lv' := [(3, .int v3_26), (2, .int v2_25), (0, .ref (HB.size + 44)), (1, .int v1)]) hx hb dX6_lagIn_26 hl (k := 3) rfl (by rw [qq]; rfl) (by decide) rfl (fun ls hl => ?_)
          refine lv_goto (tgt := 4) hx hb dX6_lagIn_29 (by decide) ?_
          exact hk4 H locs ls G10 G15 v1 v2_25 v3_26  hI e10 e15 (lv_sub hl [2, 3, 1, 0] rfl) h
  show WX RM_X6_lagIn p l e s m args below meth c HB (some (.int q)) (B_X6_lagIn HB D y n κ σ q) s.heap [] (F0 m 0 ls [])
  generalize s.heap = H at hI ⊢
  unfold f_X6_lagIn at h
  obtain ⟨locs, hlocs⟩ : ∃ x : List Loc, x = [] := ⟨_, rfl⟩
  rw [← hlocs] at hI ⊢
  refine lv_iconst (v := 0) hx hb dX6_lagIn_0 (by decide) ?_
  refine lv_istore_n (lv' := [(2, .int 0), (0, .ref (HB.size + 44)), (1, .int v1)]) hx hb dX6_lagIn_1 rfl hl (by decide) rfl (fun ls hl => ?_)
  refine lv_iconst (v := 0) hx hb dX6_lagIn_2 (by decide) ?_
  refine lv_istore_n (lv' := [(3, .int 0), (2, .int 0), (0, .ref (HB.size + 44)), (1, .int v1)]) hx hb dX6_lagIn_3 rfl hl (by decide) rfl (fun ls hl => ?_)
  exact b4  F H locs ls G10 G15 v1 0 0  hI e10 e15 (lv_sub hl [2, 3, 1, 0] rfl) h
noncomputable def f_X6_firstIn_b107 (F : Nat) (k16 : Grp → Grp → Int32 → Option Nat → Option Nat → Int32 → Int32 → Option (Option Nat)) (G10 : Grp) (G13 : Grp) (v1 : Int32) (v2 : Option Nat) (v3 : Option Nat) (v4 : Int32) (v5 : Int32) (v6 : Nat) : Option (Option Nat) :=
  if v4 = 0 then om v2 (bn (v5 + 1) (fun v5_125 => k16 G10 G13 v1 none v3 0 v5_125)) (fun t_114 => if v6 = t_114 then bn (v5 + 1) (fun v5_125 => k16 G10 G13 v1 (some t_114) v3 1 v5_125) else bn (v5 + 1) (fun v5_125 => k16 G10 G13 v1 (some t_114) v3 0 v5_125)) else bn (v5 + 1) (fun v5_125 => k16 G10 G13 v1 v2 v3 1 v5_125)
noncomputable def f_X6_firstIn_b104 (F : Nat) (k16 : Grp → Grp → Int32 → Option Nat → Option Nat → Int32 → Int32 → Option (Option Nat)) (G10 : Grp) (G13 : Grp) (v1 : Int32) (v2 : Option Nat) (v4 : Int32) (v5 : Int32) (v6 : Nat) : Option (Option Nat) :=
  f_X6_firstIn_b107 F k16 G10 G13 v1 v2 (some v6) v4 v5 v6
noncomputable def f_X6_firstIn_b81 (F : Nat) (k16 : Grp → Grp → Int32 → Option Nat → Option Nat → Int32 → Int32 → Option (Option Nat)) (G10 : Grp) (G13 : Grp) (v1 : Int32) (v2 : Option Nat) (v3 : Option Nat) (v4 : Int32) (v5 : Int32) (v6 : Nat) (s0 : Int32) : Option (Option Nat) :=
  if s0 = 0 then f_X6_firstIn_b107 F k16 G10 G13 v1 v2 v3 v4 v5 v6 else om v3 (f_X6_firstIn_b104 F k16 G10 G13 v1 v2 v4 v5 v6) (fun t_88 => if (G13.1 t_88 9) ≤ (G13.1 v6 9) then f_X6_firstIn_b107 F k16 G10 G13 v1 v2 (some t_88) v4 v5 v6 else f_X6_firstIn_b104 F k16 G10 G13 v1 v2 v4 v5 v6)
noncomputable def f_X6_firstIn_b76 (F : Nat) (k16 : Grp → Grp → Int32 → Option Nat → Option Nat → Int32 → Int32 → Option (Option Nat)) (G10 : Grp) (G13 : Grp) (v1 : Int32) (v2 : Option Nat) (v3 : Option Nat) (v4 : Int32) (v5 : Int32) (v6 : Nat) : Option (Option Nat) :=
  f_X6_firstIn_b81 F k16 G10 G13 v1 v2 v3 v4 v5 v6 1
noncomputable def f_X6_firstIn_b80 (F : Nat) (k16 : Grp → Grp → Int32 → Option Nat → Option Nat → Int32 → Int32 → Option (Option Nat)) (G10 : Grp) (G13 : Grp) (v1 : Int32) (v2 : Option Nat) (v3 : Option Nat) (v4 : Int32) (v5 : Int32) (v6 : Nat) : Option (Option Nat) :=
  f_X6_firstIn_b81 F k16 G10 G13 v1 v2 v3 v4 v5 v6 0
noncomputable def f_X6_firstIn_l16b (F : Nat)  (k16 : Grp → Grp → Int32 → Option Nat → Option Nat → Int32 → Int32 → Option (Option Nat)) (G10 : Grp) (G13 : Grp) (v1 : Int32) (v2 : Option Nat) (v3 : Option Nat) (v4 : Int32) (v5 : Int32) : Option (Option Nat) :=
  if (G10.1 44 1) ≤ v5 then om v3 (some none) (fun t_131 => some (some t_131)) else ck v5 200 (om (G10.2.2 45 v5.toNatClampNeg) (none) (fun t_31 => if (G13.1 t_31 8) = v1 then om v2 (f_X6_firstIn_b76 F k16 G10 G13 v1 none v3 v4 v5 t_31) (fun t_43 => if (G13.1 t_43 9) < (G13.1 t_31 9) then f_X6_firstIn_b76 F k16 G10 G13 v1 (some t_43) v3 v4 v5 t_31 else if v4 = 0 then f_X6_firstIn_b80 F k16 G10 G13 v1 (some t_43) v3 v4 v5 t_31 else if (G13.1 t_31 9) = (G13.1 t_43 9) then f_X6_firstIn_b76 F k16 G10 G13 v1 (some t_43) v3 v4 v5 t_31 else f_X6_firstIn_b80 F k16 G10 G13 v1 (some t_43) v3 v4 v5 t_31) else f_X6_firstIn_b80 F k16 G10 G13 v1 v2 v3 v4 v5 t_31))
noncomputable def f_X6_firstIn_l16 (F : Nat)  (fu : Nat) : Grp → Grp → Int32 → Option Nat → Option Nat → Int32 → Int32 → Option (Option Nat) := Nat.rec (motive := fun _ => Grp → Grp → Int32 → Option Nat → Option Nat → Int32 → Int32 → Option (Option Nat)) (fun _ _ _ _ _ _ _ => none) (fun _ ih => f_X6_firstIn_l16b F  ih) fu
noncomputable def f_X6_firstIn (F : Nat) (G10 : Grp) (G13 : Grp) (v1 : Int32) (v2 : Option Nat) : Option (Option Nat) :=
  om v2 (f_X6_firstIn_l16 F  F G10 G13 v1 none none 1 0) (fun t_2 => f_X6_firstIn_l16 F  F G10 G13 v1 (some t_2) none 0 0)
def RM_X6_firstIn : Room := { frames := 0, cells := 0, slots := 0, locals := 0 }
abbrev B_X6_firstIn (HB : Heap) (D : va_G) (y : Nat → ClassId) (n : Nat) (κ : Nat → Nat) (σ : St) (q : Option Nat) : Heap → Prop := fun H => (IV HB D y n n κ σ [] H) ∧ ∀ t : Nat, q = some t → t < n ∧ κ t = 4
set_option maxRecDepth 100000 in
set_option maxHeartbeats 4000000 in
theorem c_X6_firstIn (l : Launch) (HB : Heap) (D : va_G) (y : Nat → ClassId) (F n : Nat) (κ : Nat → Nat) (σ : St) (hN : N0 ≤ n) (v1 : Int32)  (v2 : Option Nat) (hf_v2 : ∀ t : Nat, v2 = some t → t < n ∧ κ t = 4) (G10 : Grp) (e10 : σ 10 = G10) (G13 : Grp) (e13 : σ 13 = G13) (q : Option Nat) (h : f_X6_firstIn F G10 G13 v1 v2 = some q) : MT l HB D y yX6_firstIn cX6_firstIn 8 (some (.object "ChildLetters$Letter")) RM_X6_firstIn [.ref (HB.size + 44), .int v1, rfv HB.size v2] (IV HB D y n n κ σ []) (some (rfv HB.size q)) (B_X6_firstIn HB D y n κ σ q) := by
  refine Met.ofW (cc := cX6_firstIn) (maxL := 8) (ret := (some (.object "ChildLetters$Letter"))) (by decide) rfl ?_
  intro p e s m args below meth c s₁ BL hml hv
  obtain ⟨rfl, hI, hKK⟩ := hv
  have hx := BL.exec
  have hb := BL.bytes
  have hr := BL.returns
  have hts : ∀ w ∈ gtb, w.before _ s = true := fun w hw => atoms_spec BL.pre w (List.mem_cons_of_mem _ hw)
  have hml : c.maxLocals = 8 := hml
  have hown : s.vm.findClass RX6 = some m.cls := findClass_of_methodNamed BL.named
  have hlocks := BL.notSynchronized
  have hk0 := hI.1.2.2.2.2
  have hl := lv_entry ([.ref (HB.size + 44), .int v1, rfv HB.size v2]) (n := 8) (by cases v2 <;> exact Nat.le_of_ble_eq_true rfl)
  rw [lg_entry_eq]
  generalize (lg_sl ([.ref (HB.size + 44), .int v1, rfv HB.size v2]) ++ List.replicate (8 - (lg_sl ([.ref (HB.size + 44), .int v1, rfv HB.size v2])).length) Slot.unset).toArray = ls at hl ⊢
  have hl : lv_has ls 8 [(0, .ref (HB.size + 44)), (1, .int v1), (2, rfv HB.size v2)] := by cases v2 <;> exact hl
  generalize hargs : ([.ref (HB.size + 44), .int v1, rfv HB.size v2] : List Value).toArray = args at *
  have b107 : ∀ (k16 : Grp → Grp → Int32 → Option Nat → Option Nat → Int32 → Int32 → Option (Option Nat)) (hk16 : ∀ (H : Heap) (locs : List Loc) (ls : Array Slot) (G10 : Grp) (G13 : Grp) (v1 : Int32) (v2 : Option Nat) (v3 : Option Nat) (v4 : Int32) (v5 : Int32) (hf_v2 : ∀ t : Nat, v2 = some t → t < n ∧ κ t = 4) (hf_v3 : ∀ t : Nat, v3 = some t → t < n ∧ κ t = 4), IV HB D y n n κ σ locs H → σ 10 = G10 → σ 13 = G13 → lv_has ls 8 [(0, .ref (HB.size + 44)), (1, .int v1), (2, rfv HB.size v2), (3, rfv HB.size v3), (4, .int v4), (5, .int v5)] → k16 G10 G13 v1 v2 v3 v4 v5 = some q → WX RM_X6_firstIn p l e s m args below meth c HB (some (rfv HB.size q)) (B_X6_firstIn HB D y n κ σ q) H locs (F0 m 16 ls [])) (H : Heap) (locs : List Loc) (ls : Array Slot) (G10 : Grp) (G13 : Grp) (v1 : Int32) (v2 : Option Nat) (v3 : Option Nat) (v4 : Int32) (v5 : Int32) (v6 : Nat) (hf_v2 : ∀ t : Nat, v2 = some t → t < n ∧ κ t = 4) (hf_v3 : ∀ t : Nat, v3 = some t → t < n ∧ κ t = 4) (ha_v6 : v6 < n) (hk_v6 : κ v6 = 4), IV HB D y n n κ σ locs H → σ 10 = G10 → σ 13 = G13 → lv_has ls 8 [(0, .ref (HB.size + 44)), (1, .int v1), (2, rfv HB.size v2), (3, rfv HB.size v3), (4, .int v4), (5, .int v5), (6, .ref (HB.size + v6))] → f_X6_firstIn_b107 F k16 G10 G13 v1 v2 v3 v4 v5 v6 = some q → WX RM_X6_firstIn p l e s m args below meth c HB (some (rfv HB.size q)) (B_X6_firstIn HB D y n κ σ q) H locs (F0 m 107 ls []) := by
    intro k16 hk16 H locs ls G10 G13 v1 v2 v3 v4 v5 v6 hf_v2 hf_v3 ha_v6 hk_v6 hI e10 e13 hl h
    unfold f_X6_firstIn_b107 at h
    refine lv_iload hx hb dX6_firstIn_107 (lv_at hl 4 rfl) ?_
    refine lv_if_ne (tgt := 118) hx hb dX6_firstIn_109 (by decide) (fun hc => ?_) (fun hc => ?_)
    · replace h := ite_f hc h
      refine lv_iconst (v := 1) hx hb dX6_firstIn_118 (by decide) ?_
      refine lv_goto (tgt := 123) hx hb dX6_firstIn_119 (by decide) ?_
      refine lv_istore (i := 4) (lv' := [(4, .int 1), (0, .ref (HB.size + 44)), (1, .int v1), (2, rfv HB.size v2), (3, rfv HB.size v3), (5, .int v5), (6, .ref (HB.size + v6))]) hx hb dX6_firstIn_123 hl (by decide) (by simp [rfv_cat]) (fun ls hl => ?_)
      obtain ⟨v5_125, qq, h⟩ := bn_e h
      refine lv_iinc (v := v5_125) (lv' := [(5, .int v5_125), (4, .int 1), (0, .ref (HB.size + 44)), (1, .int v1), (2, rfv HB.size v2), (3, rfv HB.size v3), (6, .ref (HB.size + v6))]) hx hb dX6_firstIn_125 hl (k := 5) rfl (by rw [qq]; rfl) (by decide) rfl (fun ls hl => ?_)
      refine lv_goto (tgt := 16) hx hb dX6_firstIn_128 (by decide) ?_
      exact hk16 H locs ls G10 G13 v1 v2 v3 1 v5_125 hf_v2 hf_v3 hI e10 e13 (lv_sub hl [2, 3, 4, 5, 1, 0] rfl) h
    · replace h := ite_t hc h
      refine lv_aload hx hb dX6_firstIn_112 (lv_at hl 6 rfl) ?_
      rcases om_e h with ⟨eo, h8⟩ | ⟨t_114, eo, h8⟩
      · subst eo
        have h := h8
        have hl : lv_has ls 8 [(0, .ref (HB.size + 44)), (1, .int v1), (2, .null), (3, rfv HB.size v3), (4, .int v4), (5, .int v5), (6, .ref (HB.size + v6))] := hl
        refine lv_aload_nN hx hb dX6_firstIn_114 rfl (lv_at hl 2 rfl) ?_
        refine lv_acmp_ne (rx := (some (HB.size + v6))) (ry := none) (tgt := 122) hx hb dX6_firstIn_115 (by decide) (fun hc => ?_) (fun hc => ?_)
        · refine lv_iconst (v := 0) hx hb dX6_firstIn_122 (by decide) ?_
          refine lv_istore (i := 4) (lv' := [(4, .int 0), (0, .ref (HB.size + 44)), (1, .int v1), (2, .null), (3, rfv HB.size v3), (5, .int v5), (6, .ref (HB.size + v6))]) hx hb dX6_firstIn_123 hl (by decide) (by simp [rfv_cat]) (fun ls hl => ?_)
          obtain ⟨v5_125, qq, h⟩ := bn_e h
          refine lv_iinc (v := v5_125) (lv' := [(5, .int v5_125), (4, .int 0), (0, .ref (HB.size + 44)), (1, .int v1), (2, .null), (3, rfv HB.size v3), (6, .ref (HB.size + v6))]) hx hb dX6_firstIn_125 hl (k := 5) rfl (by rw [qq]; rfl) (by decide) rfl (fun ls hl => ?_)
          refine lv_goto (tgt := 16) hx hb dX6_firstIn_128 (by decide) ?_
          exact hk16 H locs ls G10 G13 v1 none v3 0 v5_125 (fun _ q => by cases q) hf_v3 hI e10 e13 (lv_sub hl [2, 3, 4, 5, 1, 0] rfl) h
        · cases hc
      · obtain ⟨ha_114, hk_114⟩ := hf_v2 _ eo
        subst eo
        have h := h8
        have hl : lv_has ls 8 [(0, .ref (HB.size + 44)), (1, .int v1), (2, .ref (HB.size + t_114)), (3, rfv HB.size v3), (4, .int v4), (5, .int v5), (6, .ref (HB.size + v6))] := hl
        refine lv_aload_n hx hb dX6_firstIn_114 rfl (lv_at hl 2 rfl) ?_
        refine lv_acmp_ne (rx := (some (HB.size + v6))) (ry := (some (HB.size + t_114))) (tgt := 122) hx hb dX6_firstIn_115 (by decide) (fun hc => ?_) (fun hc => ?_)
        · replace h := ite_f (fun q => hc (by rw [q])) h
          refine lv_iconst (v := 0) hx hb dX6_firstIn_122 (by decide) ?_
          refine lv_istore (i := 4) (lv' := [(4, .int 0), (0, .ref (HB.size + 44)), (1, .int v1), (2, .ref (HB.size + t_114)), (3, rfv HB.size v3), (5, .int v5), (6, .ref (HB.size + v6))]) hx hb dX6_firstIn_123 hl (by decide) (by simp [rfv_cat]) (fun ls hl => ?_)
          obtain ⟨v5_125, qq, h⟩ := bn_e h
          refine lv_iinc (v := v5_125) (lv' := [(5, .int v5_125), (4, .int 0), (0, .ref (HB.size + 44)), (1, .int v1), (2, .ref (HB.size + t_114)), (3, rfv HB.size v3), (6, .ref (HB.size + v6))]) hx hb dX6_firstIn_125 hl (k := 5) rfl (by rw [qq]; rfl) (by decide) rfl (fun ls hl => ?_)
          refine lv_goto (tgt := 16) hx hb dX6_firstIn_128 (by decide) ?_
          exact hk16 H locs ls G10 G13 v1 (some t_114) v3 0 v5_125 (fun _ q => by cases q; exact ⟨ha_114, hk_114⟩) hf_v3 hI e10 e13 (lv_sub hl [2, 3, 4, 5, 1, 0] rfl) h
        · replace h := ite_t (acq hc) h
          refine lv_iconst (v := 1) hx hb dX6_firstIn_118 (by decide) ?_
          refine lv_goto (tgt := 123) hx hb dX6_firstIn_119 (by decide) ?_
          refine lv_istore (i := 4) (lv' := [(4, .int 1), (0, .ref (HB.size + 44)), (1, .int v1), (2, .ref (HB.size + t_114)), (3, rfv HB.size v3), (5, .int v5), (6, .ref (HB.size + v6))]) hx hb dX6_firstIn_123 hl (by decide) (by simp [rfv_cat]) (fun ls hl => ?_)
          obtain ⟨v5_125, qq, h⟩ := bn_e h
          refine lv_iinc (v := v5_125) (lv' := [(5, .int v5_125), (4, .int 1), (0, .ref (HB.size + 44)), (1, .int v1), (2, .ref (HB.size + t_114)), (3, rfv HB.size v3), (6, .ref (HB.size + v6))]) hx hb dX6_firstIn_125 hl (k := 5) rfl (by rw [qq]; rfl) (by decide) rfl (fun ls hl => ?_)
          refine lv_goto (tgt := 16) hx hb dX6_firstIn_128 (by decide) ?_
          exact hk16 H locs ls G10 G13 v1 (some t_114) v3 1 v5_125 (fun _ q => by cases q; exact ⟨ha_114, hk_114⟩) hf_v3 hI e10 e13 (lv_sub hl [2, 3, 4, 5, 1, 0] rfl) h
  have b104 : ∀ (k16 : Grp → Grp → Int32 → Option Nat → Option Nat → Int32 → Int32 → Option (Option Nat)) (hk16 : ∀ (H : Heap) (locs : List Loc) (ls : Array Slot) (G10 : Grp) (G13 : Grp) (v1 : Int32) (v2 : Option Nat) (v3 : Option Nat) (v4 : Int32) (v5 : Int32) (hf_v2 : ∀ t : Nat, v2 = some t → t < n ∧ κ t = 4) (hf_v3 : ∀ t : Nat, v3 = some t → t < n ∧ κ t = 4), IV HB D y n n κ σ locs H → σ 10 = G10 → σ 13 = G13 → lv_has ls 8 [(0, .ref (HB.size + 44)), (1, .int v1), (2, rfv HB.size v2), (3, rfv HB.size v3), (4, .int v4), (5, .int v5)] → k16 G10 G13 v1 v2 v3 v4 v5 = some q → WX RM_X6_firstIn p l e s m args below meth c HB (some (rfv HB.size q)) (B_X6_firstIn HB D y n κ σ q) H locs (F0 m 16 ls [])) (H : Heap) (locs : List Loc) (ls : Array Slot) (G10 : Grp) (G13 : Grp) (v1 : Int32) (v2 : Option Nat) (v4 : Int32) (v5 : Int32) (v6 : Nat) (hf_v2 : ∀ t : Nat, v2 = some t → t < n ∧ κ t = 4) (ha_v6 : v6 < n) (hk_v6 : κ v6 = 4), IV HB D y n n κ σ locs H → σ 10 = G10 → σ 13 = G13 → lv_has ls 8 [(0, .ref (HB.size + 44)), (1, .int v1), (2, rfv HB.size v2), (4, .int v4), (5, .int v5), (6, .ref (HB.size + v6))] → f_X6_firstIn_b104 F k16 G10 G13 v1 v2 v4 v5 v6 = some q → WX RM_X6_firstIn p l e s m args below meth c HB (some (rfv HB.size q)) (B_X6_firstIn HB D y n κ σ q) H locs (F0 m 104 ls []) := by
    intro k16 hk16 H locs ls G10 G13 v1 v2 v4 v5 v6 hf_v2 ha_v6 hk_v6 hI e10 e13 hl h
    unfold f_X6_firstIn_b104 at h
    refine lv_aload hx hb dX6_firstIn_104 (lv_at hl 5 rfl) ?_
    refine lv_astore_n (i := 3) (lv' := [(3, .ref (HB.size + v6)), (0, .ref (HB.size + 44)), (1, .int v1), (2, rfv HB.size v2), (4, .int v4), (5, .int v5), (6, .ref (HB.size + v6))]) hx hb dX6_firstIn_106 rfl hl (by decide) (by simp [rfv_cat]) (fun ls hl => ?_)
    exact b107 k16 hk16 H locs ls G10 G13 v1 v2 (some v6) v4 v5 v6 hf_v2 (fun _ q => by cases q; exact ⟨ha_v6, hk_v6⟩) ha_v6 hk_v6 hI e10 e13 (lv_sub hl [1, 2, 3, 0, 4, 5, 6] rfl) h
  have b81 : ∀ (k16 : Grp → Grp → Int32 → Option Nat → Option Nat → Int32 → Int32 → Option (Option Nat)) (hk16 : ∀ (H : Heap) (locs : List Loc) (ls : Array Slot) (G10 : Grp) (G13 : Grp) (v1 : Int32) (v2 : Option Nat) (v3 : Option Nat) (v4 : Int32) (v5 : Int32) (hf_v2 : ∀ t : Nat, v2 = some t → t < n ∧ κ t = 4) (hf_v3 : ∀ t : Nat, v3 = some t → t < n ∧ κ t = 4), IV HB D y n n κ σ locs H → σ 10 = G10 → σ 13 = G13 → lv_has ls 8 [(0, .ref (HB.size + 44)), (1, .int v1), (2, rfv HB.size v2), (3, rfv HB.size v3), (4, .int v4), (5, .int v5)] → k16 G10 G13 v1 v2 v3 v4 v5 = some q → WX RM_X6_firstIn p l e s m args below meth c HB (some (rfv HB.size q)) (B_X6_firstIn HB D y n κ σ q) H locs (F0 m 16 ls [])) (H : Heap) (locs : List Loc) (ls : Array Slot) (G10 : Grp) (G13 : Grp) (v1 : Int32) (v2 : Option Nat) (v3 : Option Nat) (v4 : Int32) (v5 : Int32) (v6 : Nat) (s0 : Int32) (hf_v2 : ∀ t : Nat, v2 = some t → t < n ∧ κ t = 4) (hf_v3 : ∀ t : Nat, v3 = some t → t < n ∧ κ t = 4) (ha_v6 : v6 < n) (hk_v6 : κ v6 = 4), IV HB D y n n κ σ locs H → σ 10 = G10 → σ 13 = G13 → lv_has ls 8 [(0, .ref (HB.size + 44)), (1, .int v1), (2, rfv HB.size v2), (3, rfv HB.size v3), (4, .int v4), (5, .int v5), (6, .ref (HB.size + v6))] → f_X6_firstIn_b81 F k16 G10 G13 v1 v2 v3 v4 v5 v6 s0 = some q → WX RM_X6_firstIn p l e s m args below meth c HB (some (rfv HB.size q)) (B_X6_firstIn HB D y n κ σ q) H locs (F0 m 81 ls [.int s0]) := by
    intro k16 hk16 H locs ls G10 G13 v1 v2 v3 v4 v5 v6 s0 hf_v2 hf_v3 ha_v6 hk_v6 hI e10 e13 hl h
    unfold f_X6_firstIn_b81 at h
    refine lv_istore (lv' := [(7, .int s0), (0, .ref (HB.size + 44)), (1, .int v1), (2, rfv HB.size v2), (3, rfv HB.size v3), (4, .int v4), (5, .int v5), (6, .ref (HB.size + v6))]) hx hb dX6_firstIn_81 hl (by decide) rfl (fun ls hl => ?_)
    refine lv_iload hx hb dX6_firstIn_83 (lv_at hl 0 rfl) ?_
    refine lv_if_eq (tgt := 107) hx hb dX6_firstIn_85 (by decide) (fun hc => ?_) (fun hc => ?_)
    · replace h := ite_t hc h
      exact b107 k16 hk16 H locs ls G10 G13 v1 v2 v3 v4 v5 v6 hf_v2 hf_v3 ha_v6 hk_v6 hI e10 e13 (lv_sub hl [1, 2, 3, 4, 5, 6, 7] rfl) h
    · replace h := ite_f hc h
      rcases om_e h with ⟨eo, h8⟩ | ⟨t_88, eo, h8⟩
      · subst eo
        have h := h8
        have hl : lv_has ls 8 [(7, .int s0), (0, .ref (HB.size + 44)), (1, .int v1), (2, rfv HB.size v2), (3, .null), (4, .int v4), (5, .int v5), (6, .ref (HB.size + v6))] := hl
        refine lv_aload_nN hx hb dX6_firstIn_88 rfl (lv_at hl 4 rfl) ?_
        refine lv_ifnullN (tgt := 104) hx hb dX6_firstIn_89 (by decide) ?_
        exact b104 k16 hk16 H locs ls G10 G13 v1 v2 v4 v5 v6 hf_v2 ha_v6 hk_v6 hI e10 e13 (lv_sub hl [1, 2, 3, 5, 6, 7] rfl) h
      · obtain ⟨ha_88, hk_88⟩ := hf_v3 _ eo
        subst eo
        have h := h8
        have hl : lv_has ls 8 [(7, .int s0), (0, .ref (HB.size + 44)), (1, .int v1), (2, rfv HB.size v2), (3, .ref (HB.size + t_88)), (4, .int v4), (5, .int v5), (6, .ref (HB.size + v6))] := hl
        refine lv_aload_n hx hb dX6_firstIn_88 rfl (lv_at hl 4 rfl) ?_
        refine lv_ifnull hx hb dX6_firstIn_89 ?_
        refine lv_aload hx hb dX6_firstIn_92 (lv_at hl 7 rfl) ?_
        refine gt_X6_70 hx hb hts hown hKK hI e13 ha_v6 hk_v6 dX6_firstIn_94 ?_
        refine lv_aload_n hx hb dX6_firstIn_97 rfl (lv_at hl 4 rfl) ?_
        refine gt_X6_70 hx hb hts hown hKK hI e13 ha_88 hk_88 dX6_firstIn_98 ?_
        refine lv_icmp_ge (tgt := 107) hx hb dX6_firstIn_101 (by decide) (fun hc => ?_) (fun hc => ?_)
        · replace h := ite_t hc h
          exact b107 k16 hk16 H locs ls G10 G13 v1 v2 (some t_88) v4 v5 v6 hf_v2 (fun _ q => by cases q; exact ⟨ha_88, hk_88⟩) ha_v6 hk_v6 hI e10 e13 (lv_sub hl [1, 2, 3, 4, 5, 6, 7] rfl) h
        · replace h := ite_f hc h
          exact b104 k16 hk16 H locs ls G10 G13 v1 v2 v4 v5 v6 hf_v2 ha_v6 hk_v6 hI e10 e13 (lv_sub hl [1, 2, 3, 5, 6, 7] rfl) h
  have b76 : ∀ (k16 : Grp → Grp → Int32 → Option Nat → Option Nat → Int32 → Int32 → Option (Option Nat)) (hk16 : ∀ (H : Heap) (locs : List Loc) (ls : Array Slot) (G10 : Grp) (G13 : Grp) (v1 : Int32) (v2 : Option Nat) (v3 : Option Nat) (v4 : Int32) (v5 : Int32) (hf_v2 : ∀ t : Nat, v2 = some t → t < n ∧ κ t = 4) (hf_v3 : ∀ t : Nat, v3 = some t → t < n ∧ κ t = 4), IV HB D y n n κ σ locs H → σ 10 = G10 → σ 13 = G13 → lv_has ls 8 [(0, .ref (HB.size + 44)), (1, .int v1), (2, rfv HB.size v2), (3, rfv HB.size v3), (4, .int v4), (5, .int v5)] → k16 G10 G13 v1 v2 v3 v4 v5 = some q → WX RM_X6_firstIn p l e s m args below meth c HB (some (rfv HB.size q)) (B_X6_firstIn HB D y n κ σ q) H locs (F0 m 16 ls [])) (H : Heap) (locs : List Loc) (ls : Array Slot) (G10 : Grp) (G13 : Grp) (v1 : Int32) (v2 : Option Nat) (v3 : Option Nat) (v4 : Int32) (v5 : Int32) (v6 : Nat) (hf_v2 : ∀ t : Nat, v2 = some t → t < n ∧ κ t = 4) (hf_v3 : ∀ t : Nat, v3 = some t → t < n ∧ κ t = 4) (ha_v6 : v6 < n) (hk_v6 : κ v6 = 4), IV HB D y n n κ σ locs H → σ 10 = G10 → σ 13 = G13 → lv_has ls 8 [(0, .ref (HB.size + 44)), (1, .int v1), (2, rfv HB.size v2), (3, rfv HB.size v3), (4, .int v4), (5, .int v5), (6, .ref (HB.size + v6))] → f_X6_firstIn_b76 F k16 G10 G13 v1 v2 v3 v4 v5 v6 = some q → WX RM_X6_firstIn p l e s m args below meth c HB (some (rfv HB.size q)) (B_X6_firstIn HB D y n κ σ q) H locs (F0 m 76 ls []) := by
    intro k16 hk16 H locs ls G10 G13 v1 v2 v3 v4 v5 v6 hf_v2 hf_v3 ha_v6 hk_v6 hI e10 e13 hl h
    unfold f_X6_firstIn_b76 at h
    refine lv_iconst (v := 1) hx hb dX6_firstIn_76 (by decide) ?_
    refine lv_goto (tgt := 81) hx hb dX6_firstIn_77 (by decide) ?_
    exact b81 k16 hk16 H locs ls G10 G13 v1 v2 v3 v4 v5 v6 1 hf_v2 hf_v3 ha_v6 hk_v6 hI e10 e13 (lv_sub hl [0, 1, 2, 3, 4, 5, 6] rfl) h
  have b80 : ∀ (k16 : Grp → Grp → Int32 → Option Nat → Option Nat → Int32 → Int32 → Option (Option Nat)) (hk16 : ∀ (H : Heap) (locs : List Loc) (ls : Array Slot) (G10 : Grp) (G13 : Grp) (v1 : Int32) (v2 : Option Nat) (v3 : Option Nat) (v4 : Int32) (v5 : Int32) (hf_v2 : ∀ t : Nat, v2 = some t → t < n ∧ κ t = 4) (hf_v3 : ∀ t : Nat, v3 = some t → t < n ∧ κ t = 4), IV HB D y n n κ σ locs H → σ 10 = G10 → σ 13 = G13 → lv_has ls 8 [(0, .ref (HB.size + 44)), (1, .int v1), (2, rfv HB.size v2), (3, rfv HB.size v3), (4, .int v4), (5, .int v5)] → k16 G10 G13 v1 v2 v3 v4 v5 = some q → WX RM_X6_firstIn p l e s m args below meth c HB (some (rfv HB.size q)) (B_X6_firstIn HB D y n κ σ q) H locs (F0 m 16 ls [])) (H : Heap) (locs : List Loc) (ls : Array Slot) (G10 : Grp) (G13 : Grp) (v1 : Int32) (v2 : Option Nat) (v3 : Option Nat) (v4 : Int32) (v5 : Int32) (v6 : Nat) (hf_v2 : ∀ t : Nat, v2 = some t → t < n ∧ κ t = 4) (hf_v3 : ∀ t : Nat, v3 = some t → t < n ∧ κ t = 4) (ha_v6 : v6 < n) (hk_v6 : κ v6 = 4), IV HB D y n n κ σ locs H → σ 10 = G10 → σ 13 = G13 → lv_has ls 8 [(0, .ref (HB.size + 44)), (1, .int v1), (2, rfv HB.size v2), (3, rfv HB.size v3), (4, .int v4), (5, .int v5), (6, .ref (HB.size + v6))] → f_X6_firstIn_b80 F k16 G10 G13 v1 v2 v3 v4 v5 v6 = some q → WX RM_X6_firstIn p l e s m args below meth c HB (some (rfv HB.size q)) (B_X6_firstIn HB D y n κ σ q) H locs (F0 m 80 ls []) := by
    intro k16 hk16 H locs ls G10 G13 v1 v2 v3 v4 v5 v6 hf_v2 hf_v3 ha_v6 hk_v6 hI e10 e13 hl h
    unfold f_X6_firstIn_b80 at h
    refine lv_iconst (v := 0) hx hb dX6_firstIn_80 (by decide) ?_
    exact b81 k16 hk16 H locs ls G10 G13 v1 v2 v3 v4 v5 v6 0 hf_v2 hf_v3 ha_v6 hk_v6 hI e10 e13 (lv_sub hl [0, 1, 2, 3, 4, 5, 6] rfl) h
  have b16 : ∀ (fu : Nat) (H : Heap) (locs : List Loc) (ls : Array Slot) (G10 : Grp) (G13 : Grp) (v1 : Int32) (v2 : Option Nat) (v3 : Option Nat) (v4 : Int32) (v5 : Int32) (hf_v2 : ∀ t : Nat, v2 = some t → t < n ∧ κ t = 4) (hf_v3 : ∀ t : Nat, v3 = some t → t < n ∧ κ t = 4), IV HB D y n n κ σ locs H → σ 10 = G10 → σ 13 = G13 → lv_has ls 8 [(0, .ref (HB.size + 44)), (1, .int v1), (2, rfv HB.size v2), (3, rfv HB.size v3), (4, .int v4), (5, .int v5)] → f_X6_firstIn_l16 F  fu G10 G13 v1 v2 v3 v4 v5 = some q → WX RM_X6_firstIn p l e s m args below meth c HB (some (rfv HB.size q)) (B_X6_firstIn HB D y n κ σ q) H locs (F0 m 16 ls []) := by
    intro  fu
    induction fu with
    | zero =>
      intro H locs ls G10 G13 v1 v2 v3 v4 v5 hf_v2 hf_v3 hI e10 e13 hl h
      exact absurd h (by intro h; cases h)
    | succ fu hk16 =>
      intro H locs ls G10 G13 v1 v2 v3 v4 v5 hf_v2 hf_v3 hI e10 e13 hl h
      have h : f_X6_firstIn_l16b F  (f_X6_firstIn_l16 F  fu) G10 G13 v1 v2 v3 v4 v5 = some q := h
      generalize f_X6_firstIn_l16 F  fu = k16 at h hk16
      unfold f_X6_firstIn_l16b at h
      refine lv_iload hx hb dX6_firstIn_16 (lv_at hl 5 rfl) ?_
      refine lv_aload_n hx hb dX6_firstIn_18 rfl (lv_at hl 0 rfl) ?_
      refine gt_X6_48 hx hb hts hown hKK hI e10 (lc44 hN) (kc44 hk0) dX6_firstIn_19 ?_
      refine lv_icmp_ge (tgt := 131) hx hb dX6_firstIn_22 (by decide) (fun hc => ?_) (fun hc => ?_)
      · replace h := ite_t hc h
        rcases om_e h with ⟨eo, h8⟩ | ⟨t_131, eo, h8⟩
        · subst eo
          have h := h8
          have hl : lv_has ls 8 [(0, .ref (HB.size + 44)), (1, .int v1), (2, rfv HB.size v2), (3, .null), (4, .int v4), (5, .int v5)] := hl
          refine lv_aload_nN hx hb dX6_firstIn_131 rfl (lv_at hl 3 rfl) ?_
          have hq := Option.some.inj h
          exact W.aret (v := .null) hx hb hr (Or.inl ⟨_, rfl⟩) (Or.inl rfl) (fun t ht hW => qc_mk (congrArg (fun z => Outcome.returned (some (rfv HB.size z))) hq) (by rw [ht]; exact ⟨hI.nil, (fun t q => by rw [← hq] at q; cases q)⟩)) hI.2.2 dX6_firstIn_132 hlocks
        · obtain ⟨ha_131, hk_131⟩ := hf_v3 _ eo
          subst eo
          have h := h8
          have hl : lv_has ls 8 [(0, .ref (HB.size + 44)), (1, .int v1), (2, rfv HB.size v2), (3, .ref (HB.size + t_131)), (4, .int v4), (5, .int v5)] := hl
          refine lv_aload_n hx hb dX6_firstIn_131 rfl (lv_at hl 3 rfl) ?_
          have hq := Option.some.inj h
          exact W.aret (v := .ref (HB.size + t_131)) hx hb hr (Or.inl ⟨_, rfl⟩) (Or.inr ⟨_, rfl⟩) (fun t ht hW => qc_mk (congrArg (fun z => Outcome.returned (some (rfv HB.size z))) hq) (by rw [ht]; exact ⟨hI.nil, (fun t q => by rw [← hq] at q; cases q; exact ⟨ha_131, hk_131⟩)⟩)) hI.2.2 dX6_firstIn_132 hlocks
      · replace h := ite_f hc h
        refine lv_aload_n hx hb dX6_firstIn_25 rfl (lv_at hl 0 rfl) ?_
        refine gf_X6_11 hx hb hts hown hKK hI hN dX6_firstIn_26 ?_
        refine lv_iload hx hb dX6_firstIn_29 (lv_at hl 5 rfl) ?_
        obtain ⟨hin_, h⟩ := ck_e h
        refine la_24 hx hb hKK hI e10 (lc45 hN) (kc45 hk0) hin_ dX6_firstIn_31 ?_
        rcases om_e h with ⟨eo, h⟩ | ⟨t_31, eo, h⟩
        · refine topn eo ?_
          refine lv_astoreN (lv' := [(6, .null), (0, .ref (HB.size + 44)), (1, .int v1), (2, rfv HB.size v2), (3, rfv HB.size v3), (4, .int v4), (5, .int v5)]) hx hb dX6_firstIn_32 hl (by decide) rfl (fun ls hl => ?_)
          refine lv_aloadN hx hb dX6_firstIn_34 (lv_at hl 0 rfl) ?_
          cases h
        · refine topr eo ?_
          obtain ⟨ha_31, hk_31⟩ := tarF hI (lc45 hN) (kc45 hk0) 0 rfl e10 eo
          refine lv_astore (lv' := [(6, .ref (HB.size + t_31)), (0, .ref (HB.size + 44)), (1, .int v1), (2, rfv HB.size v2), (3, rfv HB.size v3), (4, .int v4), (5, .int v5)]) hx hb dX6_firstIn_32 hl (by decide) rfl (fun ls hl => ?_)
          refine lv_aload hx hb dX6_firstIn_34 (lv_at hl 0 rfl) ?_
          refine gt_X6_64 hx hb hts hown hKK hI e13 ha_31 hk_31 dX6_firstIn_36 ?_
          refine lv_iload_n hx hb dX6_firstIn_39 rfl (lv_at hl 2 rfl) ?_
          refine lv_icmp_ne (tgt := 80) hx hb dX6_firstIn_40 (by decide) (fun hc => ?_) (fun hc => ?_)
          · replace h := ite_f hc h
            exact b80 k16 hk16 H locs ls G10 G13 v1 v2 v3 v4 v5 t_31 hf_v2 hf_v3 ha_31 hk_31 hI e10 e13 (lv_sub hl [1, 2, 3, 4, 5, 6, 0] rfl) h
          · replace h := ite_t hc h
            rcases om_e h with ⟨eo, h8⟩ | ⟨t_43, eo, h8⟩
            · subst eo
              have h := h8
              have hl : lv_has ls 8 [(6, .ref (HB.size + t_31)), (0, .ref (HB.size + 44)), (1, .int v1), (2, .null), (3, rfv HB.size v3), (4, .int v4), (5, .int v5)] := hl
              refine lv_aload_nN hx hb dX6_firstIn_43 rfl (lv_at hl 3 rfl) ?_
              refine lv_ifnullN (tgt := 76) hx hb dX6_firstIn_44 (by decide) ?_
              exact b76 k16 hk16 H locs ls G10 G13 v1 none v3 v4 v5 t_31 (fun _ q => by cases q) hf_v3 ha_31 hk_31 hI e10 e13 (lv_sub hl [1, 2, 3, 4, 5, 6, 0] rfl) h
            · obtain ⟨ha_43, hk_43⟩ := hf_v2 _ eo
              subst eo
              have h := h8
              have hl : lv_has ls 8 [(6, .ref (HB.size + t_31)), (0, .ref (HB.size + 44)), (1, .int v1), (2, .ref (HB.size + t_43)), (3, rfv HB.size v3), (4, .int v4), (5, .int v5)] := hl
              refine lv_aload_n hx hb dX6_firstIn_43 rfl (lv_at hl 3 rfl) ?_
              refine lv_ifnull hx hb dX6_firstIn_44 ?_
              refine lv_aload hx hb dX6_firstIn_47 (lv_at hl 0 rfl) ?_
              refine gt_X6_70 hx hb hts hown hKK hI e13 ha_31 hk_31 dX6_firstIn_49 ?_
              refine lv_aload_n hx hb dX6_firstIn_52 rfl (lv_at hl 3 rfl) ?_
              refine gt_X6_70 hx hb hts hown hKK hI e13 ha_43 hk_43 dX6_firstIn_53 ?_
              refine lv_icmp_gt (tgt := 76) hx hb dX6_firstIn_56 (by decide) (fun hc => ?_) (fun hc => ?_)
              · replace h := ite_t hc h
                exact b76 k16 hk16 H locs ls G10 G13 v1 (some t_43) v3 v4 v5 t_31 (fun _ q => by cases q; exact ⟨ha_43, hk_43⟩) hf_v3 ha_31 hk_31 hI e10 e13 (lv_sub hl [1, 2, 3, 4, 5, 6, 0] rfl) h
              · replace h := ite_f hc h
                refine lv_iload hx hb dX6_firstIn_59 (lv_at hl 5 rfl) ?_
                refine lv_if_eq (tgt := 80) hx hb dX6_firstIn_61 (by decide) (fun hc => ?_) (fun hc => ?_)
                · replace h := ite_t hc h
                  exact b80 k16 hk16 H locs ls G10 G13 v1 (some t_43) v3 v4 v5 t_31 (fun _ q => by cases q; exact ⟨ha_43, hk_43⟩) hf_v3 ha_31 hk_31 hI e10 e13 (lv_sub hl [1, 2, 3, 4, 5, 6, 0] rfl) h
                · replace h := ite_f hc h
                  refine lv_aload hx hb dX6_firstIn_64 (lv_at hl 0 rfl) ?_
                  refine gt_X6_70 hx hb hts hown hKK hI e13 ha_31 hk_31 dX6_firstIn_66 ?_
                  refine lv_aload_n hx hb dX6_firstIn_69 rfl (lv_at hl 3 rfl) ?_
                  refine gt_X6_70 hx hb hts hown hKK hI e13 ha_43 hk_43 dX6_firstIn_70 ?_
                  refine lv_icmp_ne (tgt := 80) hx hb dX6_firstIn_73 (by decide) (fun hc => ?_) (fun hc => ?_)
                  · replace h := ite_f hc h
                    exact b80 k16 hk16 H locs ls G10 G13 v1 (some t_43) v3 v4 v5 t_31 (fun _ q => by cases q; exact ⟨ha_43, hk_43⟩) hf_v3 ha_31 hk_31 hI e10 e13 (lv_sub hl [1, 2, 3, 4, 5, 6, 0] rfl) h
                  · replace h := ite_t hc h
                    exact b76 k16 hk16 H locs ls G10 G13 v1 (some t_43) v3 v4 v5 t_31 (fun _ q => by cases q; exact ⟨ha_43, hk_43⟩) hf_v3 ha_31 hk_31 hI e10 e13 (lv_sub hl [1, 2, 3, 4, 5, 6, 0] rfl) h
  show WX RM_X6_firstIn p l e s m args below meth c HB (some (rfv HB.size q)) (B_X6_firstIn HB D y n κ σ q) s.heap [] (F0 m 0 ls [])
  generalize s.heap = H at hI ⊢
  unfold f_X6_firstIn at h
  obtain ⟨locs, hlocs⟩ : ∃ x : List Loc, x = [] := ⟨_, rfl⟩
  rw [← hlocs] at hI ⊢
  refine lv_null hx hb dX6_firstIn_0 ?_
  refine lv_astore_nN (i := 3) (lv' := [(3, .null), (0, .ref (HB.size + 44)), (1, .int v1), (2, rfv HB.size v2)]) hx hb dX6_firstIn_1 rfl hl (by decide) (by simp [rfv_cat]) (fun ls hl => ?_)
  rcases om_e h with ⟨eo, h8⟩ | ⟨t_2, eo, h8⟩
  · subst eo
    have h := h8
    have hl : lv_has ls 8 [(3, .null), (0, .ref (HB.size + 44)), (1, .int v1), (2, .null)] := hl
    refine lv_aload_nN hx hb dX6_firstIn_2 rfl (lv_at hl 3 rfl) ?_
    refine lv_ifnonnullN hx hb dX6_firstIn_3 ?_
    refine lv_iconst (v := 1) hx hb dX6_firstIn_6 (by decide) ?_
    refine lv_goto (tgt := 11) hx hb dX6_firstIn_7 (by decide) ?_
    refine lv_istore (lv' := [(4, .int 1), (3, .null), (0, .ref (HB.size + 44)), (1, .int v1), (2, .null)]) hx hb dX6_firstIn_11 hl (by decide) rfl (fun ls hl => ?_)
    refine lv_iconst (v := 0) hx hb dX6_firstIn_13 (by decide) ?_
    refine lv_istore (lv' := [(5, .int 0), (4, .int 1), (3, .null), (0, .ref (HB.size + 44)), (1, .int v1), (2, .null)]) hx hb dX6_firstIn_14 hl (by decide) rfl (fun ls hl => ?_)
    exact b16  F H locs ls G10 G13 v1 none none 1 0 (fun _ q => by cases q) (fun _ q => by cases q) hI e10 e13 (lv_sub hl [3, 4, 5, 2, 1, 0] rfl) h
  · obtain ⟨ha_2, hk_2⟩ := hf_v2 _ eo
    subst eo
    have h := h8
    have hl : lv_has ls 8 [(3, .null), (0, .ref (HB.size + 44)), (1, .int v1), (2, .ref (HB.size + t_2))] := hl
    refine lv_aload_n hx hb dX6_firstIn_2 rfl (lv_at hl 3 rfl) ?_
    refine lv_ifnonnull (tgt := 10) hx hb dX6_firstIn_3 (by decide) ?_
    refine lv_iconst (v := 0) hx hb dX6_firstIn_10 (by decide) ?_
    refine lv_istore (lv' := [(4, .int 0), (3, .null), (0, .ref (HB.size + 44)), (1, .int v1), (2, .ref (HB.size + t_2))]) hx hb dX6_firstIn_11 hl (by decide) rfl (fun ls hl => ?_)
    refine lv_iconst (v := 0) hx hb dX6_firstIn_13 (by decide) ?_
    refine lv_istore (lv' := [(5, .int 0), (4, .int 0), (3, .null), (0, .ref (HB.size + 44)), (1, .int v1), (2, .ref (HB.size + t_2))]) hx hb dX6_firstIn_14 hl (by decide) rfl (fun ls hl => ?_)
    exact b16  F H locs ls G10 G13 v1 (some t_2) none 0 0 (fun _ q => by cases q; exact ⟨ha_2, hk_2⟩) (fun _ q => by cases q) hI e10 e13 (lv_sub hl [3, 4, 5, 2, 1, 0] rfl) h
noncomputable def f_X6_isOnWay (F : Nat) (G11 : Grp) (v1 : Int32) : Option (Int32) :=
  ob (f_X11_within F v1 0 ((G11.1 44 2) - 1)) (fun q_8 => if q_8 = 0 then some 0 else ck v1 200 (if (G11.1 48 v1.toNatClampNeg) = 0 then some 0 else some 1))
def RM_X6_isOnWay : Room := { frames := 1, cells := 0, slots := 0, locals := 22 }
abbrev B_X6_isOnWay (HB : Heap) (D : va_G) (y : Nat → ClassId) (n : Nat) (κ : Nat → Nat) (σ : St) (q : Int32) : Heap → Prop := fun H => IV HB D y n n κ σ [] H
set_option maxRecDepth 100000 in
set_option maxHeartbeats 4000000 in
theorem c_X6_isOnWay (l : Launch) (HB : Heap) (D : va_G) (y : Nat → ClassId) (F n : Nat) (κ : Nat → Nat) (σ : St) (hN : N0 ≤ n) (v1 : Int32)  (G11 : Grp) (e11 : σ 11 = G11) (q : Int32) (h : f_X6_isOnWay F G11 v1 = some q) : MT l HB D y yX6_isOnWay cX6_isOnWay 2 (some .boolean) RM_X6_isOnWay [.ref (HB.size + 44), .int v1] (IV HB D y n n κ σ []) (some (.int q)) (B_X6_isOnWay HB D y n κ σ q) := by
  refine Met.ofW (cc := cX6_isOnWay) (maxL := 2) (ret := (some .boolean)) (by decide) rfl ?_
  intro p e s m args below meth c s₁ BL hml hv
  obtain ⟨rfl, hI, hKK⟩ := hv
  have hx := BL.exec
  have hb := BL.bytes
  have hr := BL.returns
  have hts : ∀ w ∈ gtb, w.before _ s = true := fun w hw => atoms_spec BL.pre w (List.mem_cons_of_mem _ hw)
  have hml : c.maxLocals = 2 := hml
  have hown : s.vm.findClass RX6 = some m.cls := findClass_of_methodNamed BL.named
  have hlocks := BL.notSynchronized
  have hk0 := hI.1.2.2.2.2
  have hl := lv_entry ([.ref (HB.size + 44), .int v1]) (n := 2) (Nat.le_of_ble_eq_true rfl)
  rw [lg_entry_eq]
  generalize (lg_sl ([.ref (HB.size + 44), .int v1]) ++ List.replicate (2 - (lg_sl ([.ref (HB.size + 44), .int v1])).length) Slot.unset).toArray = ls at hl ⊢
  have hl : lv_has ls 2 [(0, .ref (HB.size + 44)), (1, .int v1)] := hl
  generalize hargs : ([.ref (HB.size + 44), .int v1] : List Value).toArray = args at *
  show WX RM_X6_isOnWay p l e s m args below meth c HB (some (.int q)) (B_X6_isOnWay HB D y n κ σ q) s.heap [] (F0 m 0 ls [])
  generalize s.heap = H at hI ⊢
  unfold f_X6_isOnWay at h
  obtain ⟨locs, hlocs⟩ : ∃ x : List Loc, x = [] := ⟨_, rfl⟩
  rw [← hlocs] at hI ⊢
  refine lv_iload_n hx hb dX6_isOnWay_0 rfl (lv_at hl 1 rfl) ?_
  refine lv_iconst (v := 0) hx hb dX6_isOnWay_1 (by decide) ?_
  refine lv_aload_n hx hb dX6_isOnWay_2 rfl (lv_at hl 0 rfl) ?_
  refine gt_X6_73 hx hb hts hown hKK hI e11 (lc44 hN) (kc44 hk0) dX6_isOnWay_3 ?_
  refine lv_iconst (v := 1) hx hb dX6_isOnWay_6 (by decide) ?_
  refine lv_isub hx hb dX6_isOnWay_7 ?_
  obtain ⟨q_8, hq_8, h⟩ := ob_e h
  refine r_callSN (As := [.int v1, .int 0, .int ((G11.1 44 2) - 1)]) (rest := []) hx hb hml hts hown (c_X11_within l HB D y F n κ σ hN v1 0 ((G11.1 44 2) - 1)  q_8 hq_8) cal_X11_within st_X11_within (hKK.2.1 _ (List.mem_of_getElem? (i := 15) rfl)) ⟨Nat.le_of_ble_eq_true rfl, Nat.le_of_ble_eq_true rfl⟩ hI.nil hKK rfl hl.1 hI.2.2 rfl (Nat.le_of_ble_eq_true rfl) dX6_isOnWay_8 ⟨Nat.le_of_ble_eq_true rfl, Nat.le_of_ble_eq_true rfl⟩ rfl rfl rfl (fun H locs hB hlo => ?_)
  have hI := hB.re hlo
  refine lv_if_eq (tgt := 27) hx hb dX6_isOnWay_11 (by decide) (fun hc => ?_) (fun hc => ?_)
  · replace h := ite_t hc h
    refine lv_iconst (v := 0) hx hb dX6_isOnWay_27 (by decide) ?_
    have hq := Option.some.inj h
    exact W.zret (v := 0) (ty := .boolean) hx hb hr rfl (fun t ht hW => qc_mk (congrArg (fun z => Outcome.returned (some (Value.int z))) hq) (by rw [ht]; exact hI.nil)) hI.2.2 dX6_isOnWay_28 hlocks
  · replace h := ite_f hc h
    refine lv_aload_n hx hb dX6_isOnWay_14 rfl (lv_at hl 0 rfl) ?_
    refine gf_X6_24 hx hb hts hown hKK hI hN dX6_isOnWay_15 ?_
    refine lv_iload_n hx hb dX6_isOnWay_18 rfl (lv_at hl 1 rfl) ?_
    obtain ⟨hin_, h⟩ := ck_e h
    refine la_26 hx hb hKK hI e11 (lc48 hN) (kc48 hk0) hin_ dX6_isOnWay_19 ?_
    refine lv_if_eq (tgt := 27) hx hb dX6_isOnWay_20 (by decide) (fun hc => ?_) (fun hc => ?_)
    · replace h := ite_t hc h
      refine lv_iconst (v := 0) hx hb dX6_isOnWay_27 (by decide) ?_
      have hq := Option.some.inj h
      exact W.zret (v := 0) (ty := .boolean) hx hb hr rfl (fun t ht hW => qc_mk (congrArg (fun z => Outcome.returned (some (Value.int z))) hq) (by rw [ht]; exact hI.nil)) hI.2.2 dX6_isOnWay_28 hlocks
    · replace h := ite_f hc h
      refine lv_iconst (v := 1) hx hb dX6_isOnWay_23 (by decide) ?_
      refine lv_goto (tgt := 28) hx hb dX6_isOnWay_24 (by decide) ?_
      have hq := Option.some.inj h
      exact W.zret (v := 1) (ty := .boolean) hx hb hr rfl (fun t ht hW => qc_mk (congrArg (fun z => Outcome.returned (some (Value.int z))) hq) (by rw [ht]; exact hI.nil)) hI.2.2 dX6_isOnWay_28 hlocks
noncomputable def f_X6_sacksOnWay_l4b (F : Nat)  (k4 : Grp → Int32 → Int32 → Option (Int32)) (G11 : Grp) (v1 : Int32) (v2 : Int32) : Option (Int32) :=
  if (G11.1 44 2) ≤ v2 then some v1 else ck v2 200 (if (G11.1 48 v2.toNatClampNeg) = 0 then bn ((v1 + 0)) (fun v1_28 => bn (v2 + 1) (fun v2_29 => k4 G11 v1_28 v2_29)) else bn ((v1 + 1)) (fun v1_28 => bn (v2 + 1) (fun v2_29 => k4 G11 v1_28 v2_29)))
noncomputable def f_X6_sacksOnWay_l4 (F : Nat)  (fu : Nat) : Grp → Int32 → Int32 → Option (Int32) := Nat.rec (motive := fun _ => Grp → Int32 → Int32 → Option (Int32)) (fun _ _ _ => none) (fun _ ih => f_X6_sacksOnWay_l4b F  ih) fu
noncomputable def f_X6_sacksOnWay (F : Nat) (G11 : Grp)  : Option (Int32) :=
  f_X6_sacksOnWay_l4 F  F G11 0 0
def RM_X6_sacksOnWay : Room := { frames := 0, cells := 0, slots := 0, locals := 0 }
abbrev B_X6_sacksOnWay (HB : Heap) (D : va_G) (y : Nat → ClassId) (n : Nat) (κ : Nat → Nat) (σ : St) (q : Int32) : Heap → Prop := fun H => IV HB D y n n κ σ [] H
set_option maxRecDepth 100000 in
set_option maxHeartbeats 4000000 in
theorem c_X6_sacksOnWay (l : Launch) (HB : Heap) (D : va_G) (y : Nat → ClassId) (F n : Nat) (κ : Nat → Nat) (σ : St) (hN : N0 ≤ n)  (G11 : Grp) (e11 : σ 11 = G11) (q : Int32) (h : f_X6_sacksOnWay F G11 = some q) : MT l HB D y yX6_sacksOnWay cX6_sacksOnWay 3 (some .int) RM_X6_sacksOnWay [.ref (HB.size + 44)] (IV HB D y n n κ σ []) (some (.int q)) (B_X6_sacksOnWay HB D y n κ σ q) := by
  refine Met.ofW (cc := cX6_sacksOnWay) (maxL := 3) (ret := (some .int)) (by decide) rfl ?_
  intro p e s m args below meth c s₁ BL hml hv
  obtain ⟨rfl, hI, hKK⟩ := hv
  have hx := BL.exec
  have hb := BL.bytes
  have hr := BL.returns
  have hts : ∀ w ∈ gtb, w.before _ s = true := fun w hw => atoms_spec BL.pre w (List.mem_cons_of_mem _ hw)
  have hml : c.maxLocals = 3 := hml
  have hown : s.vm.findClass RX6 = some m.cls := findClass_of_methodNamed BL.named
  have hlocks := BL.notSynchronized
  have hk0 := hI.1.2.2.2.2
  have hl := lv_entry ([.ref (HB.size + 44)]) (n := 3) (Nat.le_of_ble_eq_true rfl)
  rw [lg_entry_eq]
  generalize (lg_sl ([.ref (HB.size + 44)]) ++ List.replicate (3 - (lg_sl ([.ref (HB.size + 44)])).length) Slot.unset).toArray = ls at hl ⊢
  have hl : lv_has ls 3 [(0, .ref (HB.size + 44))] := hl
  generalize hargs : ([.ref (HB.size + 44)] : List Value).toArray = args at *
  have b4 : ∀ (fu : Nat) (H : Heap) (locs : List Loc) (ls : Array Slot) (G11 : Grp) (v1 : Int32) (v2 : Int32) , IV HB D y n n κ σ locs H → σ 11 = G11 → lv_has ls 3 [(0, .ref (HB.size + 44)), (1, .int v1), (2, .int v2)] → f_X6_sacksOnWay_l4 F  fu G11 v1 v2 = some q → WX RM_X6_sacksOnWay p l e s m args below meth c HB (some (.int q)) (B_X6_sacksOnWay HB D y n κ σ q) H locs (F0 m 4 ls []) := by
    intro  fu
    induction fu with
    | zero =>
      intro H locs ls G11 v1 v2 hI e11 hl h
      exact absurd h (by intro h; cases h)
    | succ fu hk4 =>
      intro H locs ls G11 v1 v2 hI e11 hl h
      have h : f_X6_sacksOnWay_l4b F  (f_X6_sacksOnWay_l4 F  fu) G11 v1 v2 = some q := h
      generalize f_X6_sacksOnWay_l4 F  fu = k4 at h hk4
      unfold f_X6_sacksOnWay_l4b at h
      refine lv_iload_n hx hb dX6_sacksOnWay_4 rfl (lv_at hl 2 rfl) ?_
      refine lv_aload_n hx hb dX6_sacksOnWay_5 rfl (lv_at hl 0 rfl) ?_
      refine gt_X6_73 hx hb hts hown hKK hI e11 (lc44 hN) (kc44 hk0) dX6_sacksOnWay_6 ?_
      refine lv_icmp_ge (tgt := 35) hx hb dX6_sacksOnWay_9 (by decide) (fun hc => ?_) (fun hc => ?_)
      · replace h := ite_t hc h
        refine lv_iload_n hx hb dX6_sacksOnWay_35 rfl (lv_at hl 1 rfl) ?_
        have hq := Option.some.inj h
        exact W.iret (v := v1) hx hb hr (fun t ht hW => qc_mk (congrArg (fun z => Outcome.returned (some (Value.int z))) hq) (by rw [ht]; exact hI.nil)) hI.2.2 dX6_sacksOnWay_36 hlocks
      · replace h := ite_f hc h
        refine lv_iload_n hx hb dX6_sacksOnWay_12 rfl (lv_at hl 1 rfl) ?_
        refine lv_aload_n hx hb dX6_sacksOnWay_13 rfl (lv_at hl 0 rfl) ?_
        refine gf_X6_24 hx hb hts hown hKK hI hN dX6_sacksOnWay_14 ?_
        refine lv_iload_n hx hb dX6_sacksOnWay_17 rfl (lv_at hl 2 rfl) ?_
        obtain ⟨hin_, h⟩ := ck_e h
        refine la_26 hx hb hKK hI e11 (lc48 hN) (kc48 hk0) hin_ dX6_sacksOnWay_18 ?_
        refine lv_if_eq (tgt := 26) hx hb dX6_sacksOnWay_19 (by decide) (fun hc => ?_) (fun hc => ?_)
        · replace h := ite_t hc h
          refine lv_iconst (v := 0) hx hb dX6_sacksOnWay_26 (by decide) ?_
          refine lv_iadd hx hb dX6_sacksOnWay_27 ?_
          obtain ⟨v1_28, qq, h⟩ := bn_e h
          refine topi qq ?_
          refine lv_istore_n (lv' := [(1, .int v1_28), (0, .ref (HB.size + 44)), (2, .int v2)]) hx hb dX6_sacksOnWay_28 rfl hl (by decide) rfl (fun ls hl => ?_)
          obtain ⟨v2_29, qq, h⟩ := bn_e h
          refine lv_iinc (v := v2_29) (lv' := [(2, .int v2_29), (1, .int v1_28), (0, .ref (HB.size + 44))]) hx hb dX6_sacksOnWay_29 hl (k := 2) rfl (by rw [qq]; rfl) (by decide) rfl (fun ls hl => ?_)
          refine lv_goto (tgt := 4) hx hb dX6_sacksOnWay_32 (by decide) ?_
          exact hk4 H locs ls G11 v1_28 v2_29  hI e11 (lv_sub hl [2, 1, 0] rfl) h
        · replace h := ite_f hc h
          refine lv_iconst (v := 1) hx hb dX6_sacksOnWay_22 (by decide) ?_
          refine lv_goto (tgt := 27) hx hb dX6_sacksOnWay_23 (by decide) ?_
          refine lv_iadd hx hb dX6_sacksOnWay_27 ?_
          obtain ⟨v1_28, qq, h⟩ := bn_e h
          refine topi qq ?_
          refine lv_istore_n (lv' := [(1, .int v1_28), (0, .ref (HB.size + 44)), (2, .int v2)]) hx hb dX6_sacksOnWay_28 rfl hl (by decide) rfl (fun ls hl => ?_)
          obtain ⟨v2_29, qq, h⟩ := bn_e h
          refine lv_iinc (v := v2_29) (lv' := [(2, .int v2_29), (1, .int v1_28), (0, .ref (HB.size + 44))]) hx hb dX6_sacksOnWay_29 hl (k := 2) rfl (by rw [qq]; rfl) (by decide) rfl (fun ls hl => ?_)
          refine lv_goto (tgt := 4) hx hb dX6_sacksOnWay_32 (by decide) ?_
          exact hk4 H locs ls G11 v1_28 v2_29  hI e11 (lv_sub hl [2, 1, 0] rfl) h
  show WX RM_X6_sacksOnWay p l e s m args below meth c HB (some (.int q)) (B_X6_sacksOnWay HB D y n κ σ q) s.heap [] (F0 m 0 ls [])
  generalize s.heap = H at hI ⊢
  unfold f_X6_sacksOnWay at h
  obtain ⟨locs, hlocs⟩ : ∃ x : List Loc, x = [] := ⟨_, rfl⟩
  rw [← hlocs] at hI ⊢
  refine lv_iconst (v := 0) hx hb dX6_sacksOnWay_0 (by decide) ?_
  refine lv_istore_n (lv' := [(1, .int 0), (0, .ref (HB.size + 44))]) hx hb dX6_sacksOnWay_1 rfl hl (by decide) rfl (fun ls hl => ?_)
  refine lv_iconst (v := 0) hx hb dX6_sacksOnWay_2 (by decide) ?_
  refine lv_istore_n (lv' := [(2, .int 0), (1, .int 0), (0, .ref (HB.size + 44))]) hx hb dX6_sacksOnWay_3 rfl hl (by decide) rfl (fun ls hl => ?_)
  exact b4  F H locs ls G11 0 0  hI e11 (lv_sub hl [2, 1, 0] rfl) h
noncomputable def f_X6_empty_l16b (F : Nat)  (k16 : Grp → Grp → Grp → Int32 → Int32 → Int32 → Int32 → Int32 → Option (Int32 × Grp × Grp)) (G10 : Grp) (G11 : Grp) (G13 : Grp) (v1 : Int32) (v2 : Int32) (v3 : Int32) (v4 : Int32) (v5 : Int32) : Option (Int32 × Grp × Grp) :=
  if (G10.1 44 1) ≤ v5 then ck v1 200 (bn (gI G11 48 v1.toNatClampNeg (vp_nar .boolean 0)) (fun G11_80 => some (v4, G11_80, G13))) else ck v5 200 (om (G10.2.2 45 v5.toNatClampNeg) (none) (fun t_31 => if (G13.1 t_31 8) = 1 then ck v5 200 (om (G10.2.2 45 v5.toNatClampNeg) (none) (fun t_45 => if (G13.1 t_45 10) = v1 then ck v5 200 (om (G10.2.2 45 v5.toNatClampNeg) (none) (fun t_59 => ob (f_X4_move F G13 t_59 v2 v3) (fun q_62 => bn (v4 + 1) (fun v4_65 => bn (v5 + 1) (fun v5_68 => k16 G10 G11 q_62 v1 v2 v3 v4_65 v5_68))))) else bn (v5 + 1) (fun v5_68 => k16 G10 G11 G13 v1 v2 v3 v4 v5_68))) else bn (v5 + 1) (fun v5_68 => k16 G10 G11 G13 v1 v2 v3 v4 v5_68)))
noncomputable def f_X6_empty_l16 (F : Nat)  (fu : Nat) : Grp → Grp → Grp → Int32 → Int32 → Int32 → Int32 → Int32 → Option (Int32 × Grp × Grp) := Nat.rec (motive := fun _ => Grp → Grp → Grp → Int32 → Int32 → Int32 → Int32 → Int32 → Option (Int32 × Grp × Grp)) (fun _ _ _ _ _ _ _ _ => none) (fun _ ih => f_X6_empty_l16b F  ih) fu
noncomputable def f_X6_empty (F : Nat) (G10 : Grp) (G11 : Grp) (G13 : Grp) (v1 : Int32) (v2 : Int32) (v3 : Int32) : Option (Int32 × Grp × Grp) :=
  ob (f_X6_isOnWay F G11 v1) (fun q_2 => if q_2 = 0 then some (0, G11, G13) else f_X6_empty_l16 F  F G10 G11 G13 v1 v2 v3 0 0)
def RM_X6_empty : Room := { frames := 2, cells := 0, slots := 0, locals := 43 }
abbrev W_X6_empty : List Nat := [11, 13]
abbrev B_X6_empty (HB : Heap) (D : va_G) (y : Nat → ClassId) (n : Nat) (κ : Nat → Nat) (σ0 : St) (q : Int32 × Grp × Grp) : Heap → Prop := fun H => ∃ σ : St, IV HB D y n n κ σ [] H ∧ σ 11 = q.2.1 ∧ σ 13 = q.2.2 ∧ ∀ j, j ∉ W_X6_empty → σ j = σ0 j
set_option maxRecDepth 100000 in
set_option maxHeartbeats 4000000 in
theorem c_X6_empty (l : Launch) (HB : Heap) (D : va_G) (y : Nat → ClassId) (F n : Nat) (κ : Nat → Nat) (σ0 : St) (hN : N0 ≤ n) (v1 : Int32)  (v2 : Int32)  (v3 : Int32)  (G10 : Grp) (e10 : σ0 10 = G10) (G11 : Grp) (e11 : σ0 11 = G11) (G13 : Grp) (e13 : σ0 13 = G13) (q : Int32 × Grp × Grp) (h : f_X6_empty F G10 G11 G13 v1 v2 v3 = some q) : MT l HB D y yX6_empty cX6_empty 6 (some .int) RM_X6_empty [.ref (HB.size + 44), .int v1, .int v2, .int v3] (IV HB D y n n κ σ0 []) (some (.int q.1)) (B_X6_empty HB D y n κ σ0 q) := by
  refine Met.ofW (cc := cX6_empty) (maxL := 6) (ret := (some .int)) (by decide) rfl ?_
  intro p e s m args below meth c s₁ BL hml hv
  obtain ⟨rfl, hI, hKK⟩ := hv
  have hx := BL.exec
  have hb := BL.bytes
  have hr := BL.returns
  have hts : ∀ w ∈ gtb, w.before _ s = true := fun w hw => atoms_spec BL.pre w (List.mem_cons_of_mem _ hw)
  have hml : c.maxLocals = 6 := hml
  have hown : s.vm.findClass RX6 = some m.cls := findClass_of_methodNamed BL.named
  have hlocks := BL.notSynchronized
  have hk0 := hI.1.2.2.2.2
  have hl := lv_entry ([.ref (HB.size + 44), .int v1, .int v2, .int v3]) (n := 6) (Nat.le_of_ble_eq_true rfl)
  rw [lg_entry_eq]
  generalize (lg_sl ([.ref (HB.size + 44), .int v1, .int v2, .int v3]) ++ List.replicate (6 - (lg_sl ([.ref (HB.size + 44), .int v1, .int v2, .int v3])).length) Slot.unset).toArray = ls at hl ⊢
  have hl : lv_has ls 6 [(0, .ref (HB.size + 44)), (1, .int v1), (2, .int v2), (3, .int v3)] := hl
  generalize hargs : ([.ref (HB.size + 44), .int v1, .int v2, .int v3] : List Value).toArray = args at *
  have b16 : ∀ (fu : Nat) (σ : St) (H : Heap) (locs : List Loc) (ls : Array Slot) (G10 : Grp) (G11 : Grp) (G13 : Grp) (v1 : Int32) (v2 : Int32) (v3 : Int32) (v4 : Int32) (v5 : Int32) , IV HB D y n n κ σ locs H → σ 10 = G10 → σ 11 = G11 → σ 13 = G13 → (∀ j, j ∉ W_X6_empty → σ j = σ0 j) → lv_has ls 6 [(0, .ref (HB.size + 44)), (1, .int v1), (2, .int v2), (3, .int v3), (4, .int v4), (5, .int v5)] → f_X6_empty_l16 F  fu G10 G11 G13 v1 v2 v3 v4 v5 = some q → WX RM_X6_empty p l e s m args below meth c HB (some (.int q.1)) (B_X6_empty HB D y n κ σ0 q) H locs (F0 m 16 ls []) := by
    intro  fu
    induction fu with
    | zero =>
      intro σ H locs ls G10 G11 G13 v1 v2 v3 v4 v5 hI e10 e11 e13 fr hl h
      exact absurd h (by intro h; cases h)
    | succ fu hk16 =>
      intro σ H locs ls G10 G11 G13 v1 v2 v3 v4 v5 hI e10 e11 e13 fr hl h
      have h : f_X6_empty_l16b F  (f_X6_empty_l16 F  fu) G10 G11 G13 v1 v2 v3 v4 v5 = some q := h
      generalize f_X6_empty_l16 F  fu = k16 at h hk16
      unfold f_X6_empty_l16b at h
      refine lv_iload hx hb dX6_empty_16 (lv_at hl 5 rfl) ?_
      refine lv_aload_n hx hb dX6_empty_18 rfl (lv_at hl 0 rfl) ?_
      refine gt_X6_48 hx hb hts hown hKK hI e10 (lc44 hN) (kc44 hk0) dX6_empty_19 ?_
      refine lv_icmp_ge (tgt := 74) hx hb dX6_empty_22 (by decide) (fun hc => ?_) (fun hc => ?_)
      · replace h := ite_t hc h
        refine lv_aload_n hx hb dX6_empty_74 rfl (lv_at hl 0 rfl) ?_
        refine gf_X6_24 hx hb hts hown hKK hI hN dX6_empty_75 ?_
        refine lv_iload_n hx hb dX6_empty_78 rfl (lv_at hl 1 rfl) ?_
        refine lv_iconst (v := 0) hx hb dX6_empty_79 (by decide) ?_
        obtain ⟨hin_, h⟩ := ck_e h
        obtain ⟨G11_80, qq, h⟩ := bn_e h
        refine sa_26 hx hb hKK hI e11 (lc48 hN) (kc48 hk0) hin_ dX6_empty_80 (fun σ H locs hI ew ho => ?_)
        have e11 := ew.trans qq.symm
        have e10 := (ho 10 (nn rfl)).trans e10
        have e13 := (ho 13 (nn rfl)).trans e13
        have fr := frs fr ho (by decide)
        refine lv_iload hx hb dX6_empty_81 (lv_at hl 4 rfl) ?_
        have hq := Option.some.inj h
        exact W.iret (v := v4) hx hb hr (fun t ht hW => qc_mk (congrArg (fun z => Outcome.returned (some (Value.int z.1))) hq) (by rw [ht]; exact ⟨σ, hI.nil, e11.trans (congrArg (fun z => z.2.1) hq), e13.trans (congrArg (fun z => z.2.2) hq), fr⟩)) hI.2.2 dX6_empty_83 hlocks
      · replace h := ite_f hc h
        refine lv_aload_n hx hb dX6_empty_25 rfl (lv_at hl 0 rfl) ?_
        refine gf_X6_11 hx hb hts hown hKK hI hN dX6_empty_26 ?_
        refine lv_iload hx hb dX6_empty_29 (lv_at hl 5 rfl) ?_
        obtain ⟨hin_, h⟩ := ck_e h
        refine la_24 hx hb hKK hI e10 (lc45 hN) (kc45 hk0) hin_ dX6_empty_31 ?_
        rcases om_e h with ⟨eo, h⟩ | ⟨t_31, eo, h⟩
        · cases h
        · refine topr eo ?_
          obtain ⟨ha_31, hk_31⟩ := tarF hI (lc45 hN) (kc45 hk0) 0 rfl e10 eo
          refine gt_X6_64 hx hb hts hown hKK hI e13 ha_31 hk_31 dX6_empty_32 ?_
          refine lv_iconst (v := 1) hx hb dX6_empty_35 (by decide) ?_
          refine lv_icmp_ne (tgt := 68) hx hb dX6_empty_36 (by decide) (fun hc => ?_) (fun hc => ?_)
          · replace h := ite_f hc h
            obtain ⟨v5_68, qq, h⟩ := bn_e h
            refine lv_iinc (v := v5_68) (lv' := [(5, .int v5_68), (0, .ref (HB.size + 44)), (1, .int v1), (2, .int v2), (3, .int v3), (4, .int v4)]) hx hb dX6_empty_68 hl (k := 5) rfl (by rw [qq]; rfl) (by decide) rfl (fun ls hl => ?_)
            refine lv_goto (tgt := 16) hx hb dX6_empty_71 (by decide) ?_
            exact hk16 σ H locs ls G10 G11 G13 v1 v2 v3 v4 v5_68  hI e10 e11 e13 fr (lv_sub hl [1, 2, 3, 4, 5, 0] rfl) h
          · replace h := ite_t hc h
            refine lv_aload_n hx hb dX6_empty_39 rfl (lv_at hl 0 rfl) ?_
            refine gf_X6_11 hx hb hts hown hKK hI hN dX6_empty_40 ?_
            refine lv_iload hx hb dX6_empty_43 (lv_at hl 5 rfl) ?_
            obtain ⟨hin_, h⟩ := ck_e h
            refine la_24 hx hb hKK hI e10 (lc45 hN) (kc45 hk0) hin_ dX6_empty_45 ?_
            rcases om_e h with ⟨eo, h⟩ | ⟨t_45, eo, h⟩
            · cases h
            · refine topr eo ?_
              obtain ⟨ha_45, hk_45⟩ := tarF hI (lc45 hN) (kc45 hk0) 0 rfl e10 eo
              refine gt_X6_80 hx hb hts hown hKK hI e13 ha_45 hk_45 dX6_empty_46 ?_
              refine lv_iload_n hx hb dX6_empty_49 rfl (lv_at hl 1 rfl) ?_
              refine lv_icmp_ne (tgt := 68) hx hb dX6_empty_50 (by decide) (fun hc => ?_) (fun hc => ?_)
              · replace h := ite_f hc h
                obtain ⟨v5_68, qq, h⟩ := bn_e h
                refine lv_iinc (v := v5_68) (lv' := [(5, .int v5_68), (0, .ref (HB.size + 44)), (1, .int v1), (2, .int v2), (3, .int v3), (4, .int v4)]) hx hb dX6_empty_68 hl (k := 5) rfl (by rw [qq]; rfl) (by decide) rfl (fun ls hl => ?_)
                refine lv_goto (tgt := 16) hx hb dX6_empty_71 (by decide) ?_
                exact hk16 σ H locs ls G10 G11 G13 v1 v2 v3 v4 v5_68  hI e10 e11 e13 fr (lv_sub hl [1, 2, 3, 4, 5, 0] rfl) h
              · replace h := ite_t hc h
                refine lv_aload_n hx hb dX6_empty_53 rfl (lv_at hl 0 rfl) ?_
                refine gf_X6_11 hx hb hts hown hKK hI hN dX6_empty_54 ?_
                refine lv_iload hx hb dX6_empty_57 (lv_at hl 5 rfl) ?_
                obtain ⟨hin_, h⟩ := ck_e h
                refine la_24 hx hb hKK hI e10 (lc45 hN) (kc45 hk0) hin_ dX6_empty_59 ?_
                rcases om_e h with ⟨eo, h⟩ | ⟨t_59, eo, h⟩
                · refine topn eo ?_
                  refine lv_iload_n hx hb dX6_empty_60 rfl (lv_at hl 2 rfl) ?_
                  refine lv_iload_n hx hb dX6_empty_61 rfl (lv_at hl 3 rfl) ?_
                  cases h
                · refine topr eo ?_
                  obtain ⟨ha_59, hk_59⟩ := tarF hI (lc45 hN) (kc45 hk0) 0 rfl e10 eo
                  refine lv_iload_n hx hb dX6_empty_60 rfl (lv_at hl 2 rfl) ?_
                  refine lv_iload_n hx hb dX6_empty_61 rfl (lv_at hl 3 rfl) ?_
                  obtain ⟨q_62, hq_62, h⟩ := ob_e h
                  refine r_callV (As := [.int v2, .int v3]) (rest := []) hx hb hml hts hown (c_X4_move l HB D y F n κ σ hN t_59 ha_59 hk_59 v2 v3 G13 e13 q_62 hq_62) cal_X4_move im_X4_move se_X4_move lm_X6_83 ⟨Nat.le_of_ble_eq_true rfl, Nat.le_of_ble_eq_true rfl⟩ hI.nil hKK (r_recv hKK hI (hE4 HB.size y) rfl ha_59 hk_59) rfl hl.1 hI.2.2 rfl (Nat.le_of_ble_eq_true rfl) dX6_empty_62 ⟨Nat.le_of_ble_eq_true rfl, Nat.le_of_ble_eq_true rfl⟩ rfl rfl rfl (fun H locs hB hlo => ?_)
                  obtain ⟨σ, hB, en13, ho⟩ := hB
                  have hI := hB.re hlo
                  have e13 := en13
                  have e10 := (ho 10 (ni rfl)).trans e10
                  have e11 := (ho 11 (ni rfl)).trans e11
                  have fr := frc fr ho (by decide)
                  obtain ⟨v4_65, qq, h⟩ := bn_e h
                  refine lv_iinc (v := v4_65) (lv' := [(4, .int v4_65), (0, .ref (HB.size + 44)), (1, .int v1), (2, .int v2), (3, .int v3), (5, .int v5)]) hx hb dX6_empty_65 hl (k := 4) rfl (by rw [qq]; rfl) (by decide) rfl (fun ls hl => ?_)
                  obtain ⟨v5_68, qq, h⟩ := bn_e h
                  refine lv_iinc (v := v5_68) (lv' := [(5, .int v5_68), (4, .int v4_65), (0, .ref (HB.size + 44)), (1, .int v1), (2, .int v2), (3, .int v3)]) hx hb dX6_empty_68 hl (k := 5) rfl (by rw [qq]; rfl) (by decide) rfl (fun ls hl => ?_)
                  refine lv_goto (tgt := 16) hx hb dX6_empty_71 (by decide) ?_
                  exact hk16 σ H locs ls G10 G11 q_62 v1 v2 v3 v4_65 v5_68  hI e10 e11 e13 fr (lv_sub hl [2, 3, 4, 5, 1, 0] rfl) h
  obtain ⟨σ, hI, e10, e11, e13, fr⟩ : ∃ σ : St, IV HB D y n n κ σ [] s.heap ∧ σ 10 = G10 ∧ σ 11 = G11 ∧ σ 13 = G13 ∧ ∀ j, j ∉ W_X6_empty → σ j = σ0 j := ⟨σ0, hI, e10, e11, e13, fun _ _ => rfl⟩
  show WX RM_X6_empty p l e s m args below meth c HB (some (.int q.1)) (B_X6_empty HB D y n κ σ0 q) s.heap [] (F0 m 0 ls [])
  generalize s.heap = H at hI ⊢
  unfold f_X6_empty at h
  obtain ⟨locs, hlocs⟩ : ∃ x : List Loc, x = [] := ⟨_, rfl⟩
  rw [← hlocs] at hI ⊢
  refine lv_aload_n hx hb dX6_empty_0 rfl (lv_at hl 0 rfl) ?_
  refine lv_iload_n hx hb dX6_empty_1 rfl (lv_at hl 1 rfl) ?_
  obtain ⟨q_2, hq_2, h⟩ := ob_e h
  refine r_callV (As := [.int v1]) (rest := []) hx hb hml hts hown (c_X6_isOnWay l HB D y F n κ σ hN v1 G11 e11 q_2 hq_2) cal_X6_isOnWay im_X6_isOnWay se_X6_isOnWay lm_X6_76 ⟨Nat.le_of_ble_eq_true rfl, Nat.le_of_ble_eq_true rfl⟩ hI.nil hKK (r_recv hKK hI (hE6 HB.size y) rfl (lc44 hN) (kc44 hk0)) rfl hl.1 hI.2.2 rfl (Nat.le_of_ble_eq_true rfl) dX6_empty_2 ⟨Nat.le_of_ble_eq_true rfl, Nat.le_of_ble_eq_true rfl⟩ rfl rfl rfl (fun H locs hB hlo => ?_)
  have hI := hB.re hlo
  refine lv_if_ne (tgt := 10) hx hb dX6_empty_5 (by decide) (fun hc => ?_) (fun hc => ?_)
  · replace h := ite_f hc h
    refine lv_iconst (v := 0) hx hb dX6_empty_10 (by decide) ?_
    refine lv_istore (lv' := [(4, .int 0), (0, .ref (HB.size + 44)), (1, .int v1), (2, .int v2), (3, .int v3)]) hx hb dX6_empty_11 hl (by decide) rfl (fun ls hl => ?_)
    refine lv_iconst (v := 0) hx hb dX6_empty_13 (by decide) ?_
    refine lv_istore (lv' := [(5, .int 0), (4, .int 0), (0, .ref (HB.size + 44)), (1, .int v1), (2, .int v2), (3, .int v3)]) hx hb dX6_empty_14 hl (by decide) rfl (fun ls hl => ?_)
    exact b16  F σ H locs ls G10 G11 G13 v1 v2 v3 0 0  hI e10 e11 e13 fr (lv_sub hl [2, 3, 4, 5, 1, 0] rfl) h
  · replace h := ite_t hc h
    refine lv_iconst (v := 0) hx hb dX6_empty_8 (by decide) ?_
    have hq := Option.some.inj h
    exact W.iret (v := 0) hx hb hr (fun t ht hW => qc_mk (congrArg (fun z => Outcome.returned (some (Value.int z.1))) hq) (by rw [ht]; exact ⟨σ, hI.nil, e11.trans (congrArg (fun z => z.2.1) hq), e13.trans (congrArg (fun z => z.2.2) hq), fr⟩)) hI.2.2 dX6_empty_9 hlocks
noncomputable def f_X6_unpack_l2b (F : Nat)  (k2 : Grp → Grp → Grp → Int32 → Int32 → Option (Grp × Grp)) (G10 : Grp) (G11 : Grp) (G13 : Grp) (v1 : Int32) (v2 : Int32) : Option (Grp × Grp) :=
  if (G11.1 44 2) ≤ v2 then some (G11, G13) else ck v2 200 (if (G11.1 48 v2.toNatClampNeg) = 0 then bn (v2 + 1) (fun v2_44 => k2 G10 G11 G13 v1 v2_44) else ck v2 200 (ck v2 200 (if (v1 - (G11.1 46 v2.toNatClampNeg)) < (G11.1 47 v2.toNatClampNeg) then bn (v2 + 1) (fun v2_44 => k2 G10 G11 G13 v1 v2_44) else ob (f_X6_empty F G10 G11 G13 v2 2 v1) (fun q_40 => bn (v2 + 1) (fun v2_44 => k2 G10 (q_40.2.1) (q_40.2.2) v1 v2_44)))))
noncomputable def f_X6_unpack_l2 (F : Nat)  (fu : Nat) : Grp → Grp → Grp → Int32 → Int32 → Option (Grp × Grp) := Nat.rec (motive := fun _ => Grp → Grp → Grp → Int32 → Int32 → Option (Grp × Grp)) (fun _ _ _ _ _ => none) (fun _ ih => f_X6_unpack_l2b F  ih) fu
noncomputable def f_X6_unpack (F : Nat) (G10 : Grp) (G11 : Grp) (G13 : Grp) (v1 : Int32) : Option (Grp × Grp) :=
  f_X6_unpack_l2 F  F G10 G11 G13 v1 0
def RM_X6_unpack : Room := { frames := 3, cells := 0, slots := 0, locals := 68 }
abbrev W_X6_unpack : List Nat := [11, 13]
abbrev B_X6_unpack (HB : Heap) (D : va_G) (y : Nat → ClassId) (n : Nat) (κ : Nat → Nat) (σ0 : St) (q : Grp × Grp) : Heap → Prop := fun H => ∃ σ : St, IV HB D y n n κ σ [] H ∧ σ 11 = q.1 ∧ σ 13 = q.2 ∧ ∀ j, j ∉ W_X6_unpack → σ j = σ0 j
set_option maxRecDepth 100000 in
set_option maxHeartbeats 4000000 in
theorem c_X6_unpack (l : Launch) (HB : Heap) (D : va_G) (y : Nat → ClassId) (F n : Nat) (κ : Nat → Nat) (σ0 : St) (hN : N0 ≤ n) (v1 : Int32)  (G10 : Grp) (e10 : σ0 10 = G10) (G11 : Grp) (e11 : σ0 11 = G11) (G13 : Grp) (e13 : σ0 13 = G13) (q : Grp × Grp) (h : f_X6_unpack F G10 G11 G13 v1 = some q) : MT l HB D y yX6_unpack cX6_unpack 3 none RM_X6_unpack [.ref (HB.size + 44), .int v1] (IV HB D y n n κ σ0 []) none (B_X6_unpack HB D y n κ σ0 q) := by
  refine Met.ofW (cc := cX6_unpack) (maxL := 3) (ret := none) (by decide) rfl ?_
  intro p e s m args below meth c s₁ BL hml hv
  obtain ⟨rfl, hI, hKK⟩ := hv
  have hx := BL.exec
  have hb := BL.bytes
  have hr := BL.returns
  have hts : ∀ w ∈ gtb, w.before _ s = true := fun w hw => atoms_spec BL.pre w (List.mem_cons_of_mem _ hw)
  have hml : c.maxLocals = 3 := hml
  have hown : s.vm.findClass RX6 = some m.cls := findClass_of_methodNamed BL.named
  have hlocks := BL.notSynchronized
  have hk0 := hI.1.2.2.2.2
  have hl := lv_entry ([.ref (HB.size + 44), .int v1]) (n := 3) (Nat.le_of_ble_eq_true rfl)
  rw [lg_entry_eq]
  generalize (lg_sl ([.ref (HB.size + 44), .int v1]) ++ List.replicate (3 - (lg_sl ([.ref (HB.size + 44), .int v1])).length) Slot.unset).toArray = ls at hl ⊢
  have hl : lv_has ls 3 [(0, .ref (HB.size + 44)), (1, .int v1)] := hl
  generalize hargs : ([.ref (HB.size + 44), .int v1] : List Value).toArray = args at *
  have b2 : ∀ (fu : Nat) (σ : St) (H : Heap) (locs : List Loc) (ls : Array Slot) (G10 : Grp) (G11 : Grp) (G13 : Grp) (v1 : Int32) (v2 : Int32) , IV HB D y n n κ σ locs H → σ 10 = G10 → σ 11 = G11 → σ 13 = G13 → (∀ j, j ∉ W_X6_unpack → σ j = σ0 j) → lv_has ls 3 [(0, .ref (HB.size + 44)), (1, .int v1), (2, .int v2)] → f_X6_unpack_l2 F  fu G10 G11 G13 v1 v2 = some q → WX RM_X6_unpack p l e s m args below meth c HB none (B_X6_unpack HB D y n κ σ0 q) H locs (F0 m 2 ls []) := by
    intro  fu
    induction fu with
    | zero =>
      intro σ H locs ls G10 G11 G13 v1 v2 hI e10 e11 e13 fr hl h
      exact absurd h (by intro h; cases h)
    | succ fu hk2 =>
      intro σ H locs ls G10 G11 G13 v1 v2 hI e10 e11 e13 fr hl h
      have h : f_X6_unpack_l2b F  (f_X6_unpack_l2 F  fu) G10 G11 G13 v1 v2 = some q := h
      generalize f_X6_unpack_l2 F  fu = k2 at h hk2
      unfold f_X6_unpack_l2b at h
      refine lv_iload_n hx hb dX6_unpack_2 rfl (lv_at hl 2 rfl) ?_
      refine lv_aload_n hx hb dX6_unpack_3 rfl (lv_at hl 0 rfl) ?_
      refine gt_X6_73 hx hb hts hown hKK hI e11 (lc44 hN) (kc44 hk0) dX6_unpack_4 ?_
      refine lv_icmp_ge (tgt := 50) hx hb dX6_unpack_7 (by decide) (fun hc => ?_) (fun hc => ?_)
      · replace h := ite_t hc h
        have hq := Option.some.inj h
        exact W.vret hx hb hr (fun t ht hW => qc_mk (rfl) (by rw [ht]; exact ⟨σ, hI.nil, e11.trans (congrArg (fun z => z.1) hq), e13.trans (congrArg (fun z => z.2) hq), fr⟩)) hI.2.2 dX6_unpack_50 hlocks
      · replace h := ite_f hc h
        refine lv_aload_n hx hb dX6_unpack_10 rfl (lv_at hl 0 rfl) ?_
        refine gf_X6_24 hx hb hts hown hKK hI hN dX6_unpack_11 ?_
        refine lv_iload_n hx hb dX6_unpack_14 rfl (lv_at hl 2 rfl) ?_
        obtain ⟨hin_, h⟩ := ck_e h
        refine la_26 hx hb hKK hI e11 (lc48 hN) (kc48 hk0) hin_ dX6_unpack_15 ?_
        refine lv_if_eq (tgt := 44) hx hb dX6_unpack_16 (by decide) (fun hc => ?_) (fun hc => ?_)
        · replace h := ite_t hc h
          obtain ⟨v2_44, qq, h⟩ := bn_e h
          refine lv_iinc (v := v2_44) (lv' := [(2, .int v2_44), (0, .ref (HB.size + 44)), (1, .int v1)]) hx hb dX6_unpack_44 hl (k := 2) rfl (by rw [qq]; rfl) (by decide) rfl (fun ls hl => ?_)
          refine lv_goto (tgt := 2) hx hb dX6_unpack_47 (by decide) ?_
          exact hk2 σ H locs ls G10 G11 G13 v1 v2_44  hI e10 e11 e13 fr (lv_sub hl [1, 2, 0] rfl) h
        · replace h := ite_f hc h
          refine lv_iload_n hx hb dX6_unpack_19 rfl (lv_at hl 1 rfl) ?_
          refine lv_aload_n hx hb dX6_unpack_20 rfl (lv_at hl 0 rfl) ?_
          refine gf_X6_17 hx hb hts hown hKK hI hN dX6_unpack_21 ?_
          refine lv_iload_n hx hb dX6_unpack_24 rfl (lv_at hl 2 rfl) ?_
          obtain ⟨hin_, h⟩ := ck_e h
          refine la_25 hx hb hKK hI e11 (lc46 hN) (kc46 hk0) hin_ dX6_unpack_25 ?_
          refine lv_isub hx hb dX6_unpack_26 ?_
          refine lv_aload_n hx hb dX6_unpack_27 rfl (lv_at hl 0 rfl) ?_
          refine gf_X6_21 hx hb hts hown hKK hI hN dX6_unpack_28 ?_
          refine lv_iload_n hx hb dX6_unpack_31 rfl (lv_at hl 2 rfl) ?_
          obtain ⟨hin_, h⟩ := ck_e h
          refine la_25 hx hb hKK hI e11 (lc47 hN) (kc47 hk0) hin_ dX6_unpack_32 ?_
          refine lv_icmp_lt (tgt := 44) hx hb dX6_unpack_33 (by decide) (fun hc => ?_) (fun hc => ?_)
          · replace h := ite_t hc h
            obtain ⟨v2_44, qq, h⟩ := bn_e h
            refine lv_iinc (v := v2_44) (lv' := [(2, .int v2_44), (0, .ref (HB.size + 44)), (1, .int v1)]) hx hb dX6_unpack_44 hl (k := 2) rfl (by rw [qq]; rfl) (by decide) rfl (fun ls hl => ?_)
            refine lv_goto (tgt := 2) hx hb dX6_unpack_47 (by decide) ?_
            exact hk2 σ H locs ls G10 G11 G13 v1 v2_44  hI e10 e11 e13 fr (lv_sub hl [1, 2, 0] rfl) h
          · replace h := ite_f hc h
            refine lv_aload_n hx hb dX6_unpack_36 rfl (lv_at hl 0 rfl) ?_
            refine lv_iload_n hx hb dX6_unpack_37 rfl (lv_at hl 2 rfl) ?_
            refine lv_iconst (v := 2) hx hb dX6_unpack_38 (by decide) ?_
            refine lv_iload_n hx hb dX6_unpack_39 rfl (lv_at hl 1 rfl) ?_
            obtain ⟨q_40, hq_40, h⟩ := ob_e h
            refine r_callV (As := [.int v2, .int 2, .int v1]) (rest := []) hx hb hml hts hown (c_X6_empty l HB D y F n κ σ hN v2 2 v1 G10 e10 G11 e11 G13 e13 q_40 hq_40) cal_X6_empty im_X6_empty se_X6_empty lm_X6_87 ⟨Nat.le_of_ble_eq_true rfl, Nat.le_of_ble_eq_true rfl⟩ hI.nil hKK (r_recv hKK hI (hE6 HB.size y) rfl (lc44 hN) (kc44 hk0)) rfl hl.1 hI.2.2 rfl (Nat.le_of_ble_eq_true rfl) dX6_unpack_40 ⟨Nat.le_of_ble_eq_true rfl, Nat.le_of_ble_eq_true rfl⟩ rfl rfl rfl (fun H locs hB hlo => ?_)
            obtain ⟨σ, hB, en11, en13, ho⟩ := hB
            have hI := hB.re hlo
            have e11 := en11
            have e13 := en13
            have e10 := (ho 10 (ni rfl)).trans e10
            have fr := frc fr ho (by decide)
            refine lv_pop hx hb dX6_unpack_43 rfl ?_
            obtain ⟨v2_44, qq, h⟩ := bn_e h
            refine lv_iinc (v := v2_44) (lv' := [(2, .int v2_44), (0, .ref (HB.size + 44)), (1, .int v1)]) hx hb dX6_unpack_44 hl (k := 2) rfl (by rw [qq]; rfl) (by decide) rfl (fun ls hl => ?_)
            refine lv_goto (tgt := 2) hx hb dX6_unpack_47 (by decide) ?_
            exact hk2 σ H locs ls G10 (q_40.2.1) (q_40.2.2) v1 v2_44  hI e10 e11 e13 fr (lv_sub hl [1, 2, 0] rfl) h
  obtain ⟨σ, hI, e10, e11, e13, fr⟩ : ∃ σ : St, IV HB D y n n κ σ [] s.heap ∧ σ 10 = G10 ∧ σ 11 = G11 ∧ σ 13 = G13 ∧ ∀ j, j ∉ W_X6_unpack → σ j = σ0 j := ⟨σ0, hI, e10, e11, e13, fun _ _ => rfl⟩
  show WX RM_X6_unpack p l e s m args below meth c HB none (B_X6_unpack HB D y n κ σ0 q) s.heap [] (F0 m 0 ls [])
  generalize s.heap = H at hI ⊢
  unfold f_X6_unpack at h
  obtain ⟨locs, hlocs⟩ : ∃ x : List Loc, x = [] := ⟨_, rfl⟩
  rw [← hlocs] at hI ⊢
  refine lv_iconst (v := 0) hx hb dX6_unpack_0 (by decide) ?_
  refine lv_istore_n (lv' := [(2, .int 0), (0, .ref (HB.size + 44)), (1, .int v1)]) hx hb dX6_unpack_1 rfl hl (by decide) rfl (fun ls hl => ?_)
  exact b2  F σ H locs ls G10 G11 G13 v1 0  hI e10 e11 e13 fr (lv_sub hl [1, 2, 0] rfl) h
noncomputable def f_J6_bitCount_0f7a4 (F : Nat)  (v0 : Int32) : Option (Int32) :=
  bn ((v0 - ((v0.toUInt32 >>> ((1 : Int32).toUInt32 &&& Int32.toUInt32 31)).toInt32 &&& 1431655765))) (fun v0_9 => bn (((v0_9 &&& 858993459) + ((v0_9.toUInt32 >>> ((2 : Int32).toUInt32 &&& Int32.toUInt32 31)).toInt32 &&& 858993459))) (fun v0_23 => bn (((v0_23 + (v0_23.toUInt32 >>> ((4 : Int32).toUInt32 &&& Int32.toUInt32 31)).toInt32) &&& 252645135)) (fun v0_33 => bn ((v0_33 + (v0_33.toUInt32 >>> ((8 : Int32).toUInt32 &&& Int32.toUInt32 31)).toInt32)) (fun v0_40 => bn ((v0_40 + (v0_40.toUInt32 >>> ((16 : Int32).toUInt32 &&& Int32.toUInt32 31)).toInt32)) (fun v0_47 => some (v0_47 &&& 63))))))
def RM_J6_bitCount_0f7a4 : Room := { frames := 0, cells := 0, slots := 0, locals := 0 }
abbrev B_J6_bitCount_0f7a4 (HB : Heap) (D : va_G) (y : Nat → ClassId) (n : Nat) (κ : Nat → Nat) (σ : St) (q : Int32) : Heap → Prop := fun H => IV HB D y n n κ σ [] H
set_option maxRecDepth 100000 in
set_option maxHeartbeats 4000000 in
theorem c_J6_bitCount_0f7a4 (l : Launch) (HB : Heap) (D : va_G) (y : Nat → ClassId) (F n : Nat) (κ : Nat → Nat) (σ : St) (hN : N0 ≤ n) (v0 : Int32)   (q : Int32) (h : f_J6_bitCount_0f7a4 F v0 = some q) : MT l HB D y yJ6_bitCount_0f7a4 cJ6_bitCount_0f7a4 1 (some .int) RM_J6_bitCount_0f7a4 [.int v0] (IV HB D y n n κ σ []) (some (.int q)) (B_J6_bitCount_0f7a4 HB D y n κ σ q) := by
  refine Met.ofW (cc := cJ6_bitCount_0f7a4) (maxL := 1) (ret := (some .int)) (by decide) rfl ?_
  intro p e s m args below meth c s₁ BL hml hv
  obtain ⟨rfl, hI, hKK⟩ := hv
  have hx := BL.exec
  have hb := BL.bytes
  have hr := BL.returns
  have hts : ∀ w ∈ gtb, w.before _ s = true := fun w hw => atoms_spec BL.pre w (List.mem_cons_of_mem _ hw)
  have hml : c.maxLocals = 1 := hml
  have hown : s.vm.findClass RJ6 = some m.cls := findClass_of_methodNamed BL.named
  have hlocks := BL.notSynchronized
  have hk0 := hI.1.2.2.2.2
  have hl := lv_entry ([.int v0]) (n := 1) (Nat.le_of_ble_eq_true rfl)
  rw [lg_entry_eq]
  generalize (lg_sl ([.int v0]) ++ List.replicate (1 - (lg_sl ([.int v0])).length) Slot.unset).toArray = ls at hl ⊢
  have hl : lv_has ls 1 [(0, .int v0)] := hl
  generalize hargs : ([.int v0] : List Value).toArray = args at *
  show WX RM_J6_bitCount_0f7a4 p l e s m args below meth c HB (some (.int q)) (B_J6_bitCount_0f7a4 HB D y n κ σ q) s.heap [] (F0 m 0 ls [])
  generalize s.heap = H at hI ⊢
  unfold f_J6_bitCount_0f7a4 at h
  obtain ⟨locs, hlocs⟩ : ∃ x : List Loc, x = [] := ⟨_, rfl⟩
  rw [← hlocs] at hI ⊢
  refine lv_iload_n hx hb dJ6_bitCount_0f7a4_0 rfl (lv_at hl 0 rfl) ?_
  refine lv_iload_n hx hb dJ6_bitCount_0f7a4_1 rfl (lv_at hl 0 rfl) ?_
  refine lv_iconst (v := 1) hx hb dJ6_bitCount_0f7a4_2 (by decide) ?_
  refine lv_iushr hx hb dJ6_bitCount_0f7a4_3 rfl ?_
  refine lv_ldcw (v := 1431655765) hx hb hown (hts _ lk_J6_265) dJ6_bitCount_0f7a4_4 ?_
  refine lv_iand hx hb dJ6_bitCount_0f7a4_7 ?_
  refine lv_isub hx hb dJ6_bitCount_0f7a4_8 ?_
  obtain ⟨v0_9, qq, h⟩ := bn_e h
  refine topi qq ?_
  refine lv_istore_n (lv' := [(0, .int v0_9)]) hx hb dJ6_bitCount_0f7a4_9 rfl hl (by decide) rfl (fun ls hl => ?_)
  refine lv_iload_n hx hb dJ6_bitCount_0f7a4_10 rfl (lv_at hl 0 rfl) ?_
  refine lv_ldcw (v := 858993459) hx hb hown (hts _ lk_J6_266) dJ6_bitCount_0f7a4_11 ?_
  refine lv_iand hx hb dJ6_bitCount_0f7a4_14 ?_
  refine lv_iload_n hx hb dJ6_bitCount_0f7a4_15 rfl (lv_at hl 0 rfl) ?_
  refine lv_iconst (v := 2) hx hb dJ6_bitCount_0f7a4_16 (by decide) ?_
  refine lv_iushr hx hb dJ6_bitCount_0f7a4_17 rfl ?_
  refine lv_ldcw (v := 858993459) hx hb hown (hts _ lk_J6_266) dJ6_bitCount_0f7a4_18 ?_
  refine lv_iand hx hb dJ6_bitCount_0f7a4_21 ?_
  refine lv_iadd hx hb dJ6_bitCount_0f7a4_22 ?_
  obtain ⟨v0_23, qq, h⟩ := bn_e h
  refine topi qq ?_
  refine lv_istore_n (lv' := [(0, .int v0_23)]) hx hb dJ6_bitCount_0f7a4_23 rfl hl (by decide) rfl (fun ls hl => ?_)
  refine lv_iload_n hx hb dJ6_bitCount_0f7a4_24 rfl (lv_at hl 0 rfl) ?_
  refine lv_iload_n hx hb dJ6_bitCount_0f7a4_25 rfl (lv_at hl 0 rfl) ?_
  refine lv_iconst (v := 4) hx hb dJ6_bitCount_0f7a4_26 (by decide) ?_
  refine lv_iushr hx hb dJ6_bitCount_0f7a4_27 rfl ?_
  refine lv_iadd hx hb dJ6_bitCount_0f7a4_28 ?_
  refine lv_ldcw (v := 252645135) hx hb hown (hts _ lk_J6_267) dJ6_bitCount_0f7a4_29 ?_
  refine lv_iand hx hb dJ6_bitCount_0f7a4_32 ?_
  obtain ⟨v0_33, qq, h⟩ := bn_e h
  refine topi qq ?_
  refine lv_istore_n (lv' := [(0, .int v0_33)]) hx hb dJ6_bitCount_0f7a4_33 rfl hl (by decide) rfl (fun ls hl => ?_)
  refine lv_iload_n hx hb dJ6_bitCount_0f7a4_34 rfl (lv_at hl 0 rfl) ?_
  refine lv_iload_n hx hb dJ6_bitCount_0f7a4_35 rfl (lv_at hl 0 rfl) ?_
  refine lv_bipush (v := 8) hx hb dJ6_bitCount_0f7a4_36 (by decide) ?_
  refine lv_iushr hx hb dJ6_bitCount_0f7a4_38 rfl ?_
  refine lv_iadd hx hb dJ6_bitCount_0f7a4_39 ?_
  obtain ⟨v0_40, qq, h⟩ := bn_e h
  refine topi qq ?_
  refine lv_istore_n (lv' := [(0, .int v0_40)]) hx hb dJ6_bitCount_0f7a4_40 rfl hl (by decide) rfl (fun ls hl => ?_)
  refine lv_iload_n hx hb dJ6_bitCount_0f7a4_41 rfl (lv_at hl 0 rfl) ?_
  refine lv_iload_n hx hb dJ6_bitCount_0f7a4_42 rfl (lv_at hl 0 rfl) ?_
  refine lv_bipush (v := 16) hx hb dJ6_bitCount_0f7a4_43 (by decide) ?_
  refine lv_iushr hx hb dJ6_bitCount_0f7a4_45 rfl ?_
  refine lv_iadd hx hb dJ6_bitCount_0f7a4_46 ?_
  obtain ⟨v0_47, qq, h⟩ := bn_e h
  refine topi qq ?_
  refine lv_istore_n (lv' := [(0, .int v0_47)]) hx hb dJ6_bitCount_0f7a4_47 rfl hl (by decide) rfl (fun ls hl => ?_)
  refine lv_iload_n hx hb dJ6_bitCount_0f7a4_48 rfl (lv_at hl 0 rfl) ?_
  refine lv_bipush (v := 63) hx hb dJ6_bitCount_0f7a4_49 (by decide) ?_
  refine lv_iand hx hb dJ6_bitCount_0f7a4_51 ?_
  have hq := Option.some.inj h
  exact W.iret (v := (v0_47 &&& 63)) hx hb hr (fun t ht hW => qc_mk (congrArg (fun z => Outcome.returned (some (Value.int z))) hq) (by rw [ht]; exact hI.nil)) hI.2.2 dJ6_bitCount_0f7a4_52 hlocks
noncomputable def f_X6_handOf (F : Nat) (G9 : Grp) (G13 : Grp) (v0 : Nat) : Option (Int32) :=
  if (G13.1 v0 1) = 0 then om (G13.2.2 v0 0) (none) (fun t_8 => some (G9.1 t_8 1)) else om (G13.2.2 v0 0) (none) (fun t_20 => some (16 + (G9.1 t_20 2)))
def RM_X6_handOf : Room := { frames := 0, cells := 0, slots := 0, locals := 0 }
abbrev B_X6_handOf (HB : Heap) (D : va_G) (y : Nat → ClassId) (n : Nat) (κ : Nat → Nat) (σ : St) (q : Int32) : Heap → Prop := fun H => IV HB D y n n κ σ [] H
set_option maxRecDepth 100000 in
set_option maxHeartbeats 4000000 in
theorem c_X6_handOf (l : Launch) (HB : Heap) (D : va_G) (y : Nat → ClassId) (F n : Nat) (κ : Nat → Nat) (σ : St) (hN : N0 ≤ n) (v0 : Nat) (ha_v0 : v0 < n) (hk_v0 : κ v0 = 4) (G9 : Grp) (e9 : σ 9 = G9) (G13 : Grp) (e13 : σ 13 = G13) (q : Int32) (h : f_X6_handOf F G9 G13 v0 = some q) : MT l HB D y yX6_handOf cX6_handOf 1 (some .int) RM_X6_handOf [.ref (HB.size + v0)] (IV HB D y n n κ σ []) (some (.int q)) (B_X6_handOf HB D y n κ σ q) := by
  refine Met.ofW (cc := cX6_handOf) (maxL := 1) (ret := (some .int)) (by decide) rfl ?_
  intro p e s m args below meth c s₁ BL hml hv
  obtain ⟨rfl, hI, hKK⟩ := hv
  have hx := BL.exec
  have hb := BL.bytes
  have hr := BL.returns
  have hts : ∀ w ∈ gtb, w.before _ s = true := fun w hw => atoms_spec BL.pre w (List.mem_cons_of_mem _ hw)
  have hml : c.maxLocals = 1 := hml
  have hown : s.vm.findClass RX6 = some m.cls := findClass_of_methodNamed BL.named
  have hlocks := BL.notSynchronized
  have hk0 := hI.1.2.2.2.2
  have hl := lv_entry ([.ref (HB.size + v0)]) (n := 1) (Nat.le_of_ble_eq_true rfl)
  rw [lg_entry_eq]
  generalize (lg_sl ([.ref (HB.size + v0)]) ++ List.replicate (1 - (lg_sl ([.ref (HB.size + v0)])).length) Slot.unset).toArray = ls at hl ⊢
  have hl : lv_has ls 1 [(0, .ref (HB.size + v0))] := hl
  generalize hargs : ([.ref (HB.size + v0)] : List Value).toArray = args at *
  show WX RM_X6_handOf p l e s m args below meth c HB (some (.int q)) (B_X6_handOf HB D y n κ σ q) s.heap [] (F0 m 0 ls [])
  generalize s.heap = H at hI ⊢
  unfold f_X6_handOf at h
  obtain ⟨locs, hlocs⟩ : ∃ x : List Loc, x = [] := ⟨_, rfl⟩
  rw [← hlocs] at hI ⊢
  refine lv_aload_n hx hb dX6_handOf_0 rfl (lv_at hl 0 rfl) ?_
  refine gt_X6_156 hx hb hts hown hKK hI e13 ha_v0 hk_v0 dX6_handOf_1 ?_
  refine lv_if_ne (tgt := 17) hx hb dX6_handOf_4 (by decide) (fun hc => ?_) (fun hc => ?_)
  · replace h := ite_f hc h
    refine lv_bipush (v := 16) hx hb dX6_handOf_17 (by decide) ?_
    refine lv_aload_n hx hb dX6_handOf_19 rfl (lv_at hl 0 rfl) ?_
    refine gt_X6_52 hx hb hts hown hKK hI e13 ha_v0 hk_v0 dX6_handOf_20 ?_
    rcases om_e h with ⟨eo, h⟩ | ⟨t_20, eo, h⟩
    · cases h
    · refine topr eo ?_
      obtain ⟨ha_20, hk_20⟩ := typF hI ha_v0 hk_v0 0 rfl e13 eo
      refine gt_X6_162 hx hb hts hown hKK hI e9 ha_20 hk_20 dX6_handOf_23 ?_
      refine lv_iadd hx hb dX6_handOf_26 ?_
      have hq := Option.some.inj h
      exact W.iret (v := (16 + (G9.1 t_20 2))) hx hb hr (fun t ht hW => qc_mk (congrArg (fun z => Outcome.returned (some (Value.int z))) hq) (by rw [ht]; exact hI.nil)) hI.2.2 dX6_handOf_27 hlocks
  · replace h := ite_t hc h
    refine lv_aload_n hx hb dX6_handOf_7 rfl (lv_at hl 0 rfl) ?_
    refine gt_X6_52 hx hb hts hown hKK hI e13 ha_v0 hk_v0 dX6_handOf_8 ?_
    rcases om_e h with ⟨eo, h⟩ | ⟨t_8, eo, h⟩
    · cases h
    · refine topr eo ?_
      obtain ⟨ha_8, hk_8⟩ := typF hI ha_v0 hk_v0 0 rfl e13 eo
      refine gt_X6_159 hx hb hts hown hKK hI e9 ha_8 hk_8 dX6_handOf_11 ?_
      refine lv_goto (tgt := 27) hx hb dX6_handOf_14 (by decide) ?_
      have hq := Option.some.inj h
      exact W.iret (v := (G9.1 t_8 1)) hx hb hr (fun t ht hW => qc_mk (congrArg (fun z => Outcome.returned (some (Value.int z))) hq) (by rw [ht]; exact hI.nil)) hI.2.2 dX6_handOf_27 hlocks
noncomputable def f_X6_isUnlike_l18b (F : Nat)  (k18 : Grp → Grp → Grp → Grp → Grp → Nat → Int32 → Int32 → Int32 → Int32 → Option (Int32)) (G2 : Grp) (G9 : Grp) (G12 : Grp) (G13 : Grp) (G14 : Grp) (v1 : Nat) (v2 : Int32) (v3 : Int32) (v4 : Int32) (v5 : Int32) : Option (Int32) :=
  if 4 ≤ v5 then if v3 < 3 then some 0 else ck 4 8 (if v4 ≤ (v3 * (G2.1 2 (4 : Int32).toNatClampNeg)) then some 0 else some 1) else ck v5 4 (ck ((v2 * 4) + v5) 128 (bn ((v4 + (if 0 ≤ ((v3 * (G14.1 (v1 + 1) v5.toNatClampNeg)) - (G12.1 50 ((v2 * 4) + v5).toNatClampNeg)) then ((v3 * (G14.1 (v1 + 1) v5.toNatClampNeg)) - (G12.1 50 ((v2 * 4) + v5).toNatClampNeg)) else 0 - ((v3 * (G14.1 (v1 + 1) v5.toNatClampNeg)) - (G12.1 50 ((v2 * 4) + v5).toNatClampNeg))))) (fun v4_51 => bn (v5 + 1) (fun v5_53 => k18 G2 G9 G12 G13 G14 v1 v2 v3 v4_51 v5_53))))
noncomputable def f_X6_isUnlike_l18 (F : Nat)  (fu : Nat) : Grp → Grp → Grp → Grp → Grp → Nat → Int32 → Int32 → Int32 → Int32 → Option (Int32) := Nat.rec (motive := fun _ => Grp → Grp → Grp → Grp → Grp → Nat → Int32 → Int32 → Int32 → Int32 → Option (Int32)) (fun _ _ _ _ _ _ _ _ _ _ => none) (fun _ ih => f_X6_isUnlike_l18b F  ih) fu
noncomputable def f_X6_isUnlike (F : Nat) (G2 : Grp) (G9 : Grp) (G12 : Grp) (G13 : Grp) (G14 : Grp) (v1 : Nat) : Option (Int32) :=
  ob (f_X6_handOf F G9 G13 v1) (fun q_1 => ck q_1 32 (bn ((G12.1 49 q_1.toNatClampNeg)) (fun v3_11 => f_X6_isUnlike_l18 F  F G2 G9 G12 G13 G14 v1 q_1 v3_11 0 0)))
def RM_X6_isUnlike : Room := { frames := 1, cells := 0, slots := 0, locals := 40 }
abbrev B_X6_isUnlike (HB : Heap) (D : va_G) (y : Nat → ClassId) (n : Nat) (κ : Nat → Nat) (σ : St) (q : Int32) : Heap → Prop := fun H => IV HB D y n n κ σ [] H
set_option maxRecDepth 100000 in
set_option maxHeartbeats 4000000 in
theorem c_X6_isUnlike (l : Launch) (HB : Heap) (D : va_G) (y : Nat → ClassId) (F n : Nat) (κ : Nat → Nat) (σ : St) (hN : N0 ≤ n) (v1 : Nat) (ha_v1 : v1 < n) (hk_v1 : κ v1 = 4) (G2 : Grp) (e2 : σ 2 = G2) (G9 : Grp) (e9 : σ 9 = G9) (G12 : Grp) (e12 : σ 12 = G12) (G13 : Grp) (e13 : σ 13 = G13) (G14 : Grp) (e14 : σ 14 = G14) (q : Int32) (h : f_X6_isUnlike F G2 G9 G12 G13 G14 v1 = some q) : MT l HB D y yX6_isUnlike cX6_isUnlike 6 (some .boolean) RM_X6_isUnlike [.ref (HB.size + 44), .ref (HB.size + v1)] (IV HB D y n n κ σ []) (some (.int q)) (B_X6_isUnlike HB D y n κ σ q) := by
  refine Met.ofW (cc := cX6_isUnlike) (maxL := 6) (ret := (some .boolean)) (by decide) rfl ?_
  intro p e s m args below meth c s₁ BL hml hv
  obtain ⟨rfl, hI, hKK⟩ := hv
  have hx := BL.exec
  have hb := BL.bytes
  have hr := BL.returns
  have hts : ∀ w ∈ gtb, w.before _ s = true := fun w hw => atoms_spec BL.pre w (List.mem_cons_of_mem _ hw)
  have hml : c.maxLocals = 6 := hml
  have hown : s.vm.findClass RX6 = some m.cls := findClass_of_methodNamed BL.named
  have hlocks := BL.notSynchronized
  have hk0 := hI.1.2.2.2.2
  have hl := lv_entry ([.ref (HB.size + 44), .ref (HB.size + v1)]) (n := 6) (Nat.le_of_ble_eq_true rfl)
  rw [lg_entry_eq]
  generalize (lg_sl ([.ref (HB.size + 44), .ref (HB.size + v1)]) ++ List.replicate (6 - (lg_sl ([.ref (HB.size + 44), .ref (HB.size + v1)])).length) Slot.unset).toArray = ls at hl ⊢
  have hl : lv_has ls 6 [(0, .ref (HB.size + 44)), (1, .ref (HB.size + v1))] := hl
  generalize hargs : ([.ref (HB.size + 44), .ref (HB.size + v1)] : List Value).toArray = args at *
  have b18 : ∀ (fu : Nat) (H : Heap) (locs : List Loc) (ls : Array Slot) (G2 : Grp) (G9 : Grp) (G12 : Grp) (G13 : Grp) (G14 : Grp) (v1 : Nat) (v2 : Int32) (v3 : Int32) (v4 : Int32) (v5 : Int32) (ha_v1 : v1 < n) (hk_v1 : κ v1 = 4), IV HB D y n n κ σ locs H → σ 2 = G2 → σ 9 = G9 → σ 12 = G12 → σ 13 = G13 → σ 14 = G14 → lv_has ls 6 [(0, .ref (HB.size + 44)), (1, .ref (HB.size + v1)), (2, .int v2), (3, .int v3), (4, .int v4), (5, .int v5)] → f_X6_isUnlike_l18 F  fu G2 G9 G12 G13 G14 v1 v2 v3 v4 v5 = some q → WX RM_X6_isUnlike p l e s m args below meth c HB (some (.int q)) (B_X6_isUnlike HB D y n κ σ q) H locs (F0 m 18 ls []) := by
    intro  fu
    induction fu with
    | zero =>
      intro H locs ls G2 G9 G12 G13 G14 v1 v2 v3 v4 v5 ha_v1 hk_v1 hI e2 e9 e12 e13 e14 hl h
      exact absurd h (by intro h; cases h)
    | succ fu hk18 =>
      intro H locs ls G2 G9 G12 G13 G14 v1 v2 v3 v4 v5 ha_v1 hk_v1 hI e2 e9 e12 e13 e14 hl h
      have h : f_X6_isUnlike_l18b F  (f_X6_isUnlike_l18 F  fu) G2 G9 G12 G13 G14 v1 v2 v3 v4 v5 = some q := h
      generalize f_X6_isUnlike_l18 F  fu = k18 at h hk18
      unfold f_X6_isUnlike_l18b at h
      refine lv_iload hx hb dX6_isUnlike_18 (lv_at hl 5 rfl) ?_
      refine lv_iconst (v := 4) hx hb dX6_isUnlike_20 (by decide) ?_
      refine lv_icmp_ge (tgt := 59) hx hb dX6_isUnlike_21 (by decide) (fun hc => ?_) (fun hc => ?_)
      · replace h := ite_t hc h
        refine lv_iload_n hx hb dX6_isUnlike_59 rfl (lv_at hl 3 rfl) ?_
        refine lv_iconst (v := 3) hx hb dX6_isUnlike_60 (by decide) ?_
        refine lv_icmp_lt (tgt := 81) hx hb dX6_isUnlike_61 (by decide) (fun hc => ?_) (fun hc => ?_)
        · replace h := ite_t hc h
          refine lv_iconst (v := 0) hx hb dX6_isUnlike_81 (by decide) ?_
          have hq := Option.some.inj h
          exact W.zret (v := 0) (ty := .boolean) hx hb hr rfl (fun t ht hW => qc_mk (congrArg (fun z => Outcome.returned (some (Value.int z))) hq) (by rw [ht]; exact hI.nil)) hI.2.2 dX6_isUnlike_82 hlocks
        · replace h := ite_f hc h
          refine lv_iload hx hb dX6_isUnlike_64 (lv_at hl 4 rfl) ?_
          refine lv_iload_n hx hb dX6_isUnlike_66 rfl (lv_at hl 3 rfl) ?_
          refine lv_aload_n hx hb dX6_isUnlike_67 rfl (lv_at hl 0 rfl) ?_
          refine gf_X6_45 hx hb hts hown hKK hI hN dX6_isUnlike_68 ?_
          refine lv_iconst (v := 4) hx hb dX6_isUnlike_71 (by decide) ?_
          obtain ⟨hin_, h⟩ := ck_e h
          refine la_14 hx hb hKK hI e2 (lc2 hN) (kc2 hk0) hin_ dX6_isUnlike_72 ?_
          refine lv_imul hx hb dX6_isUnlike_73 ?_
          refine lv_icmp_le (tgt := 81) hx hb dX6_isUnlike_74 (by decide) (fun hc => ?_) (fun hc => ?_)
          · replace h := ite_t hc h
            refine lv_iconst (v := 0) hx hb dX6_isUnlike_81 (by decide) ?_
            have hq := Option.some.inj h
            exact W.zret (v := 0) (ty := .boolean) hx hb hr rfl (fun t ht hW => qc_mk (congrArg (fun z => Outcome.returned (some (Value.int z))) hq) (by rw [ht]; exact hI.nil)) hI.2.2 dX6_isUnlike_82 hlocks
          · replace h := ite_f hc h
            refine lv_iconst (v := 1) hx hb dX6_isUnlike_77 (by decide) ?_
            refine lv_goto (tgt := 82) hx hb dX6_isUnlike_78 (by decide) ?_
            have hq := Option.some.inj h
            exact W.zret (v := 1) (ty := .boolean) hx hb hr rfl (fun t ht hW => qc_mk (congrArg (fun z => Outcome.returned (some (Value.int z))) hq) (by rw [ht]; exact hI.nil)) hI.2.2 dX6_isUnlike_82 hlocks
      · replace h := ite_f hc h
        refine lv_iload hx hb dX6_isUnlike_24 (lv_at hl 4 rfl) ?_
        refine lv_iload_n hx hb dX6_isUnlike_26 rfl (lv_at hl 3 rfl) ?_
        refine lv_aload_n hx hb dX6_isUnlike_27 rfl (lv_at hl 1 rfl) ?_
        refine gf_X6_169 hx hb hts hown hKK hI ha_v1 hk_v1 dX6_isUnlike_28 ?_
        refine lv_iload hx hb dX6_isUnlike_31 (lv_at hl 5 rfl) ?_
        obtain ⟨hin_, h⟩ := ck_e h
        refine la_77 hx hb hKK hI e14 (ownF hI ha_v1 hk_v1 1 rfl).2.1 (ownF hI ha_v1 hk_v1 1 rfl).2.2 hin_ dX6_isUnlike_33 ?_
        refine lv_imul hx hb dX6_isUnlike_34 ?_
        refine lv_aload_n hx hb dX6_isUnlike_35 rfl (lv_at hl 0 rfl) ?_
        refine gf_X6_31 hx hb hts hown hKK hI hN dX6_isUnlike_36 ?_
        refine lv_iload_n hx hb dX6_isUnlike_39 rfl (lv_at hl 2 rfl) ?_
        refine lv_iconst (v := 4) hx hb dX6_isUnlike_40 (by decide) ?_
        refine lv_imul hx hb dX6_isUnlike_41 ?_
        refine lv_iload hx hb dX6_isUnlike_42 (lv_at hl 5 rfl) ?_
        refine lv_iadd hx hb dX6_isUnlike_44 ?_
        obtain ⟨hin_, h⟩ := ck_e h
        refine la_28 hx hb hKK hI e12 (lc50 hN) (kc50 hk0) hin_ dX6_isUnlike_45 ?_
        refine lv_isub hx hb dX6_isUnlike_46 ?_
        refine va_mabs hx hb (by rw [hl.1]; exact hml) hown (hts _ lm_X6_172) (hts _ mw_abs.1) (hts _ mw_ini) (hts _ mw_abs.2) (Nat.le_of_ble_eq_true rfl) (Nat.le_of_ble_eq_true rfl) (Nat.zero_le _) (Nat.zero_le _) dX6_isUnlike_47 ?_
        refine lv_iadd hx hb dX6_isUnlike_50 ?_
        obtain ⟨v4_51, qq, h⟩ := bn_e h
        refine topi qq ?_
        refine lv_istore (lv' := [(4, .int v4_51), (0, .ref (HB.size + 44)), (1, .ref (HB.size + v1)), (2, .int v2), (3, .int v3), (5, .int v5)]) hx hb dX6_isUnlike_51 hl (by decide) rfl (fun ls hl => ?_)
        obtain ⟨v5_53, qq, h⟩ := bn_e h
        refine lv_iinc (v := v5_53) (lv' := [(5, .int v5_53), (4, .int v4_51), (0, .ref (HB.size + 44)), (1, .ref (HB.size + v1)), (2, .int v2), (3, .int v3)]) hx hb dX6_isUnlike_53 hl (k := 5) rfl (by rw [qq]; rfl) (by decide) rfl (fun ls hl => ?_)
        refine lv_goto (tgt := 18) hx hb dX6_isUnlike_56 (by decide) ?_
        exact hk18 H locs ls G2 G9 G12 G13 G14 v1 v2 v3 v4_51 v5_53 ha_v1 hk_v1 hI e2 e9 e12 e13 e14 (lv_sub hl [2, 3, 4, 5, 1, 0] rfl) h
  show WX RM_X6_isUnlike p l e s m args below meth c HB (some (.int q)) (B_X6_isUnlike HB D y n κ σ q) s.heap [] (F0 m 0 ls [])
  generalize s.heap = H at hI ⊢
  unfold f_X6_isUnlike at h
  obtain ⟨locs, hlocs⟩ : ∃ x : List Loc, x = [] := ⟨_, rfl⟩
  rw [← hlocs] at hI ⊢
  refine lv_aload_n hx hb dX6_isUnlike_0 rfl (lv_at hl 1 rfl) ?_
  obtain ⟨q_1, hq_1, h⟩ := ob_e h
  refine r_callS (As := [.ref (HB.size + v1)]) (rest := []) hx hb hml hts hown (c_X6_handOf l HB D y F n κ σ hN v1 ha_v1 hk_v1 G9 e9 G13 e13 q_1 hq_1) cal_X6_handOf st_X6_handOf lm_X6_165 ⟨Nat.le_of_ble_eq_true rfl, Nat.le_of_ble_eq_true rfl⟩ hI.nil hKK rfl hl.1 hI.2.2 rfl (Nat.le_of_ble_eq_true rfl) dX6_isUnlike_1 ⟨Nat.le_of_ble_eq_true rfl, Nat.le_of_ble_eq_true rfl⟩ rfl rfl rfl (fun H locs hB hlo => ?_)
  have hI := hB.re hlo
  refine lv_istore_n (lv' := [(2, .int q_1), (0, .ref (HB.size + 44)), (1, .ref (HB.size + v1))]) hx hb dX6_isUnlike_4 rfl hl (by decide) rfl (fun ls hl => ?_)
  refine lv_aload_n hx hb dX6_isUnlike_5 rfl (lv_at hl 1 rfl) ?_
  refine gf_X6_28 hx hb hts hown hKK hI hN dX6_isUnlike_6 ?_
  refine lv_iload_n hx hb dX6_isUnlike_9 rfl (lv_at hl 0 rfl) ?_
  obtain ⟨hin_, h⟩ := ck_e h
  refine la_27 hx hb hKK hI e12 (lc49 hN) (kc49 hk0) hin_ dX6_isUnlike_10 ?_
  obtain ⟨v3_11, qq, h⟩ := bn_e h
  refine topi qq ?_
  refine lv_istore_n (lv' := [(3, .int v3_11), (2, .int q_1), (0, .ref (HB.size + 44)), (1, .ref (HB.size + v1))]) hx hb dX6_isUnlike_11 rfl hl (by decide) rfl (fun ls hl => ?_)
  refine lv_iconst (v := 0) hx hb dX6_isUnlike_12 (by decide) ?_
  refine lv_istore (lv' := [(4, .int 0), (3, .int v3_11), (2, .int q_1), (0, .ref (HB.size + 44)), (1, .ref (HB.size + v1))]) hx hb dX6_isUnlike_13 hl (by decide) rfl (fun ls hl => ?_)
  refine lv_iconst (v := 0) hx hb dX6_isUnlike_15 (by decide) ?_
  refine lv_istore (lv' := [(5, .int 0), (4, .int 0), (3, .int v3_11), (2, .int q_1), (0, .ref (HB.size + 44)), (1, .ref (HB.size + v1))]) hx hb dX6_isUnlike_16 hl (by decide) rfl (fun ls hl => ?_)
  exact b18  F H locs ls G2 G9 G12 G13 G14 v1 q_1 v3_11 0 0 ha_v1 hk_v1 hI e2 e9 e12 e13 e14 (lv_sub hl [4, 5, 3, 2, 1, 0] rfl) h
noncomputable def f_X6_isToHold (F : Nat) (G2 : Grp) (G4 : Grp) (G5 : Grp) (G9 : Grp) (G12 : Grp) (G13 : Grp) (G14 : Grp) (v1 : Nat) (v2 : Nat) : Option (Int32) :=
  om (G13.2.2 v1 0) (none) (fun t_1 => ob (f_X2_hintBits F G4 G5 51 v2) (fun q_12 => ob (f_J6_bitCount_0f7a4 F ((G9.1 t_1 7) ||| q_12)) (fun q_16 => ob (f_X2_hasAny F G4 G5 51 v2 104) (fun q_27 => if q_27 = 0 then ob (f_X6_isUnlike F G2 G9 G12 G13 G14 v1) (fun q_35 => if q_35 = 0 then ck 3 8 (if q_16 < (G2.1 2 (3 : Int32).toNatClampNeg) then some 0 else some 1) else some 1) else some 1))))
def RM_X6_isToHold : Room := { frames := 2, cells := 0, slots := 0, locals := 65 }
abbrev B_X6_isToHold (HB : Heap) (D : va_G) (y : Nat → ClassId) (n : Nat) (κ : Nat → Nat) (σ : St) (q : Int32) : Heap → Prop := fun H => IV HB D y n n κ σ [] H
set_option maxRecDepth 100000 in
set_option maxHeartbeats 4000000 in
theorem c_X6_isToHold (l : Launch) (HB : Heap) (D : va_G) (y : Nat → ClassId) (F n : Nat) (κ : Nat → Nat) (σ : St) (hN : N0 ≤ n) (v1 : Nat) (ha_v1 : v1 < n) (hk_v1 : κ v1 = 4) (v2 : Nat) (ha_v2 : v2 < n) (hk_v2 : κ v2 = 7) (G2 : Grp) (e2 : σ 2 = G2) (G4 : Grp) (e4 : σ 4 = G4) (G5 : Grp) (e5 : σ 5 = G5) (G9 : Grp) (e9 : σ 9 = G9) (G12 : Grp) (e12 : σ 12 = G12) (G13 : Grp) (e13 : σ 13 = G13) (G14 : Grp) (e14 : σ 14 = G14) (q : Int32) (h : f_X6_isToHold F G2 G4 G5 G9 G12 G13 G14 v1 v2 = some q) : MT l HB D y yX6_isToHold cX6_isToHold 4 (some .boolean) RM_X6_isToHold [.ref (HB.size + 44), .ref (HB.size + v1), .ref (HB.size + v2)] (IV HB D y n n κ σ []) (some (.int q)) (B_X6_isToHold HB D y n κ σ q) := by
  refine Met.ofW (cc := cX6_isToHold) (maxL := 4) (ret := (some .boolean)) (by decide) rfl ?_
  intro p e s m args below meth c s₁ BL hml hv
  obtain ⟨rfl, hI, hKK⟩ := hv
  have hx := BL.exec
  have hb := BL.bytes
  have hr := BL.returns
  have hts : ∀ w ∈ gtb, w.before _ s = true := fun w hw => atoms_spec BL.pre w (List.mem_cons_of_mem _ hw)
  have hml : c.maxLocals = 4 := hml
  have hown : s.vm.findClass RX6 = some m.cls := findClass_of_methodNamed BL.named
  have hlocks := BL.notSynchronized
  have hk0 := hI.1.2.2.2.2
  have hl := lv_entry ([.ref (HB.size + 44), .ref (HB.size + v1), .ref (HB.size + v2)]) (n := 4) (Nat.le_of_ble_eq_true rfl)
  rw [lg_entry_eq]
  generalize (lg_sl ([.ref (HB.size + 44), .ref (HB.size + v1), .ref (HB.size + v2)]) ++ List.replicate (4 - (lg_sl ([.ref (HB.size + 44), .ref (HB.size + v1), .ref (HB.size + v2)])).length) Slot.unset).toArray = ls at hl ⊢
  have hl : lv_has ls 4 [(0, .ref (HB.size + 44)), (1, .ref (HB.size + v1)), (2, .ref (HB.size + v2))] := hl
  generalize hargs : ([.ref (HB.size + 44), .ref (HB.size + v1), .ref (HB.size + v2)] : List Value).toArray = args at *
  show WX RM_X6_isToHold p l e s m args below meth c HB (some (.int q)) (B_X6_isToHold HB D y n κ σ q) s.heap [] (F0 m 0 ls [])
  generalize s.heap = H at hI ⊢
  unfold f_X6_isToHold at h
  obtain ⟨locs, hlocs⟩ : ∃ x : List Loc, x = [] := ⟨_, rfl⟩
  rw [← hlocs] at hI ⊢
  refine lv_aload_n hx hb dX6_isToHold_0 rfl (lv_at hl 1 rfl) ?_
  refine gt_X6_52 hx hb hts hown hKK hI e13 ha_v1 hk_v1 dX6_isToHold_1 ?_
  rcases om_e h with ⟨eo, h⟩ | ⟨t_1, eo, h⟩
  · cases h
  · refine topr eo ?_
    obtain ⟨ha_1, hk_1⟩ := typF hI ha_v1 hk_v1 0 rfl e13 eo
    refine gt_X6_125 hx hb hts hown hKK hI e9 ha_1 hk_1 dX6_isToHold_4 ?_
    refine lv_aload_n hx hb dX6_isToHold_7 rfl (lv_at hl 0 rfl) ?_
    refine gf_X6_37 hx hb hts hown hKK hI hN dX6_isToHold_8 ?_
    refine lv_aload_n hx hb dX6_isToHold_11 rfl (lv_at hl 2 rfl) ?_
    obtain ⟨q_12, hq_12, h⟩ := ob_e h
    refine r_callV (As := [.ref (HB.size + v2)]) (rest := [.int (G9.1 t_1 7)]) hx hb hml hts hown (c_X2_hintBits l HB D y F n κ σ hN 51 (lc51 hN) (kc51 hk0) v2 ha_v2 hk_v2 G4 e4 G5 e5 q_12 hq_12) cal_X2_hintBits im_X2_hintBits se_X2_hintBits lm_X6_128 ⟨Nat.le_of_ble_eq_true rfl, Nat.le_of_ble_eq_true rfl⟩ hI.nil hKK (r_recv hKK hI (hE2 HB.size y) rfl (lc51 hN) (kc51 hk0)) rfl hl.1 hI.2.2 rfl (Nat.le_of_ble_eq_true rfl) dX6_isToHold_12 ⟨Nat.le_of_ble_eq_true rfl, Nat.le_of_ble_eq_true rfl⟩ rfl rfl rfl (fun H locs hB hlo => ?_)
    have hI := hB.re hlo
    refine lv_ior hx hb dX6_isToHold_15 ?_
    obtain ⟨q_16, hq_16, h⟩ := ob_e h
    refine r_callS (As := [.int ((G9.1 t_1 7) ||| q_12)]) (rest := []) hx hb hml hts hown (c_J6_bitCount_0f7a4 l HB D y F n κ σ hN ((G9.1 t_1 7) ||| q_12)  q_16 hq_16) cal_J6_bitCount_0f7a4 st_J6_bitCount_0f7a4 lm_X6_132 ⟨Nat.le_of_ble_eq_true rfl, Nat.le_of_ble_eq_true rfl⟩ hI.nil hKK rfl hl.1 hI.2.2 rfl (Nat.le_of_ble_eq_true rfl) dX6_isToHold_16 ⟨Nat.le_of_ble_eq_true rfl, Nat.le_of_ble_eq_true rfl⟩ rfl rfl rfl (fun H locs hB hlo => ?_)
    have hI := hB.re hlo
    refine lv_istore_n (lv' := [(3, .int q_16), (0, .ref (HB.size + 44)), (1, .ref (HB.size + v1)), (2, .ref (HB.size + v2))]) hx hb dX6_isToHold_19 rfl hl (by decide) rfl (fun ls hl => ?_)
    refine lv_aload_n hx hb dX6_isToHold_20 rfl (lv_at hl 1 rfl) ?_
    refine gf_X6_37 hx hb hts hown hKK hI hN dX6_isToHold_21 ?_
    refine lv_aload_n hx hb dX6_isToHold_24 rfl (lv_at hl 3 rfl) ?_
    refine lv_bipush (v := 104) hx hb dX6_isToHold_25 (by decide) ?_
    obtain ⟨q_27, hq_27, h⟩ := ob_e h
    refine r_callV (As := [.ref (HB.size + v2), .int 104]) (rest := []) hx hb hml hts hown (c_X2_hasAny l HB D y F n κ σ hN 51 (lc51 hN) (kc51 hk0) v2 ha_v2 hk_v2 104 G4 e4 G5 e5 q_27 hq_27) cal_X2_hasAny im_X2_hasAny se_X2_hasAny lm_X6_114 ⟨Nat.le_of_ble_eq_true rfl, Nat.le_of_ble_eq_true rfl⟩ hI.nil hKK (r_recv hKK hI (hE2 HB.size y) rfl (lc51 hN) (kc51 hk0)) rfl hl.1 hI.2.2 rfl (Nat.le_of_ble_eq_true rfl) dX6_isToHold_27 ⟨Nat.le_of_ble_eq_true rfl, Nat.le_of_ble_eq_true rfl⟩ rfl rfl rfl (fun H locs hB hlo => ?_)
    have hI := hB.re hlo
    refine lv_if_ne (tgt := 51) hx hb dX6_isToHold_30 (by decide) (fun hc => ?_) (fun hc => ?_)
    · replace h := ite_f hc h
      refine lv_iconst (v := 1) hx hb dX6_isToHold_51 (by decide) ?_
      refine lv_goto (tgt := 56) hx hb dX6_isToHold_52 (by decide) ?_
      have hq := Option.some.inj h
      exact W.zret (v := 1) (ty := .boolean) hx hb hr rfl (fun t ht hW => qc_mk (congrArg (fun z => Outcome.returned (some (Value.int z))) hq) (by rw [ht]; exact hI.nil)) hI.2.2 dX6_isToHold_56 hlocks
    · replace h := ite_t hc h
      refine lv_aload_n hx hb dX6_isToHold_33 rfl (lv_at hl 1 rfl) ?_
      refine lv_aload_n hx hb dX6_isToHold_34 rfl (lv_at hl 2 rfl) ?_
      obtain ⟨q_35, hq_35, h⟩ := ob_e h
      refine r_callV (As := [.ref (HB.size + v1)]) (rest := []) hx hb hml hts hown (c_X6_isUnlike l HB D y F n κ σ hN v1 ha_v1 hk_v1 G2 e2 G9 e9 G12 e12 G13 e13 G14 e14 q_35 hq_35) cal_X6_isUnlike im_X6_isUnlike se_X6_isUnlike lm_X6_138 ⟨Nat.le_of_ble_eq_true rfl, Nat.le_of_ble_eq_true rfl⟩ hI.nil hKK (r_recv hKK hI (hE6 HB.size y) rfl (lc44 hN) (kc44 hk0)) rfl hl.1 hI.2.2 rfl (Nat.le_of_ble_eq_true rfl) dX6_isToHold_35 ⟨Nat.le_of_ble_eq_true rfl, Nat.le_of_ble_eq_true rfl⟩ rfl rfl rfl (fun H locs hB hlo => ?_)
      have hI := hB.re hlo
      refine lv_if_ne (tgt := 51) hx hb dX6_isToHold_38 (by decide) (fun hc => ?_) (fun hc => ?_)
      · replace h := ite_f hc h
        refine lv_iconst (v := 1) hx hb dX6_isToHold_51 (by decide) ?_
        refine lv_goto (tgt := 56) hx hb dX6_isToHold_52 (by decide) ?_
        have hq := Option.some.inj h
        exact W.zret (v := 1) (ty := .boolean) hx hb hr rfl (fun t ht hW => qc_mk (congrArg (fun z => Outcome.returned (some (Value.int z))) hq) (by rw [ht]; exact hI.nil)) hI.2.2 dX6_isToHold_56 hlocks
      · replace h := ite_t hc h
        refine lv_iload_n hx hb dX6_isToHold_41 rfl (lv_at hl 0 rfl) ?_
        refine lv_aload_n hx hb dX6_isToHold_42 rfl (lv_at hl 1 rfl) ?_
        refine gf_X6_45 hx hb hts hown hKK hI hN dX6_isToHold_43 ?_
        refine lv_iconst (v := 3) hx hb dX6_isToHold_46 (by decide) ?_
        obtain ⟨hin_, h⟩ := ck_e h
        refine la_14 hx hb hKK hI e2 (lc2 hN) (kc2 hk0) hin_ dX6_isToHold_47 ?_
        refine lv_icmp_lt (tgt := 55) hx hb dX6_isToHold_48 (by decide) (fun hc => ?_) (fun hc => ?_)
        · replace h := ite_t hc h
          refine lv_iconst (v := 0) hx hb dX6_isToHold_55 (by decide) ?_
          have hq := Option.some.inj h
          exact W.zret (v := 0) (ty := .boolean) hx hb hr rfl (fun t ht hW => qc_mk (congrArg (fun z => Outcome.returned (some (Value.int z))) hq) (by rw [ht]; exact hI.nil)) hI.2.2 dX6_isToHold_56 hlocks
        · replace h := ite_f hc h
          refine lv_iconst (v := 1) hx hb dX6_isToHold_51 (by decide) ?_
          refine lv_goto (tgt := 56) hx hb dX6_isToHold_52 (by decide) ?_
          have hq := Option.some.inj h
          exact W.zret (v := 1) (ty := .boolean) hx hb hr rfl (fun t ht hW => qc_mk (congrArg (fun z => Outcome.returned (some (Value.int z))) hq) (by rw [ht]; exact hI.nil)) hI.2.2 dX6_isToHold_56 hlocks
