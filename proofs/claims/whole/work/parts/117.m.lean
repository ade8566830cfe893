noncomputable def f_X12_of (F : Nat) (G25 : Grp) (G32 : Grp) (v1 : Int32) (v2 : Int32) : Option (Int32) :=
  ob (f_X12_isPair F G25 v1) (fun q_2 => if q_2 = 0 then some (-1) else if v2 = 0 then ck v1 40 (some (G25.1 99 v1.toNatClampNeg)) else if v2 = 1 then ck v1 40 (some (G25.1 100 v1.toNatClampNeg)) else if v2 = 2 then ck v1 40 (some (G25.1 101 v1.toNatClampNeg)) else if v2 = 3 then ck v1 40 (some (G25.1 102 v1.toNatClampNeg)) else if v2 = 4 then ck v1 40 (some (G25.1 104 v1.toNatClampNeg)) else if v2 = 5 then ob (f_X12_lettersOf F G32 v1) (fun q_85 => some q_85) else some (-1))
def RM_X12_of : Room := { frames := 1, cells := 0, slots := 0, locals := 23 }
abbrev B_X12_of (HB : Heap) (D : va_G) (y : Nat → ClassId) (n : Nat) (κ : Nat → Nat) (σ : St) (q : Int32) : Heap → Prop := fun H => IV HB D y n n κ σ [] H
set_option maxRecDepth 100000 in
set_option maxHeartbeats 4000000 in
theorem c_X12_of (l : Launch) (HB : Heap) (D : va_G) (y : Nat → ClassId) (F n : Nat) (κ : Nat → Nat) (σ : St) (hN : N0 ≤ n) (v1 : Int32)  (v2 : Int32)  (G25 : Grp) (e25 : σ 25 = G25) (G32 : Grp) (e32 : σ 32 = G32) (q : Int32) (h : f_X12_of F G25 G32 v1 v2 = some q) : MT l HB D y yX12_of cX12_of 3 (some .int) RM_X12_of [.ref (HB.size + 91), .int v1, .int v2] (IV HB D y n n κ σ []) (some (.int q)) (B_X12_of HB D y n κ σ q) := by
  refine Met.ofW (cc := cX12_of) (maxL := 3) (ret := (some .int)) (by decide) rfl ?_
  intro p e s m args below meth c s₁ BL hml hv
  obtain ⟨rfl, hI, hKK⟩ := hv
  have hx := BL.exec
  have hb := BL.bytes
  have hr := BL.returns
  have hts : ∀ w ∈ gtb, w.before _ s = true := fun w hw => atoms_spec BL.pre w (List.mem_cons_of_mem _ hw)
  have hml : c.maxLocals = 3 := hml
  have hown : s.vm.findClass RX12 = some m.cls := findClass_of_methodNamed BL.named
  have hlocks := BL.notSynchronized
  have hk0 := hI.1.2.2.2.2
  have hl := lv_entry ([.ref (HB.size + 91), .int v1, .int v2]) (n := 3) (Nat.le_of_ble_eq_true rfl)
  rw [lg_entry_eq]
  generalize (lg_sl ([.ref (HB.size + 91), .int v1, .int v2]) ++ List.replicate (3 - (lg_sl ([.ref (HB.size + 91), .int v1, .int v2])).length) Slot.unset).toArray = ls at hl ⊢
  have hl : lv_has ls 3 [(0, .ref (HB.size + 91)), (1, .int v1), (2, .int v2)] := hl
  generalize hargs : ([.ref (HB.size + 91), .int v1, .int v2] : List Value).toArray = args at *
  show WX RM_X12_of p l e s m args below meth c HB (some (.int q)) (B_X12_of HB D y n κ σ q) s.heap [] (F0 m 0 ls [])
  generalize s.heap = H at hI ⊢
  unfold f_X12_of at h
  obtain ⟨locs, hlocs⟩ : ∃ x : List Loc, x = [] := ⟨_, rfl⟩
  rw [← hlocs] at hI ⊢
  refine lv_aload_n hx hb dX12_of_0 rfl (lv_at hl 0 rfl) ?_
  refine lv_iload_n hx hb dX12_of_1 rfl (lv_at hl 1 rfl) ?_
  obtain ⟨q_2, hq_2, h⟩ := ob_e h
  refine r_callV (As := [.int v1]) (rest := []) hx hb hml hts hown (c_X12_isPair l HB D y F n κ σ hN v1 G25 e25 q_2 hq_2) cal_X12_isPair im_X12_isPair se_X12_isPair lm_X12_304 ⟨Nat.le_of_ble_eq_true rfl, Nat.le_of_ble_eq_true rfl⟩ hI.nil hKK (r_recv hKK hI (hE12 HB.size y) rfl (lc91 hN) (kc91 hk0)) rfl hl.1 hI.2.2 rfl (Nat.le_of_ble_eq_true rfl) dX12_of_2 ⟨Nat.le_of_ble_eq_true rfl, Nat.le_of_ble_eq_true rfl⟩ rfl rfl rfl (fun H locs hB hlo => ?_)
  have hI := hB.re hlo
  refine lv_if_ne (tgt := 10) hx hb dX12_of_5 (by decide) (fun hc => ?_) (fun hc => ?_)
  · replace h := ite_f hc h
    refine lv_iload_n hx hb dX12_of_10 rfl (lv_at hl 2 rfl) ?_
    by_cases hc0 : v2 = 0
    · replace h := ite_t hc0 h
      refine lv_tableIn (off := 37) (tgt := 48) hx hb dX12_of_11 (by rw [hc0]; decide) (by rw [hc0]; decide) (by rw [hc0]; decide) (by decide) ?_
      refine lv_aload_n hx hb dX12_of_48 rfl (lv_at hl 0 rfl) ?_
      refine gf_X12_31 hx hb hts hown hKK hI hN dX12_of_49 ?_
      refine lv_iload_n hx hb dX12_of_52 rfl (lv_at hl 1 rfl) ?_
      obtain ⟨hin_, h⟩ := ck_e h
      refine la_44 hx hb hKK hI e25 (lc99 hN) (kc99 hk0) hin_ dX12_of_53 ?_
      have hq := Option.some.inj h
      exact W.iret (v := (G25.1 99 v1.toNatClampNeg)) hx hb hr (fun t ht hW => qc_mk (congrArg (fun z => Outcome.returned (some (Value.int z))) hq) (by rw [ht]; exact hI.nil)) hI.2.2 dX12_of_54 hlocks
    · replace h := ite_f hc0 h
      by_cases hc1 : v2 = 1
      · replace h := ite_t hc1 h
        refine lv_tableIn (off := 44) (tgt := 55) hx hb dX12_of_11 (by rw [hc1]; decide) (by rw [hc1]; decide) (by rw [hc1]; decide) (by decide) ?_
        refine lv_aload_n hx hb dX12_of_55 rfl (lv_at hl 0 rfl) ?_
        refine gf_X12_34 hx hb hts hown hKK hI hN dX12_of_56 ?_
        refine lv_iload_n hx hb dX12_of_59 rfl (lv_at hl 1 rfl) ?_
        obtain ⟨hin_, h⟩ := ck_e h
        refine la_44 hx hb hKK hI e25 (lc100 hN) (kc100 hk0) hin_ dX12_of_60 ?_
        have hq := Option.some.inj h
        exact W.iret (v := (G25.1 100 v1.toNatClampNeg)) hx hb hr (fun t ht hW => qc_mk (congrArg (fun z => Outcome.returned (some (Value.int z))) hq) (by rw [ht]; exact hI.nil)) hI.2.2 dX12_of_61 hlocks
      · replace h := ite_f hc1 h
        by_cases hc2 : v2 = 2
        · replace h := ite_t hc2 h
          refine lv_tableIn (off := 51) (tgt := 62) hx hb dX12_of_11 (by rw [hc2]; decide) (by rw [hc2]; decide) (by rw [hc2]; decide) (by decide) ?_
          refine lv_aload_n hx hb dX12_of_62 rfl (lv_at hl 0 rfl) ?_
          refine gf_X12_37 hx hb hts hown hKK hI hN dX12_of_63 ?_
          refine lv_iload_n hx hb dX12_of_66 rfl (lv_at hl 1 rfl) ?_
          obtain ⟨hin_, h⟩ := ck_e h
          refine la_44 hx hb hKK hI e25 (lc101 hN) (kc101 hk0) hin_ dX12_of_67 ?_
          have hq := Option.some.inj h
          exact W.iret (v := (G25.1 101 v1.toNatClampNeg)) hx hb hr (fun t ht hW => qc_mk (congrArg (fun z => Outcome.returned (some (Value.int z))) hq) (by rw [ht]; exact hI.nil)) hI.2.2 dX12_of_68 hlocks
        · replace h := ite_f hc2 h
          by_cases hc3 : v2 = 3
          · replace h := ite_t hc3 h
            refine lv_tableIn (off := 58) (tgt := 69) hx hb dX12_of_11 (by rw [hc3]; decide) (by rw [hc3]; decide) (by rw [hc3]; decide) (by decide) ?_
            refine lv_aload_n hx hb dX12_of_69 rfl (lv_at hl 0 rfl) ?_
            refine gf_X12_40 hx hb hts hown hKK hI hN dX12_of_70 ?_
            refine lv_iload_n hx hb dX12_of_73 rfl (lv_at hl 1 rfl) ?_
            obtain ⟨hin_, h⟩ := ck_e h
            refine la_44 hx hb hKK hI e25 (lc102 hN) (kc102 hk0) hin_ dX12_of_74 ?_
            have hq := Option.some.inj h
            exact W.iret (v := (G25.1 102 v1.toNatClampNeg)) hx hb hr (fun t ht hW => qc_mk (congrArg (fun z => Outcome.returned (some (Value.int z))) hq) (by rw [ht]; exact hI.nil)) hI.2.2 dX12_of_75 hlocks
          · replace h := ite_f hc3 h
            by_cases hc4 : v2 = 4
            · replace h := ite_t hc4 h
              refine lv_tableIn (off := 65) (tgt := 76) hx hb dX12_of_11 (by rw [hc4]; decide) (by rw [hc4]; decide) (by rw [hc4]; decide) (by decide) ?_
              refine lv_aload_n hx hb dX12_of_76 rfl (lv_at hl 0 rfl) ?_
              refine gf_X12_46 hx hb hts hown hKK hI hN dX12_of_77 ?_
              refine lv_iload_n hx hb dX12_of_80 rfl (lv_at hl 1 rfl) ?_
              obtain ⟨hin_, h⟩ := ck_e h
              refine la_44 hx hb hKK hI e25 (lc104 hN) (kc104 hk0) hin_ dX12_of_81 ?_
              have hq := Option.some.inj h
              exact W.iret (v := (G25.1 104 v1.toNatClampNeg)) hx hb hr (fun t ht hW => qc_mk (congrArg (fun z => Outcome.returned (some (Value.int z))) hq) (by rw [ht]; exact hI.nil)) hI.2.2 dX12_of_82 hlocks
            · replace h := ite_f hc4 h
              by_cases hc5 : v2 = 5
              · replace h := ite_t hc5 h
                refine lv_tableIn (off := 72) (tgt := 83) hx hb dX12_of_11 (by rw [hc5]; decide) (by rw [hc5]; decide) (by rw [hc5]; decide) (by decide) ?_
                refine lv_aload_n hx hb dX12_of_83 rfl (lv_at hl 0 rfl) ?_
                refine lv_iload_n hx hb dX12_of_84 rfl (lv_at hl 1 rfl) ?_
                obtain ⟨q_85, hq_85, h⟩ := ob_e h
                refine r_callV (As := [.int v1]) (rest := []) hx hb hml hts hown (c_X12_lettersOf l HB D y F n κ σ hN v1 G32 e32 q_85 hq_85) cal_X12_lettersOf im_X12_lettersOf se_X12_lettersOf lm_X12_583 ⟨Nat.le_of_ble_eq_true rfl, Nat.le_of_ble_eq_true rfl⟩ hI.nil hKK (r_recv hKK hI (hE12 HB.size y) rfl (lc91 hN) (kc91 hk0)) rfl hl.1 hI.2.2 rfl (Nat.le_of_ble_eq_true rfl) dX12_of_85 ⟨Nat.le_of_ble_eq_true rfl, Nat.le_of_ble_eq_true rfl⟩ rfl rfl rfl (fun H locs hB hlo => ?_)
                have hI := hB.re hlo
                have hq := Option.some.inj h
                exact W.iret (v := q_85) hx hb hr (fun t ht hW => qc_mk (congrArg (fun z => Outcome.returned (some (Value.int z))) hq) (by rw [ht]; exact hI.nil)) hI.2.2 dX12_of_88 hlocks
              · replace h := ite_f hc5 h
                refine lv_tableOut (tgt := 89) hx hb dX12_of_11 (swo (fun j h1 h2 => ?_)) (by decide) ?_
                · have hj : j = 0 ∨ j = 1 ∨ j = 2 ∨ j = 3 ∨ j = 4 ∨ j = 5 := by omega
                  rcases hj with rfl | rfl | rfl | rfl | rfl | rfl
                  · exact lv_neT hc0 (by decide)
                  · exact lv_neT hc1 (by decide)
                  · exact lv_neT hc2 (by decide)
                  · exact lv_neT hc3 (by decide)
                  · exact lv_neT hc4 (by decide)
                  · exact lv_neT hc5 (by decide)
                · refine lv_iconst (v := (-1)) hx hb dX12_of_89 (by decide) ?_
                  have hq := Option.some.inj h
                  exact W.iret (v := (-1)) hx hb hr (fun t ht hW => qc_mk (congrArg (fun z => Outcome.returned (some (Value.int z))) hq) (by rw [ht]; exact hI.nil)) hI.2.2 dX12_of_90 hlocks
  · replace h := ite_t hc h
    refine lv_iconst (v := (-1)) hx hb dX12_of_8 (by decide) ?_
    have hq := Option.some.inj h
    exact W.iret (v := (-1)) hx hb hr (fun t ht hW => qc_mk (congrArg (fun z => Outcome.returned (some (Value.int z))) hq) (by rw [ht]; exact hI.nil)) hI.2.2 dX12_of_9 hlocks
noncomputable def f_X12_counted_b152 (F : Nat) (k4 : Grp → Grp → Grp → Grp → Grp → Int32 → Int32 → Int32 → Option (Int32)) (G24 : Grp) (G25 : Grp) (G35 : Grp) (G40 : Grp) (G42 : Grp) (v1 : Int32) (v2 : Int32) (v3 : Int32) (v4 : Int32) : Option (Int32) :=
  if v4 = 0 then bn ((v2 + 0)) (fun v2_164 => bn (v3 + 1) (fun v3_165 => k4 G24 G25 G35 G40 G42 v1 v2_164 v3_165)) else bn ((v2 + 1)) (fun v2_164 => bn (v3 + 1) (fun v3_165 => k4 G24 G25 G35 G40 G42 v1 v2_164 v3_165))
noncomputable def f_X12_counted_b69 (F : Nat) (k4 : Grp → Grp → Grp → Grp → Grp → Int32 → Int32 → Int32 → Option (Int32)) (G24 : Grp) (G25 : Grp) (G35 : Grp) (G40 : Grp) (G42 : Grp) (v1 : Int32) (v2 : Int32) (v3 : Int32) (s0 : Int32) : Option (Int32) :=
  f_X12_counted_b152 F k4 G24 G25 G35 G40 G42 v1 v2 v3 s0
noncomputable def f_X12_counted_b68 (F : Nat) (k4 : Grp → Grp → Grp → Grp → Grp → Int32 → Int32 → Int32 → Option (Int32)) (G24 : Grp) (G25 : Grp) (G35 : Grp) (G40 : Grp) (G42 : Grp) (v1 : Int32) (v2 : Int32) (v3 : Int32) : Option (Int32) :=
  f_X12_counted_b69 F k4 G24 G25 G35 G40 G42 v1 v2 v3 0
noncomputable def f_X12_counted_b96 (F : Nat) (k4 : Grp → Grp → Grp → Grp → Grp → Int32 → Int32 → Int32 → Option (Int32)) (G24 : Grp) (G25 : Grp) (G35 : Grp) (G40 : Grp) (G42 : Grp) (v1 : Int32) (v2 : Int32) (v3 : Int32) (s0 : Int32) : Option (Int32) :=
  f_X12_counted_b152 F k4 G24 G25 G35 G40 G42 v1 v2 v3 s0
noncomputable def f_X12_counted_b95 (F : Nat) (k4 : Grp → Grp → Grp → Grp → Grp → Int32 → Int32 → Int32 → Option (Int32)) (G24 : Grp) (G25 : Grp) (G35 : Grp) (G40 : Grp) (G42 : Grp) (v1 : Int32) (v2 : Int32) (v3 : Int32) : Option (Int32) :=
  f_X12_counted_b96 F k4 G24 G25 G35 G40 G42 v1 v2 v3 0
noncomputable def f_X12_counted_b123 (F : Nat) (k4 : Grp → Grp → Grp → Grp → Grp → Int32 → Int32 → Int32 → Option (Int32)) (G24 : Grp) (G25 : Grp) (G35 : Grp) (G40 : Grp) (G42 : Grp) (v1 : Int32) (v2 : Int32) (v3 : Int32) (s0 : Int32) : Option (Int32) :=
  f_X12_counted_b152 F k4 G24 G25 G35 G40 G42 v1 v2 v3 s0
noncomputable def f_X12_counted_b122 (F : Nat) (k4 : Grp → Grp → Grp → Grp → Grp → Int32 → Int32 → Int32 → Option (Int32)) (G24 : Grp) (G25 : Grp) (G35 : Grp) (G40 : Grp) (G42 : Grp) (v1 : Int32) (v2 : Int32) (v3 : Int32) : Option (Int32) :=
  f_X12_counted_b123 F k4 G24 G25 G35 G40 G42 v1 v2 v3 0
noncomputable def f_X12_counted_b150 (F : Nat) (k4 : Grp → Grp → Grp → Grp → Grp → Int32 → Int32 → Int32 → Option (Int32)) (G24 : Grp) (G25 : Grp) (G35 : Grp) (G40 : Grp) (G42 : Grp) (v1 : Int32) (v2 : Int32) (v3 : Int32) (s0 : Int32) : Option (Int32) :=
  f_X12_counted_b152 F k4 G24 G25 G35 G40 G42 v1 v2 v3 s0
noncomputable def f_X12_counted_b149 (F : Nat) (k4 : Grp → Grp → Grp → Grp → Grp → Int32 → Int32 → Int32 → Option (Int32)) (G24 : Grp) (G25 : Grp) (G35 : Grp) (G40 : Grp) (G42 : Grp) (v1 : Int32) (v2 : Int32) (v3 : Int32) : Option (Int32) :=
  f_X12_counted_b150 F k4 G24 G25 G35 G40 G42 v1 v2 v3 0
noncomputable def f_X12_counted_l4b (F : Nat)  (k4 : Grp → Grp → Grp → Grp → Grp → Int32 → Int32 → Int32 → Option (Int32)) (G24 : Grp) (G25 : Grp) (G35 : Grp) (G40 : Grp) (G42 : Grp) (v1 : Int32) (v2 : Int32) (v3 : Int32) : Option (Int32) :=
  if 1300 ≤ v3 then some v2 else if v1 = 5 then if (G25.1 91 4) ≤ v3 then f_X12_counted_b68 F k4 G24 G25 G35 G40 G42 v1 v2 v3 else ob (f_X12_isOpen F G25 v3) (fun q_58 => if q_58 = 0 then f_X12_counted_b68 F k4 G24 G25 G35 G40 G42 v1 v2 v3 else f_X12_counted_b69 F k4 G24 G25 G35 G40 G42 v1 v2 v3 1) else if v1 = 8 then if (G35.1 91 58) ≤ v3 then f_X12_counted_b95 F k4 G24 G25 G35 G40 G42 v1 v2 v3 else ck v3 1300 (if (G35.1 146 v3.toNatClampNeg) = 0 then f_X12_counted_b95 F k4 G24 G25 G35 G40 G42 v1 v2 v3 else f_X12_counted_b96 F k4 G24 G25 G35 G40 G42 v1 v2 v3 1) else if v1 = 13 then if (G40.1 91 93) ≤ v3 then f_X12_counted_b122 F k4 G24 G25 G35 G40 G42 v1 v2 v3 else ck v3 12 (if (G40.1 164 v3.toNatClampNeg) = 0 then f_X12_counted_b122 F k4 G24 G25 G35 G40 G42 v1 v2 v3 else f_X12_counted_b123 F k4 G24 G25 G35 G40 G42 v1 v2 v3 1) else if (G24.1 91 2) ≤ v3 then f_X12_counted_b149 F k4 G24 G25 G35 G40 G42 v1 v2 v3 else ck v3 16 (if (G42.1 172 v3.toNatClampNeg) = 0 then f_X12_counted_b149 F k4 G24 G25 G35 G40 G42 v1 v2 v3 else f_X12_counted_b150 F k4 G24 G25 G35 G40 G42 v1 v2 v3 1)
noncomputable def f_X12_counted_l4 (F : Nat)  (fu : Nat) : Grp → Grp → Grp → Grp → Grp → Int32 → Int32 → Int32 → Option (Int32) := Nat.rec (motive := fun _ => Grp → Grp → Grp → Grp → Grp → Int32 → Int32 → Int32 → Option (Int32)) (fun _ _ _ _ _ _ _ _ => none) (fun _ ih => f_X12_counted_l4b F  ih) fu
noncomputable def f_X12_counted (F : Nat) (G24 : Grp) (G25 : Grp) (G35 : Grp) (G40 : Grp) (G42 : Grp) (v1 : Int32) : Option (Int32) :=
  f_X12_counted_l4 F  F G24 G25 G35 G40 G42 v1 0 0
def RM_X12_counted : Room := { frames := 1, cells := 0, slots := 0, locals := 21 }
abbrev B_X12_counted (HB : Heap) (D : va_G) (y : Nat → ClassId) (n : Nat) (κ : Nat → Nat) (σ : St) (q : Int32) : Heap → Prop := fun H => IV HB D y n n κ σ [] H
set_option maxRecDepth 100000 in
set_option maxHeartbeats 4000000 in
theorem c_X12_counted (l : Launch) (HB : Heap) (D : va_G) (y : Nat → ClassId) (F n : Nat) (κ : Nat → Nat) (σ : St) (hN : N0 ≤ n) (v1 : Int32)  (G24 : Grp) (e24 : σ 24 = G24) (G25 : Grp) (e25 : σ 25 = G25) (G35 : Grp) (e35 : σ 35 = G35) (G40 : Grp) (e40 : σ 40 = G40) (G42 : Grp) (e42 : σ 42 = G42) (q : Int32) (h : f_X12_counted F G24 G25 G35 G40 G42 v1 = some q) : MT l HB D y yX12_counted cX12_counted 5 (some .int) RM_X12_counted [.ref (HB.size + 91), .int v1] (IV HB D y n n κ σ []) (some (.int q)) (B_X12_counted HB D y n κ σ q) := by
  refine Met.ofW (cc := cX12_counted) (maxL := 5) (ret := (some .int)) (by decide) rfl ?_
  intro p e s m args below meth c s₁ BL hml hv
  obtain ⟨rfl, hI, hKK⟩ := hv
  have hx := BL.exec
  have hb := BL.bytes
  have hr := BL.returns
  have hts : ∀ w ∈ gtb, w.before _ s = true := fun w hw => atoms_spec BL.pre w (List.mem_cons_of_mem _ hw)
  have hml : c.maxLocals = 5 := hml
  have hown : s.vm.findClass RX12 = some m.cls := findClass_of_methodNamed BL.named
  have hlocks := BL.notSynchronized
  have hk0 := hI.1.2.2.2.2
  have hl := lv_entry ([.ref (HB.size + 91), .int v1]) (n := 5) (Nat.le_of_ble_eq_true rfl)
  rw [lg_entry_eq]
  generalize (lg_sl ([.ref (HB.size + 91), .int v1]) ++ List.replicate (5 - (lg_sl ([.ref (HB.size + 91), .int v1])).length) Slot.unset).toArray = ls at hl ⊢
  have hl : lv_has ls 5 [(0, .ref (HB.size + 91)), (1, .int v1)] := hl
  generalize hargs : ([.ref (HB.size + 91), .int v1] : List Value).toArray = args at *
  have b152 : ∀ (k4 : Grp → Grp → Grp → Grp → Grp → Int32 → Int32 → Int32 → Option (Int32)) (hk4 : ∀ (H : Heap) (locs : List Loc) (ls : Array Slot) (G24 : Grp) (G25 : Grp) (G35 : Grp) (G40 : Grp) (G42 : Grp) (v1 : Int32) (v2 : Int32) (v3 : Int32) , IV HB D y n n κ σ locs H → σ 24 = G24 → σ 25 = G25 → σ 35 = G35 → σ 40 = G40 → σ 42 = G42 → lv_has ls 5 [(0, .ref (HB.size + 91)), (1, .int v1), (2, .int v2), (3, .int v3)] → k4 G24 G25 G35 G40 G42 v1 v2 v3 = some q → WX RM_X12_counted p l e s m args below meth c HB (some (.int q)) (B_X12_counted HB D y n κ σ q) H locs (F0 m 4 ls [])) (H : Heap) (locs : List Loc) (ls : Array Slot) (G24 : Grp) (G25 : Grp) (G35 : Grp) (G40 : Grp) (G42 : Grp) (v1 : Int32) (v2 : Int32) (v3 : Int32) (v4 : Int32) , IV HB D y n n κ σ locs H → σ 24 = G24 → σ 25 = G25 → σ 35 = G35 → σ 40 = G40 → σ 42 = G42 → lv_has ls 5 [(0, .ref (HB.size + 91)), (1, .int v1), (2, .int v2), (3, .int v3), (4, .int v4)] → f_X12_counted_b152 F k4 G24 G25 G35 G40 G42 v1 v2 v3 v4 = some q → WX RM_X12_counted p l e s m args below meth c HB (some (.int q)) (B_X12_counted HB D y n κ σ q) H locs (F0 m 152 ls []) := by
    intro k4 hk4 H locs ls G24 G25 G35 G40 G42 v1 v2 v3 v4 hI e24 e25 e35 e40 e42 hl h
    unfold f_X12_counted_b152 at h
    refine lv_iload_n hx hb dX12_counted_152 rfl (lv_at hl 2 rfl) ?_
    refine lv_iload hx hb dX12_counted_153 (lv_at hl 4 rfl) ?_
    refine lv_if_eq (tgt := 162) hx hb dX12_counted_155 (by decide) (fun hc => ?_) (fun hc => ?_)
    · replace h := ite_t hc h
      refine lv_iconst (v := 0) hx hb dX12_counted_162 (by decide) ?_
      refine lv_iadd hx hb dX12_counted_163 ?_
      obtain ⟨v2_164, qq, h⟩ := bn_e h
      refine topi qq ?_
      refine lv_istore_n (lv' := [(2, .int v2_164), (0, .ref (HB.size + 91)), (1, .int v1), (3, .int v3), (4, .int v4)]) hx hb dX12_counted_164 rfl hl (by decide) rfl (fun ls hl => ?_)
      obtain ⟨v3_165, qq, h⟩ := bn_e h
      refine lv_iinc (v := v3_165) (lv' := [(3, .int v3_165), (2, .int v2_164), (0, .ref (HB.size + 91)), (1, .int v1), (4, .int v4)]) hx hb dX12_counted_165 hl (k := 3) rfl (by rw [qq]; rfl) (by decide) rfl (fun ls hl => ?_)
      refine lv_goto (tgt := 4) hx hb dX12_counted_168 (by decide) ?_
      exact hk4 H locs ls G24 G25 G35 G40 G42 v1 v2_164 v3_165  hI e24 e25 e35 e40 e42 (lv_sub hl [2, 3, 1, 0] rfl) h
    · replace h := ite_f hc h
      refine lv_iconst (v := 1) hx hb dX12_counted_158 (by decide) ?_
      refine lv_goto (tgt := 163) hx hb dX12_counted_159 (by decide) ?_
      refine lv_iadd hx hb dX12_counted_163 ?_
      obtain ⟨v2_164, qq, h⟩ := bn_e h
      refine topi qq ?_
      refine lv_istore_n (lv' := [(2, .int v2_164), (0, .ref (HB.size + 91)), (1, .int v1), (3, .int v3), (4, .int v4)]) hx hb dX12_counted_164 rfl hl (by decide) rfl (fun ls hl => ?_)
      obtain ⟨v3_165, qq, h⟩ := bn_e h
      refine lv_iinc (v := v3_165) (lv' := [(3, .int v3_165), (2, .int v2_164), (0, .ref (HB.size + 91)), (1, .int v1), (4, .int v4)]) hx hb dX12_counted_165 hl (k := 3) rfl (by rw [qq]; rfl) (by decide) rfl (fun ls hl => ?_)
      refine lv_goto (tgt := 4) hx hb dX12_counted_168 (by decide) ?_
      exact hk4 H locs ls G24 G25 G35 G40 G42 v1 v2_164 v3_165  hI e24 e25 e35 e40 e42 (lv_sub hl [2, 3, 1, 0] rfl) h
  have b69 : ∀ (k4 : Grp → Grp → Grp → Grp → Grp → Int32 → Int32 → Int32 → Option (Int32)) (hk4 : ∀ (H : Heap) (locs : List Loc) (ls : Array Slot) (G24 : Grp) (G25 : Grp) (G35 : Grp) (G40 : Grp) (G42 : Grp) (v1 : Int32) (v2 : Int32) (v3 : Int32) , IV HB D y n n κ σ locs H → σ 24 = G24 → σ 25 = G25 → σ 35 = G35 → σ 40 = G40 → σ 42 = G42 → lv_has ls 5 [(0, .ref (HB.size + 91)), (1, .int v1), (2, .int v2), (3, .int v3)] → k4 G24 G25 G35 G40 G42 v1 v2 v3 = some q → WX RM_X12_counted p l e s m args below meth c HB (some (.int q)) (B_X12_counted HB D y n κ σ q) H locs (F0 m 4 ls [])) (H : Heap) (locs : List Loc) (ls : Array Slot) (G24 : Grp) (G25 : Grp) (G35 : Grp) (G40 : Grp) (G42 : Grp) (v1 : Int32) (v2 : Int32) (v3 : Int32) (s0 : Int32) , IV HB D y n n κ σ locs H → σ 24 = G24 → σ 25 = G25 → σ 35 = G35 → σ 40 = G40 → σ 42 = G42 → lv_has ls 5 [(0, .ref (HB.size + 91)), (1, .int v1), (2, .int v2), (3, .int v3)] → f_X12_counted_b69 F k4 G24 G25 G35 G40 G42 v1 v2 v3 s0 = some q → WX RM_X12_counted p l e s m args below meth c HB (some (.int q)) (B_X12_counted HB D y n κ σ q) H locs (F0 m 69 ls [.int s0]) := by
    intro k4 hk4 H locs ls G24 G25 G35 G40 G42 v1 v2 v3 s0 hI e24 e25 e35 e40 e42 hl h
    unfold f_X12_counted_b69 at h
    refine lv_istore (lv' := [(4, .int s0), (0, .ref (HB.size + 91)), (1, .int v1), (2, .int v2), (3, .int v3)]) hx hb dX12_counted_69 hl (by decide) rfl (fun ls hl => ?_)
    refine lv_goto (tgt := 152) hx hb dX12_counted_71 (by decide) ?_
    exact b152 k4 hk4 H locs ls G24 G25 G35 G40 G42 v1 v2 v3 s0  hI e24 e25 e35 e40 e42 (lv_sub hl [1, 2, 3, 4, 0] rfl) h
  have b68 : ∀ (k4 : Grp → Grp → Grp → Grp → Grp → Int32 → Int32 → Int32 → Option (Int32)) (hk4 : ∀ (H : Heap) (locs : List Loc) (ls : Array Slot) (G24 : Grp) (G25 : Grp) (G35 : Grp) (G40 : Grp) (G42 : Grp) (v1 : Int32) (v2 : Int32) (v3 : Int32) , IV HB D y n n κ σ locs H → σ 24 = G24 → σ 25 = G25 → σ 35 = G35 → σ 40 = G40 → σ 42 = G42 → lv_has ls 5 [(0, .ref (HB.size + 91)), (1, .int v1), (2, .int v2), (3, .int v3)] → k4 G24 G25 G35 G40 G42 v1 v2 v3 = some q → WX RM_X12_counted p l e s m args below meth c HB (some (.int q)) (B_X12_counted HB D y n κ σ q) H locs (F0 m 4 ls [])) (H : Heap) (locs : List Loc) (ls : Array Slot) (G24 : Grp) (G25 : Grp) (G35 : Grp) (G40 : Grp) (G42 : Grp) (v1 : Int32) (v2 : Int32) (v3 : Int32) , IV HB D y n n κ σ locs H → σ 24 = G24 → σ 25 = G25 → σ 35 = G35 → σ 40 = G40 → σ 42 = G42 → lv_has ls 5 [(0, .ref (HB.size + 91)), (1, .int v1), (2, .int v2), (3, .int v3)] → f_X12_counted_b68 F k4 G24 G25 G35 G40 G42 v1 v2 v3 = some q → WX RM_X12_counted p l e s m args below meth c HB (some (.int q)) (B_X12_counted HB D y n κ σ q) H locs (F0 m 68 ls []) := by
    intro k4 hk4 H locs ls G24 G25 G35 G40 G42 v1 v2 v3 hI e24 e25 e35 e40 e42 hl h
    unfold f_X12_counted_b68 at h
    refine lv_iconst (v := 0) hx hb dX12_counted_68 (by decide) ?_
    exact b69 k4 hk4 H locs ls G24 G25 G35 G40 G42 v1 v2 v3 0  hI e24 e25 e35 e40 e42 (lv_sub hl [0, 1, 2, 3] rfl) h
  have b96 : ∀ (k4 : Grp → Grp → Grp → Grp → Grp → Int32 → Int32 → Int32 → Option (Int32)) (hk4 : ∀ (H : Heap) (locs : List Loc) (ls : Array Slot) (G24 : Grp) (G25 : Grp) (G35 : Grp) (G40 : Grp) (G42 : Grp) (v1 : Int32) (v2 : Int32) (v3 : Int32) , IV HB D y n n κ σ locs H → σ 24 = G24 → σ 25 = G25 → σ 35 = G35 → σ 40 = G40 → σ 42 = G42 → lv_has ls 5 [(0, .ref (HB.size + 91)), (1, .int v1), (2, .int v2), (3, .int v3)] → k4 G24 G25 G35 G40 G42 v1 v2 v3 = some q → WX RM_X12_counted p l e s m args below meth c HB (some (.int q)) (B_X12_counted HB D y n κ σ q) H locs (F0 m 4 ls [])) (H : Heap) (locs : List Loc) (ls : Array Slot) (G24 : Grp) (G25 : Grp) (G35 : Grp) (G40 : Grp) (G42 : Grp) (v1 : Int32) (v2 : Int32) (v3 : Int32) (s0 : Int32) , IV HB D y n n κ σ locs H → σ 24 = G24 → σ 25 = G25 → σ 35 = G35 → σ 40 = G40 → σ 42 = G42 → lv_has ls 5 [(0, .ref (HB.size + 91)), (1, .int v1), (2, .int v2), (3, .int v3)] → f_X12_counted_b96 F k4 G24 G25 G35 G40 G42 v1 v2 v3 s0 = some q → WX RM_X12_counted p l e s m args below meth c HB (some (.int q)) (B_X12_counted HB D y n κ σ q) H locs (F0 m 96 ls [.int s0]) := by
    intro k4 hk4 H locs ls G24 G25 G35 G40 G42 v1 v2 v3 s0 hI e24 e25 e35 e40 e42 hl h
    unfold f_X12_counted_b96 at h
    refine lv_istore (lv' := [(4, .int s0), (0, .ref (HB.size + 91)), (1, .int v1), (2, .int v2), (3, .int v3)]) hx hb dX12_counted_96 hl (by decide) rfl (fun ls hl => ?_)
    refine lv_goto (tgt := 152) hx hb dX12_counted_98 (by decide) ?_
    exact b152 k4 hk4 H locs ls G24 G25 G35 G40 G42 v1 v2 v3 s0  hI e24 e25 e35 e40 e42 (lv_sub hl [1, 2, 3, 4, 0] rfl) h
  have b95 : ∀ (k4 : Grp → Grp → Grp → Grp → Grp → Int32 → Int32 → Int32 → Option (Int32)) (hk4 : ∀ (H : Heap) (locs : List Loc) (ls : Array Slot) (G24 : Grp) (G25 : Grp) (G35 : Grp) (G40 : Grp) (G42 : Grp) (v1 : Int32) (v2 : Int32) (v3 : Int32) , IV HB D y n n κ σ locs H → σ 24 = G24 → σ 25 = G25 → σ 35 = G35 → σ 40 = G40 → σ 42 = G42 → lv_has ls 5 [(0, .ref (HB.size + 91)), (1, .int v1), (2, .int v2), (3, .int v3)] → k4 G24 G25 G35 G40 G42 v1 v2 v3 = some q → WX RM_X12_counted p l e s m args below meth c HB (some (.int q)) (B_X12_counted HB D y n κ σ q) H locs (F0 m 4 ls [])) (H : Heap) (locs : List Loc) (ls : Array Slot) (G24 : Grp) (G25 : Grp) (G35 : Grp) (G40 : Grp) (G42 : Grp) (v1 : Int32) (v2 : Int32) (v3 : Int32) , IV HB D y n n κ σ locs H → σ 24 = G24 → σ 25 = G25 → σ 35 = G35 → σ 40 = G40 → σ 42 = G42 → lv_has ls 5 [(0, .ref (HB.size + 91)), (1, .int v1), (2, .int v2), (3, .int v3)] → f_X12_counted_b95 F k4 G24 G25 G35 G40 G42 v1 v2 v3 = some q → WX RM_X12_counted p l e s m args below meth c HB (some (.int q)) (B_X12_counted HB D y n κ σ q) H locs (F0 m 95 ls []) := by
    intro k4 hk4 H locs ls G24 G25 G35 G40 G42 v1 v2 v3 hI e24 e25 e35 e40 e42 hl h
    unfold f_X12_counted_b95 at h
    refine lv_iconst (v := 0) hx hb dX12_counted_95 (by decide) ?_
    exact b96 k4 hk4 H locs ls G24 G25 G35 G40 G42 v1 v2 v3 0  hI e24 e25 e35 e40 e42 (lv_sub hl [0, 1, 2, 3] rfl) h
  have b123 : ∀ (k4 : Grp → Grp → Grp → Grp → Grp → Int32 → Int32 → Int32 → Option (Int32)) (hk4 : ∀ (H : Heap) (locs : List Loc) (ls : Array Slot) (G24 : Grp) (G25 : Grp) (G35 : Grp) (G40 : Grp) (G42 : Grp) (v1 : Int32) (v2 : Int32) (v3 : Int32) , IV HB D y n n κ σ locs H → σ 24 = G24 → σ 25 = G25 → σ 35 = G35 → σ 40 = G40 → σ 42 = G42 → lv_has ls 5 [(0, .ref (HB.size + 91)), (1, .int v1), (2, .int v2), (3, .int v3)] → k4 G24 G25 G35 G40 G42 v1 v2 v3 = some q → WX RM_X12_counted p l e s m args below meth c HB (some (.int q)) (B_X12_counted HB D y n κ σ q) H locs (F0 m 4 ls [])) (H : Heap) (locs : List Loc) (ls : Array Slot) (G24 : Grp) (G25 : Grp) (G35 : Grp) (G40 : Grp) (G42 : Grp) (v1 : Int32) (v2 : Int32) (v3 : Int32) (s0 : Int32) , IV HB D y n n κ σ locs H → σ 24 = G24 → σ 25 = G25 → σ 35 = G35 → σ 40 = G40 → σ 42 = G42 → lv_has ls 5 [(0, .ref (HB.size + 91)), (1, .int v1), (2, .int v2), (3, .int v3)] → f_X12_counted_b123 F k4 G24 G25 G35 G40 G42 v1 v2 v3 s0 = some q → WX RM_X12_counted p l e s m args below meth c HB (some (.int q)) (B_X12_counted HB D y n κ σ q) H locs (F0 m 123 ls [.int s0]) := by
    intro k4 hk4 H locs ls G24 G25 G35 G40 G42 v1 v2 v3 s0 hI e24 e25 e35 e40 e42 hl h
    unfold f_X12_counted_b123 at h
    refine lv_istore (lv' := [(4, .int s0), (0, .ref (HB.size + 91)), (1, .int v1), (2, .int v2), (3, .int v3)]) hx hb dX12_counted_123 hl (by decide) rfl (fun ls hl => ?_)
    refine lv_goto (tgt := 152) hx hb dX12_counted_125 (by decide) ?_
    exact b152 k4 hk4 H locs ls G24 G25 G35 G40 G42 v1 v2 v3 s0  hI e24 e25 e35 e40 e42 (lv_sub hl [1, 2, 3, 4, 0] rfl) h
  have b122 : ∀ (k4 : Grp → Grp → Grp → Grp → Grp → Int32 → Int32 → Int32 → Option (Int32)) (hk4 : ∀ (H : Heap) (locs : List Loc) (ls : Array Slot) (G24 : Grp) (G25 : Grp) (G35 : Grp) (G40 : Grp) (G42 : Grp) (v1 : Int32) (v2 : Int32) (v3 : Int32) , IV HB D y n n κ σ locs H → σ 24 = G24 → σ 25 = G25 → σ 35 = G35 → σ 40 = G40 → σ 42 = G42 → lv_has ls 5 [(0, .ref (HB.size + 91)), (1, .int v1), (2, .int v2), (3, .int v3)] → k4 G24 G25 G35 G40 G42 v1 v2 v3 = some q → WX RM_X12_counted p l e s m args below meth c HB (some (.int q)) (B_X12_counted HB D y n κ σ q) H locs (F0 m 4 ls [])) (H : Heap) (locs : List Loc) (ls : Array Slot) (G24 : Grp) (G25 : Grp) (G35 : Grp) (G40 : Grp) (G42 : Grp) (v1 : Int32) (v2 : Int32) (v3 : Int32) , IV HB D y n n κ σ locs H → σ 24 = G24 → σ 25 = G25 → σ 35 = G35 → σ 40 = G40 → σ 42 = G42 → lv_has ls 5 [(0, .ref (HB.size + 91)), (1, .int v1), (2, .int v2), (3, .int v3)] → f_X12_counted_b122 F k4 G24 G25 G35 G40 G42 v1 v2 v3 = some q → WX RM_X12_counted p l e s m args below meth c HB (some (.int q)) (B_X12_counted HB D y n κ σ q) H locs (F0 m 122 ls []) := by
    intro k4 hk4 H locs ls G24 G25 G35 G40 G42 v1 v2 v3 hI e24 e25 e35 e40 e42 hl h
    unfold f_X12_counted_b122 at h
    refine lv_iconst (v := 0) hx hb dX12_counted_122 (by decide) ?_
    exact b123 k4 hk4 H locs ls G24 G25 G35 G40 G42 v1 v2 v3 0  hI e24 e25 e35 e40 e42 (lv_sub hl [0, 1, 2, 3] rfl) h
  have b150 : ∀ (k4 : Grp → Grp → Grp → Grp → Grp → Int32 → Int32 → Int32 → Option (Int32)) (hk4 : ∀ (H : Heap) (locs : List Loc) (ls : Array Slot) (G24 : Grp) (G25 : Grp) (G35 : Grp) (G40 : Grp) (G42 : Grp) (v1 : Int32) (v2 : Int32) (v3 : Int32) , IV HB D y n n κ σ locs H → σ 24 = G24 → σ 25 = G25 → σ 35 = G35 → σ 40 = G40 → σ 42 = G42 → lv_has ls 5 [(0, .ref (HB.size + 91)), (1, .int v1), (2, .int v2), (3, .int v3)] → k4 G24 G25 G35 G40 G42 v1 v2 v3 = some q → WX RM_X12_counted p l e s m args below meth c HB (some (.int q)) (B_X12_counted HB D y n κ σ q) H locs (F0 m 4 ls [])) (H : Heap) (locs : List Loc) (ls : Array Slot) (G24 : Grp) (G25 : Grp) (G35 : Grp) (G40 : Grp) (G42 : Grp) (v1 : Int32) (v2 : Int32) (v3 : Int32) (s0 : Int32) , IV HB D y n n κ σ locs H → σ 24 = G24 → σ 25 = G25 → σ 35 = G35 → σ 40 = G40 → σ 42 = G42 → lv_has ls 5 [(0, .ref (HB.size + 91)), (1, .int v1), (2, .int v2), (3, .int v3)] → f_X12_counted_b150 F k4 G24 G25 G35 G40 G42 v1 v2 v3 s0 = some q → WX RM_X12_counted p l e s m args below meth c HB (some (.int q)) (B_X12_counted HB D y n κ σ q) H locs (F0 m 150 ls [.int s0]) := by
    intro k4 hk4 H locs ls G24 G25 G35 G40 G42 v1 v2 v3 s0 hI e24 e25 e35 e40 e42 hl h
    unfold f_X12_counted_b150 at h
    refine lv_istore (lv' := [(4, .int s0), (0, .ref (HB.size + 91)), (1, .int v1), (2, .int v2), (3, .int v3)]) hx hb dX12_counted_150 hl (by decide) rfl (fun ls hl => ?_)
    exact b152 k4 hk4 H locs ls G24 G25 G35 G40 G42 v1 v2 v3 s0  hI e24 e25 e35 e40 e42 (lv_sub hl [1, 2, 3, 4, 0] rfl) h
  have b149 : ∀ (k4 : Grp → Grp → Grp → Grp → Grp → Int32 → Int32 → Int32 → Option (Int32)) (hk4 : ∀ (H : Heap) (locs : List Loc) (ls : Array Slot) (G24 : Grp) (G25 : Grp) (G35 : Grp) (G40 : Grp) (G42 : Grp) (v1 : Int32) (v2 : Int32) (v3 : Int32) , IV HB D y n n κ σ locs H → σ 24 = G24 → σ 25 = G25 → σ 35 = G35 → σ 40 = G40 → σ 42 = G42 → lv_has ls 5 [(0, .ref (HB.size + 91)), (1, .int v1), (2, .int v2), (3, .int v3)] → k4 G24 G25 G35 G40 G42 v1 v2 v3 = some q → WX RM_X12_counted p l e s m args below meth c HB (some (.int q)) (B_X12_counted HB D y n κ σ q) H locs (F0 m 4 ls [])) (H : Heap) (locs : List Loc) (ls : Array Slot) (G24 : Grp) (G25 : Grp) (G35 : Grp) (G40 : Grp) (G42 : Grp) (v1 : Int32) (v2 : Int32) (v3 : Int32) , IV HB D y n n κ σ locs H → σ 24 = G24 → σ 25 = G25 → σ 35 = G35 → σ 40 = G40 → σ 42 = G42 → lv_has ls 5 [(0, .ref (HB.size + 91)), (1, .int v1), (2, .int v2), (3, .int v3)] → f_X12_counted_b149 F k4 G24 G25 G35 G40 G42 v1 v2 v3 = some q → WX RM_X12_counted p l e s m args below meth c HB (some (.int q)) (B_X12_counted HB D y n κ σ q) H locs (F0 m 149 ls []) := by
    intro k4 hk4 H locs ls G24 G25 G35 G40 G42 v1 v2 v3 hI e24 e25 e35 e40 e42 hl h
    unfold f_X12_counted_b149 at h
    refine lv_iconst (v := 0) hx hb dX12_counted_149 (by decide) ?_
    exact b150 k4 hk4 H locs ls G24 G25 G35 G40 G42 v1 v2 v3 0  hI e24 e25 e35 e40 e42 (lv_sub hl [0, 1, 2, 3] rfl) h
  have b4 : ∀ (fu : Nat) (H : Heap) (locs : List Loc) (ls : Array Slot) (G24 : Grp) (G25 : Grp) (G35 : Grp) (G40 : Grp) (G42 : Grp) (v1 : Int32) (v2 : Int32) (v3 : Int32) , IV HB D y n n κ σ locs H → σ 24 = G24 → σ 25 = G25 → σ 35 = G35 → σ 40 = G40 → σ 42 = G42 → lv_has ls 5 [(0, .ref (HB.size + 91)), (1, .int v1), (2, .int v2), (3, .int v3)] → f_X12_counted_l4 F  fu G24 G25 G35 G40 G42 v1 v2 v3 = some q → WX RM_X12_counted p l e s m args below meth c HB (some (.int q)) (B_X12_counted HB D y n κ σ q) H locs (F0 m 4 ls []) := by
    intro  fu
    induction fu with
    | zero =>
      intro H locs ls G24 G25 G35 G40 G42 v1 v2 v3 hI e24 e25 e35 e40 e42 hl h
      exact absurd h (by intro h; cases h)
    | succ fu hk4 =>
      intro H locs ls G24 G25 G35 G40 G42 v1 v2 v3 hI e24 e25 e35 e40 e42 hl h
      have h : f_X12_counted_l4b F  (f_X12_counted_l4 F  fu) G24 G25 G35 G40 G42 v1 v2 v3 = some q := h
      generalize f_X12_counted_l4 F  fu = k4 at h hk4
      unfold f_X12_counted_l4b at h
      refine lv_iload_n hx hb dX12_counted_4 rfl (lv_at hl 3 rfl) ?_
      refine lv_sipush (v := 1300) hx hb dX12_counted_5 (by decide) ?_
      refine lv_icmp_ge (tgt := 171) hx hb dX12_counted_8 (by decide) (fun hc => ?_) (fun hc => ?_)
      · replace h := ite_t hc h
        refine lv_iload_n hx hb dX12_counted_171 rfl (lv_at hl 2 rfl) ?_
        have hq := Option.some.inj h
        exact W.iret (v := v2) hx hb hr (fun t ht hW => qc_mk (congrArg (fun z => Outcome.returned (some (Value.int z))) hq) (by rw [ht]; exact hI.nil)) hI.2.2 dX12_counted_172 hlocks
      · replace h := ite_f hc h
        refine lv_iconst (v := 0) hx hb dX12_counted_11 (by decide) ?_
        refine lv_istore (lv' := [(4, .int 0), (0, .ref (HB.size + 91)), (1, .int v1), (2, .int v2), (3, .int v3)]) hx hb dX12_counted_12 hl (by decide) rfl (fun ls hl => ?_)
        refine lv_iload_n hx hb dX12_counted_14 rfl (lv_at hl 2 rfl) ?_
        by_cases hc0 : v1 = 5
        · replace h := ite_t hc0 h
          refine lv_lookup (off := 33) (tgt := 48) hx hb dX12_counted_15 (by decide) (by rw [hc0]; decide) (by decide) ?_
          refine lv_iload_n hx hb dX12_counted_48 rfl (lv_at hl 4 rfl) ?_
          refine lv_aload_n hx hb dX12_counted_49 rfl (lv_at hl 1 rfl) ?_
          refine gt_X12_274 hx hb hts hown hKK hI e25 (lc91 hN) (kc91 hk0) dX12_counted_50 ?_
          refine lv_icmp_ge (tgt := 68) hx hb dX12_counted_53 (by decide) (fun hc => ?_) (fun hc => ?_)
          · replace h := ite_t hc h
            exact b68 k4 hk4 H locs ls G24 G25 G35 G40 G42 v1 v2 v3  hI e24 e25 e35 e40 e42 (lv_sub hl [1, 2, 3, 4] rfl) h
          · replace h := ite_f hc h
            refine lv_aload_n hx hb dX12_counted_56 rfl (lv_at hl 1 rfl) ?_
            refine lv_iload_n hx hb dX12_counted_57 rfl (lv_at hl 4 rfl) ?_
            obtain ⟨q_58, hq_58, h⟩ := ob_e h
            refine r_callV (As := [.int v3]) (rest := []) hx hb hml hts hown (c_X12_isOpen l HB D y F n κ σ hN v3 G25 e25 q_58 hq_58) cal_X12_isOpen im_X12_isOpen se_X12_isOpen lm_X12_277 ⟨Nat.le_of_ble_eq_true rfl, Nat.le_of_ble_eq_true rfl⟩ hI.nil hKK (r_recv hKK hI (hE12 HB.size y) rfl (lc91 hN) (kc91 hk0)) rfl hl.1 hI.2.2 rfl (Nat.le_of_ble_eq_true rfl) dX12_counted_58 ⟨Nat.le_of_ble_eq_true rfl, Nat.le_of_ble_eq_true rfl⟩ rfl rfl rfl (fun H locs hB hlo => ?_)
            have hI := hB.re hlo
            refine lv_if_eq (tgt := 68) hx hb dX12_counted_61 (by decide) (fun hc => ?_) (fun hc => ?_)
            · replace h := ite_t hc h
              exact b68 k4 hk4 H locs ls G24 G25 G35 G40 G42 v1 v2 v3  hI e24 e25 e35 e40 e42 (lv_sub hl [1, 2, 3, 4] rfl) h
            · replace h := ite_f hc h
              refine lv_iconst (v := 1) hx hb dX12_counted_64 (by decide) ?_
              refine lv_goto (tgt := 69) hx hb dX12_counted_65 (by decide) ?_
              exact b69 k4 hk4 H locs ls G24 G25 G35 G40 G42 v1 v2 v3 1  hI e24 e25 e35 e40 e42 (lv_sub hl [1, 2, 3, 4] rfl) h
        · replace h := ite_f hc0 h
          by_cases hc1 : v1 = 8
          · replace h := ite_t hc1 h
            refine lv_lookup (off := 59) (tgt := 74) hx hb dX12_counted_15 (by decide) (by rw [hc1]; decide) (by decide) ?_
            refine lv_iload_n hx hb dX12_counted_74 rfl (lv_at hl 4 rfl) ?_
            refine lv_aload_n hx hb dX12_counted_75 rfl (lv_at hl 1 rfl) ?_
            refine gt_X12_470 hx hb hts hown hKK hI e35 (lc91 hN) (kc91 hk0) dX12_counted_76 ?_
            refine lv_icmp_ge (tgt := 95) hx hb dX12_counted_79 (by decide) (fun hc => ?_) (fun hc => ?_)
            · replace h := ite_t hc h
              exact b95 k4 hk4 H locs ls G24 G25 G35 G40 G42 v1 v2 v3  hI e24 e25 e35 e40 e42 (lv_sub hl [1, 2, 3, 4] rfl) h
            · replace h := ite_f hc h
              refine lv_aload_n hx hb dX12_counted_82 rfl (lv_at hl 1 rfl) ?_
              refine gf_X12_175 hx hb hts hown hKK hI hN dX12_counted_83 ?_
              refine lv_iload_n hx hb dX12_counted_86 rfl (lv_at hl 4 rfl) ?_
              obtain ⟨hin_, h⟩ := ck_e h
              refine la_62 hx hb hKK hI e35 (lc146 hN) (kc146 hk0) hin_ dX12_counted_87 ?_
              refine lv_if_eq (tgt := 95) hx hb dX12_counted_88 (by decide) (fun hc => ?_) (fun hc => ?_)
              · replace h := ite_t hc h
                exact b95 k4 hk4 H locs ls G24 G25 G35 G40 G42 v1 v2 v3  hI e24 e25 e35 e40 e42 (lv_sub hl [1, 2, 3, 4] rfl) h
              · replace h := ite_f hc h
                refine lv_iconst (v := 1) hx hb dX12_counted_91 (by decide) ?_
                refine lv_goto (tgt := 96) hx hb dX12_counted_92 (by decide) ?_
                exact b96 k4 hk4 H locs ls G24 G25 G35 G40 G42 v1 v2 v3 1  hI e24 e25 e35 e40 e42 (lv_sub hl [1, 2, 3, 4] rfl) h
          · replace h := ite_f hc1 h
            by_cases hc2 : v1 = 13
            · replace h := ite_t hc2 h
              refine lv_lookup (off := 86) (tgt := 101) hx hb dX12_counted_15 (by decide) (by rw [hc2]; decide) (by decide) ?_
              refine lv_iload_n hx hb dX12_counted_101 rfl (lv_at hl 4 rfl) ?_
              refine lv_aload_n hx hb dX12_counted_102 rfl (lv_at hl 1 rfl) ?_
              refine gt_X12_529 hx hb hts hown hKK hI e40 (lc91 hN) (kc91 hk0) dX12_counted_103 ?_
              refine lv_icmp_ge (tgt := 122) hx hb dX12_counted_106 (by decide) (fun hc => ?_) (fun hc => ?_)
              · replace h := ite_t hc h
                exact b122 k4 hk4 H locs ls G24 G25 G35 G40 G42 v1 v2 v3  hI e24 e25 e35 e40 e42 (lv_sub hl [1, 2, 3, 4] rfl) h
              · replace h := ite_f hc h
                refine lv_aload_n hx hb dX12_counted_109 rfl (lv_at hl 1 rfl) ?_
                refine gf_X12_230 hx hb hts hown hKK hI hN dX12_counted_110 ?_
                refine lv_iload_n hx hb dX12_counted_113 rfl (lv_at hl 4 rfl) ?_
                obtain ⟨hin_, h⟩ := ck_e h
                refine la_71 hx hb hKK hI e40 (lc164 hN) (kc164 hk0) hin_ dX12_counted_114 ?_
                refine lv_if_eq (tgt := 122) hx hb dX12_counted_115 (by decide) (fun hc => ?_) (fun hc => ?_)
                · replace h := ite_t hc h
                  exact b122 k4 hk4 H locs ls G24 G25 G35 G40 G42 v1 v2 v3  hI e24 e25 e35 e40 e42 (lv_sub hl [1, 2, 3, 4] rfl) h
                · replace h := ite_f hc h
                  refine lv_iconst (v := 1) hx hb dX12_counted_118 (by decide) ?_
                  refine lv_goto (tgt := 123) hx hb dX12_counted_119 (by decide) ?_
                  exact b123 k4 hk4 H locs ls G24 G25 G35 G40 G42 v1 v2 v3 1  hI e24 e25 e35 e40 e42 (lv_sub hl [1, 2, 3, 4] rfl) h
            · replace h := ite_f hc2 h
              refine lv_lookup (off := 113) (tgt := 128) hx hb dX12_counted_15 (by decide) (by rw [lv_osw hc0 (by decide)]; rw [lv_osw hc1 (by decide)]; rw [lv_osw hc2 (by decide)]; rfl) (by decide) ?_
              refine lv_iload_n hx hb dX12_counted_128 rfl (lv_at hl 4 rfl) ?_
              refine lv_aload_n hx hb dX12_counted_129 rfl (lv_at hl 1 rfl) ?_
              refine gt_X12_268 hx hb hts hown hKK hI e24 (lc91 hN) (kc91 hk0) dX12_counted_130 ?_
              refine lv_icmp_ge (tgt := 149) hx hb dX12_counted_133 (by decide) (fun hc => ?_) (fun hc => ?_)
              · replace h := ite_t hc h
                exact b149 k4 hk4 H locs ls G24 G25 G35 G40 G42 v1 v2 v3  hI e24 e25 e35 e40 e42 (lv_sub hl [1, 2, 3, 4] rfl) h
              · replace h := ite_f hc h
                refine lv_aload_n hx hb dX12_counted_136 rfl (lv_at hl 1 rfl) ?_
                refine gf_X12_254 hx hb hts hown hKK hI hN dX12_counted_137 ?_
                refine lv_iload_n hx hb dX12_counted_140 rfl (lv_at hl 4 rfl) ?_
                obtain ⟨hin_, h⟩ := ck_e h
                refine la_75 hx hb hKK hI e42 (lc172 hN) (kc172 hk0) hin_ dX12_counted_141 ?_
                refine lv_if_eq (tgt := 149) hx hb dX12_counted_142 (by decide) (fun hc => ?_) (fun hc => ?_)
                · replace h := ite_t hc h
                  exact b149 k4 hk4 H locs ls G24 G25 G35 G40 G42 v1 v2 v3  hI e24 e25 e35 e40 e42 (lv_sub hl [1, 2, 3, 4] rfl) h
                · replace h := ite_f hc h
                  refine lv_iconst (v := 1) hx hb dX12_counted_145 (by decide) ?_
                  refine lv_goto (tgt := 150) hx hb dX12_counted_146 (by decide) ?_
                  exact b150 k4 hk4 H locs ls G24 G25 G35 G40 G42 v1 v2 v3 1  hI e24 e25 e35 e40 e42 (lv_sub hl [1, 2, 3, 4] rfl) h
  show WX RM_X12_counted p l e s m args below meth c HB (some (.int q)) (B_X12_counted HB D y n κ σ q) s.heap [] (F0 m 0 ls [])
  generalize s.heap = H at hI ⊢
  unfold f_X12_counted at h
  obtain ⟨locs, hlocs⟩ : ∃ x : List Loc, x = [] := ⟨_, rfl⟩
  rw [← hlocs] at hI ⊢
  refine lv_iconst (v := 0) hx hb dX12_counted_0 (by decide) ?_
  refine lv_istore_n (lv' := [(2, .int 0), (0, .ref (HB.size + 91)), (1, .int v1)]) hx hb dX12_counted_1 rfl hl (by decide) rfl (fun ls hl => ?_)
  refine lv_iconst (v := 0) hx hb dX12_counted_2 (by decide) ?_
  refine lv_istore_n (lv' := [(3, .int 0), (2, .int 0), (0, .ref (HB.size + 91)), (1, .int v1)]) hx hb dX12_counted_3 rfl hl (by decide) rfl (fun ls hl => ?_)
  exact b4  F H locs ls G24 G25 G35 G40 G42 v1 0 0  hI e24 e25 e35 e40 e42 (lv_sub hl [2, 3, 1, 0] rfl) h
noncomputable def f_X12_inState_l4b (F : Nat)  (k4 : Grp → Int32 → Int32 → Int32 → Option (Int32)) (G32 : Grp) (v1 : Int32) (v2 : Int32) (v3 : Int32) : Option (Int32) :=
  if (G32.1 91 57) ≤ v3 then some v2 else ck v3 200 (if (G32.1 135 v3.toNatClampNeg) = v1 then bn ((v2 + 1)) (fun v2_29 => bn (v3 + 1) (fun v3_30 => k4 G32 v1 v2_29 v3_30)) else bn ((v2 + 0)) (fun v2_29 => bn (v3 + 1) (fun v3_30 => k4 G32 v1 v2_29 v3_30)))
noncomputable def f_X12_inState_l4 (F : Nat)  (fu : Nat) : Grp → Int32 → Int32 → Int32 → Option (Int32) := Nat.rec (motive := fun _ => Grp → Int32 → Int32 → Int32 → Option (Int32)) (fun _ _ _ _ => none) (fun _ ih => f_X12_inState_l4b F  ih) fu
noncomputable def f_X12_inState (F : Nat) (G32 : Grp) (v1 : Int32) : Option (Int32) :=
  f_X12_inState_l4 F  F G32 v1 0 0
def RM_X12_inState : Room := { frames := 0, cells := 0, slots := 0, locals := 0 }
abbrev B_X12_inState (HB : Heap) (D : va_G) (y : Nat → ClassId) (n : Nat) (κ : Nat → Nat) (σ : St) (q : Int32) : Heap → Prop := fun H => IV HB D y n n κ σ [] H
set_option maxRecDepth 100000 in
set_option maxHeartbeats 4000000 in
theorem c_X12_inState (l : Launch) (HB : Heap) (D : va_G) (y : Nat → ClassId) (F n : Nat) (κ : Nat → Nat) (σ : St) (hN : N0 ≤ n) (v1 : Int32)  (G32 : Grp) (e32 : σ 32 = G32) (q : Int32) (h : f_X12_inState F G32 v1 = some q) : MT l HB D y yX12_inState cX12_inState 4 (some .int) RM_X12_inState [.ref (HB.size + 91), .int v1] (IV HB D y n n κ σ []) (some (.int q)) (B_X12_inState HB D y n κ σ q) := by
  refine Met.ofW (cc := cX12_inState) (maxL := 4) (ret := (some .int)) (by decide) rfl ?_
  intro p e s m args below meth c s₁ BL hml hv
  obtain ⟨rfl, hI, hKK⟩ := hv
  have hx := BL.exec
  have hb := BL.bytes
  have hr := BL.returns
  have hts : ∀ w ∈ gtb, w.before _ s = true := fun w hw => atoms_spec BL.pre w (List.mem_cons_of_mem _ hw)
  have hml : c.maxLocals = 4 := hml
  have hown : s.vm.findClass RX12 = some m.cls := findClass_of_methodNamed BL.named
  have hlocks := BL.notSynchronized
  have hk0 := hI.1.2.2.2.2
  have hl := lv_entry ([.ref (HB.size + 91), .int v1]) (n := 4) (Nat.le_of_ble_eq_true rfl)
  rw [lg_entry_eq]
  generalize (lg_sl ([.ref (HB.size + 91), .int v1]) ++ List.replicate (4 - (lg_sl ([.ref (HB.size + 91), .int v1])).length) Slot.unset).toArray = ls at hl ⊢
  have hl : lv_has ls 4 [(0, .ref (HB.size + 91)), (1, .int v1)] := hl
  generalize hargs : ([.ref (HB.size + 91), .int v1] : List Value).toArray = args at *
  have b4 : ∀ (fu : Nat) (H : Heap) (locs : List Loc) (ls : Array Slot) (G32 : Grp) (v1 : Int32) (v2 : Int32) (v3 : Int32) , IV HB D y n n κ σ locs H → σ 32 = G32 → lv_has ls 4 [(0, .ref (HB.size + 91)), (1, .int v1), (2, .int v2), (3, .int v3)] → f_X12_inState_l4 F  fu G32 v1 v2 v3 = some q → WX RM_X12_inState p l e s m args below meth c HB (some (.int q)) (B_X12_inState HB D y n κ σ q) H locs (F0 m 4 ls []) := by
    intro  fu
    induction fu with
    | zero =>
      intro H locs ls G32 v1 v2 v3 hI e32 hl h
      exact absurd h (by intro h; cases h)
    | succ fu hk4 =>
      intro H locs ls G32 v1 v2 v3 hI e32 hl h
      have h : f_X12_inState_l4b F  (f_X12_inState_l4 F  fu) G32 v1 v2 v3 = some q := h
      generalize f_X12_inState_l4 F  fu = k4 at h hk4
      unfold f_X12_inState_l4b at h
      refine lv_iload_n hx hb dX12_inState_4 rfl (lv_at hl 3 rfl) ?_
      refine lv_aload_n hx hb dX12_inState_5 rfl (lv_at hl 0 rfl) ?_
      refine gt_X12_431 hx hb hts hown hKK hI e32 (lc91 hN) (kc91 hk0) dX12_inState_6 ?_
      refine lv_icmp_ge (tgt := 36) hx hb dX12_inState_9 (by decide) (fun hc => ?_) (fun hc => ?_)
      · replace h := ite_t hc h
        refine lv_iload_n hx hb dX12_inState_36 rfl (lv_at hl 2 rfl) ?_
        have hq := Option.some.inj h
        exact W.iret (v := v2) hx hb hr (fun t ht hW => qc_mk (congrArg (fun z => Outcome.returned (some (Value.int z))) hq) (by rw [ht]; exact hI.nil)) hI.2.2 dX12_inState_37 hlocks
      · replace h := ite_f hc h
        refine lv_iload_n hx hb dX12_inState_12 rfl (lv_at hl 2 rfl) ?_
        refine lv_aload_n hx hb dX12_inState_13 rfl (lv_at hl 0 rfl) ?_
        refine gf_X12_142 hx hb hts hown hKK hI hN dX12_inState_14 ?_
        refine lv_iload_n hx hb dX12_inState_17 rfl (lv_at hl 3 rfl) ?_
        obtain ⟨hin_, h⟩ := ck_e h
        refine la_57 hx hb hKK hI e32 (lc135 hN) (kc135 hk0) hin_ dX12_inState_18 ?_
        refine lv_iload_n hx hb dX12_inState_19 rfl (lv_at hl 1 rfl) ?_
        refine lv_icmp_ne (tgt := 27) hx hb dX12_inState_20 (by decide) (fun hc => ?_) (fun hc => ?_)
        · replace h := ite_f hc h
          refine lv_iconst (v := 0) hx hb dX12_inState_27 (by decide) ?_
          refine lv_iadd hx hb dX12_inState_28 ?_
          obtain ⟨v2_29, qq, h⟩ := bn_e h
          refine topi qq ?_
          refine lv_istore_n (lv' := [(2, .int v2_29), (0, .ref (HB.size + 91)), (1, .int v1), (3, .int v3)]) hx hb dX12_inState_29 rfl hl (by decide) rfl (fun ls hl => ?_)
          obtain ⟨v3_30, qq, h⟩ := bn_e h
          refine lv_iinc (v := v3_30) (lv' := [(3, .int v3_30), (2, .int v2_29), (0, .ref (HB.size + 91)), (1, .int v1)]) hx hb dX12_inState_30 hl (k := 3) rfl (by rw [qq]; rfl) (by decide) rfl (fun ls hl => ?_)
          refine lv_goto (tgt := 4) hx hb dX12_inState_33 (by decide) ?_
          exact hk4 H locs ls G32 v1 v2_29 v3_30  hI e32 (lv_sub hl [2, 3, 1, 0] rfl) h
        · replace h := ite_t hc h
          refine lv_iconst (v := 1) hx hb dX12_inState_23 (by decide) ?_
          refine lv_goto (tgt := 28) hx hb dX12_inState_24 (by decide) ?_
          refine lv_iadd hx hb dX12_inState_28 ?_
          obtain ⟨v2_29, qq, h⟩ := bn_e h
          refine topi qq ?_
          refine lv_istore_n (lv' := [(2, .int v2_29), (0, .ref (HB.size + 91)), (1, .int v1), (3, .int v3)]) hx hb dX12_inState_29 rfl hl (by decide) rfl (fun ls hl => ?_)
          obtain ⟨v3_30, qq, h⟩ := bn_e h
          refine lv_iinc (v := v3_30) (lv' := [(3, .int v3_30), (2, .int v2_29), (0, .ref (HB.size + 91)), (1, .int v1)]) hx hb dX12_inState_30 hl (k := 3) rfl (by rw [qq]; rfl) (by decide) rfl (fun ls hl => ?_)
          refine lv_goto (tgt := 4) hx hb dX12_inState_33 (by decide) ?_
          exact hk4 H locs ls G32 v1 v2_29 v3_30  hI e32 (lv_sub hl [2, 3, 1, 0] rfl) h
  show WX RM_X12_inState p l e s m args below meth c HB (some (.int q)) (B_X12_inState HB D y n κ σ q) s.heap [] (F0 m 0 ls [])
  generalize s.heap = H at hI ⊢
  unfold f_X12_inState at h
  obtain ⟨locs, hlocs⟩ : ∃ x : List Loc, x = [] := ⟨_, rfl⟩
  rw [← hlocs] at hI ⊢
  refine lv_iconst (v := 0) hx hb dX12_inState_0 (by decide) ?_
  refine lv_istore_n (lv' := [(2, .int 0), (0, .ref (HB.size + 91)), (1, .int v1)]) hx hb dX12_inState_1 rfl hl (by decide) rfl (fun ls hl => ?_)
  refine lv_iconst (v := 0) hx hb dX12_inState_2 (by decide) ?_
  refine lv_istore_n (lv' := [(3, .int 0), (2, .int 0), (0, .ref (HB.size + 91)), (1, .int v1)]) hx hb dX12_inState_3 rfl hl (by decide) rfl (fun ls hl => ?_)
  exact b4  F H locs ls G32 v1 0 0  hI e32 (lv_sub hl [2, 3, 1, 0] rfl) h
noncomputable def f_X12_count (F : Nat) (G23 : Grp) (G24 : Grp) (G25 : Grp) (G26 : Grp) (G27 : Grp) (G29 : Grp) (G32 : Grp) (G35 : Grp) (G37 : Grp) (G40 : Grp) (G41 : Grp) (G42 : Grp) (v1 : Int32) : Option (Int32) :=
  if v1 = 0 then some (G23.1 91 0) else if v1 = 1 then some (G24.1 91 1) else if v1 = 2 then some (G24.1 91 2) else if v1 = 3 then some (G24.1 91 3) else if v1 = 4 then some (G25.1 91 4) else if v1 = 5 then ob (f_X12_counted F G24 G25 G35 G40 G42 v1) (fun q_142 => some q_142) else if v1 = 6 then some (G32.1 91 57) else if v1 = 7 then some (G35.1 91 58) else if v1 = 8 then ob (f_X12_counted F G24 G25 G35 G40 G42 v1) (fun q_142 => some q_142) else if v1 = 9 then some (G37.1 91 76) else if v1 = 10 then some (G29.1 91 38) else if v1 = 11 then some (G27.1 91 20) else if v1 = 12 then some (G40.1 91 93) else if v1 = 13 then ob (f_X12_counted F G24 G25 G35 G40 G42 v1) (fun q_142 => some q_142) else if v1 = 14 then ob (f_X12_counted F G24 G25 G35 G40 G42 v1) (fun q_142 => some q_142) else if v1 = 15 then some (G41.1 91 98) else ob (f_X12_in F v1 20 28) (fun q_151 => if q_151 = 0 then ob (f_X12_in F v1 30 37) (fun q_171 => if q_171 = 0 then some (-1) else ck (v1 - 30) 8 (some (G26.1 105 (v1 - 30).toNatClampNeg))) else ob (f_X12_inState F G32 (v1 - 20)) (fun q_162 => some q_162))
def RM_X12_count : Room := { frames := 2, cells := 0, slots := 0, locals := 45 }
abbrev B_X12_count (HB : Heap) (D : va_G) (y : Nat → ClassId) (n : Nat) (κ : Nat → Nat) (σ : St) (q : Int32) : Heap → Prop := fun H => IV HB D y n n κ σ [] H
set_option maxRecDepth 100000 in
set_option maxHeartbeats 4000000 in
theorem c_X12_count (l : Launch) (HB : Heap) (D : va_G) (y : Nat → ClassId) (F n : Nat) (κ : Nat → Nat) (σ : St) (hN : N0 ≤ n) (v1 : Int32)  (G23 : Grp) (e23 : σ 23 = G23) (G24 : Grp) (e24 : σ 24 = G24) (G25 : Grp) (e25 : σ 25 = G25) (G26 : Grp) (e26 : σ 26 = G26) (G27 : Grp) (e27 : σ 27 = G27) (G29 : Grp) (e29 : σ 29 = G29) (G32 : Grp) (e32 : σ 32 = G32) (G35 : Grp) (e35 : σ 35 = G35) (G37 : Grp) (e37 : σ 37 = G37) (G40 : Grp) (e40 : σ 40 = G40) (G41 : Grp) (e41 : σ 41 = G41) (G42 : Grp) (e42 : σ 42 = G42) (q : Int32) (h : f_X12_count F G23 G24 G25 G26 G27 G29 G32 G35 G37 G40 G41 G42 v1 = some q) : MT l HB D y yX12_count cX12_count 2 (some .int) RM_X12_count [.ref (HB.size + 91), .int v1] (IV HB D y n n κ σ []) (some (.int q)) (B_X12_count HB D y n κ σ q) := by
  refine Met.ofW (cc := cX12_count) (maxL := 2) (ret := (some .int)) (by decide) rfl ?_
  intro p e s m args below meth c s₁ BL hml hv
  obtain ⟨rfl, hI, hKK⟩ := hv
  have hx := BL.exec
  have hb := BL.bytes
  have hr := BL.returns
  have hts : ∀ w ∈ gtb, w.before _ s = true := fun w hw => atoms_spec BL.pre w (List.mem_cons_of_mem _ hw)
  have hml : c.maxLocals = 2 := hml
  have hown : s.vm.findClass RX12 = some m.cls := findClass_of_methodNamed BL.named
  have hlocks := BL.notSynchronized
  have hk0 := hI.1.2.2.2.2
  have hl := lv_entry ([.ref (HB.size + 91), .int v1]) (n := 2) (Nat.le_of_ble_eq_true rfl)
  rw [lg_entry_eq]
  generalize (lg_sl ([.ref (HB.size + 91), .int v1]) ++ List.replicate (2 - (lg_sl ([.ref (HB.size + 91), .int v1])).length) Slot.unset).toArray = ls at hl ⊢
  have hl : lv_has ls 2 [(0, .ref (HB.size + 91)), (1, .int v1)] := hl
  generalize hargs : ([.ref (HB.size + 91), .int v1] : List Value).toArray = args at *
  show WX RM_X12_count p l e s m args below meth c HB (some (.int q)) (B_X12_count HB D y n κ σ q) s.heap [] (F0 m 0 ls [])
  generalize s.heap = H at hI ⊢
  unfold f_X12_count at h
  obtain ⟨locs, hlocs⟩ : ∃ x : List Loc, x = [] := ⟨_, rfl⟩
  rw [← hlocs] at hI ⊢
  refine lv_iload_n hx hb dX12_count_0 rfl (lv_at hl 1 rfl) ?_
  by_cases hc0 : v1 = 0
  · replace h := ite_t hc0 h
    refine lv_tableIn (off := 79) (tgt := 80) hx hb dX12_count_1 (by rw [hc0]; decide) (by rw [hc0]; decide) (by rw [hc0]; decide) (by decide) ?_
    refine lv_aload_n hx hb dX12_count_80 rfl (lv_at hl 0 rfl) ?_
    refine gt_X12_281 hx hb hts hown hKK hI e23 (lc91 hN) (kc91 hk0) dX12_count_81 ?_
    have hq := Option.some.inj h
    exact W.iret (v := (G23.1 91 0)) hx hb hr (fun t ht hW => qc_mk (congrArg (fun z => Outcome.returned (some (Value.int z))) hq) (by rw [ht]; exact hI.nil)) hI.2.2 dX12_count_84 hlocks
  · replace h := ite_f hc0 h
    by_cases hc1 : v1 = 1
    · replace h := ite_t hc1 h
      refine lv_tableIn (off := 84) (tgt := 85) hx hb dX12_count_1 (by rw [hc1]; decide) (by rw [hc1]; decide) (by rw [hc1]; decide) (by decide) ?_
      refine lv_aload_n hx hb dX12_count_85 rfl (lv_at hl 0 rfl) ?_
      refine gt_X12_264 hx hb hts hown hKK hI e24 (lc91 hN) (kc91 hk0) dX12_count_86 ?_
      have hq := Option.some.inj h
      exact W.iret (v := (G24.1 91 1)) hx hb hr (fun t ht hW => qc_mk (congrArg (fun z => Outcome.returned (some (Value.int z))) hq) (by rw [ht]; exact hI.nil)) hI.2.2 dX12_count_89 hlocks
    · replace h := ite_f hc1 h
      by_cases hc2 : v1 = 2
      · replace h := ite_t hc2 h
        refine lv_tableIn (off := 89) (tgt := 90) hx hb dX12_count_1 (by rw [hc2]; decide) (by rw [hc2]; decide) (by rw [hc2]; decide) (by decide) ?_
        refine lv_aload_n hx hb dX12_count_90 rfl (lv_at hl 0 rfl) ?_
        refine gt_X12_268 hx hb hts hown hKK hI e24 (lc91 hN) (kc91 hk0) dX12_count_91 ?_
        have hq := Option.some.inj h
        exact W.iret (v := (G24.1 91 2)) hx hb hr (fun t ht hW => qc_mk (congrArg (fun z => Outcome.returned (some (Value.int z))) hq) (by rw [ht]; exact hI.nil)) hI.2.2 dX12_count_94 hlocks
      · replace h := ite_f hc2 h
        by_cases hc3 : v1 = 3
        · replace h := ite_t hc3 h
          refine lv_tableIn (off := 94) (tgt := 95) hx hb dX12_count_1 (by rw [hc3]; decide) (by rw [hc3]; decide) (by rw [hc3]; decide) (by decide) ?_
          refine lv_aload_n hx hb dX12_count_95 rfl (lv_at hl 0 rfl) ?_
          refine gt_X12_271 hx hb hts hown hKK hI e24 (lc91 hN) (kc91 hk0) dX12_count_96 ?_
          have hq := Option.some.inj h
          exact W.iret (v := (G24.1 91 3)) hx hb hr (fun t ht hW => qc_mk (congrArg (fun z => Outcome.returned (some (Value.int z))) hq) (by rw [ht]; exact hI.nil)) hI.2.2 dX12_count_99 hlocks
        · replace h := ite_f hc3 h
          by_cases hc4 : v1 = 4
          · replace h := ite_t hc4 h
            refine lv_tableIn (off := 99) (tgt := 100) hx hb dX12_count_1 (by rw [hc4]; decide) (by rw [hc4]; decide) (by rw [hc4]; decide) (by decide) ?_
            refine lv_aload_n hx hb dX12_count_100 rfl (lv_at hl 0 rfl) ?_
            refine gt_X12_274 hx hb hts hown hKK hI e25 (lc91 hN) (kc91 hk0) dX12_count_101 ?_
            have hq := Option.some.inj h
            exact W.iret (v := (G25.1 91 4)) hx hb hr (fun t ht hW => qc_mk (congrArg (fun z => Outcome.returned (some (Value.int z))) hq) (by rw [ht]; exact hI.nil)) hI.2.2 dX12_count_104 hlocks
          · replace h := ite_f hc4 h
            by_cases hc5 : v1 = 5
            · replace h := ite_t hc5 h
              refine lv_tableIn (off := 139) (tgt := 140) hx hb dX12_count_1 (by rw [hc5]; decide) (by rw [hc5]; decide) (by rw [hc5]; decide) (by decide) ?_
              refine lv_aload_n hx hb dX12_count_140 rfl (lv_at hl 0 rfl) ?_
              refine lv_iload_n hx hb dX12_count_141 rfl (lv_at hl 1 rfl) ?_
              obtain ⟨q_142, hq_142, h⟩ := ob_e h
              refine r_callV (As := [.int v1]) (rest := []) hx hb hml hts hown (c_X12_counted l HB D y F n κ σ hN v1 G24 e24 G25 e25 G35 e35 G40 e40 G42 e42 q_142 hq_142) cal_X12_counted im_X12_counted se_X12_counted lm_X12_586 ⟨Nat.le_of_ble_eq_true rfl, Nat.le_of_ble_eq_true rfl⟩ hI.nil hKK (r_recv hKK hI (hE12 HB.size y) rfl (lc91 hN) (kc91 hk0)) rfl hl.1 hI.2.2 rfl (Nat.le_of_ble_eq_true rfl) dX12_count_142 ⟨Nat.le_of_ble_eq_true rfl, Nat.le_of_ble_eq_true rfl⟩ rfl rfl rfl (fun H locs hB hlo => ?_)
              have hI := hB.re hlo
              have hq := Option.some.inj h
              exact W.iret (v := q_142) hx hb hr (fun t ht hW => qc_mk (congrArg (fun z => Outcome.returned (some (Value.int z))) hq) (by rw [ht]; exact hI.nil)) hI.2.2 dX12_count_145 hlocks
            · replace h := ite_f hc5 h
              by_cases hc6 : v1 = 6
              · replace h := ite_t hc6 h
                refine lv_tableIn (off := 104) (tgt := 105) hx hb dX12_count_1 (by rw [hc6]; decide) (by rw [hc6]; decide) (by rw [hc6]; decide) (by decide) ?_
                refine lv_aload_n hx hb dX12_count_105 rfl (lv_at hl 0 rfl) ?_
                refine gt_X12_431 hx hb hts hown hKK hI e32 (lc91 hN) (kc91 hk0) dX12_count_106 ?_
                have hq := Option.some.inj h
                exact W.iret (v := (G32.1 91 57)) hx hb hr (fun t ht hW => qc_mk (congrArg (fun z => Outcome.returned (some (Value.int z))) hq) (by rw [ht]; exact hI.nil)) hI.2.2 dX12_count_109 hlocks
              · replace h := ite_f hc6 h
                by_cases hc7 : v1 = 7
                · replace h := ite_t hc7 h
                  refine lv_tableIn (off := 109) (tgt := 110) hx hb dX12_count_1 (by rw [hc7]; decide) (by rw [hc7]; decide) (by rw [hc7]; decide) (by decide) ?_
                  refine lv_aload_n hx hb dX12_count_110 rfl (lv_at hl 0 rfl) ?_
                  refine gt_X12_470 hx hb hts hown hKK hI e35 (lc91 hN) (kc91 hk0) dX12_count_111 ?_
                  have hq := Option.some.inj h
                  exact W.iret (v := (G35.1 91 58)) hx hb hr (fun t ht hW => qc_mk (congrArg (fun z => Outcome.returned (some (Value.int z))) hq) (by rw [ht]; exact hI.nil)) hI.2.2 dX12_count_114 hlocks
                · replace h := ite_f hc7 h
                  by_cases hc8 : v1 = 8
                  · replace h := ite_t hc8 h
                    refine lv_tableIn (off := 139) (tgt := 140) hx hb dX12_count_1 (by rw [hc8]; decide) (by rw [hc8]; decide) (by rw [hc8]; decide) (by decide) ?_
                    refine lv_aload_n hx hb dX12_count_140 rfl (lv_at hl 0 rfl) ?_
                    refine lv_iload_n hx hb dX12_count_141 rfl (lv_at hl 1 rfl) ?_
                    obtain ⟨q_142, hq_142, h⟩ := ob_e h
                    refine r_callV (As := [.int v1]) (rest := []) hx hb hml hts hown (c_X12_counted l HB D y F n κ σ hN v1 G24 e24 G25 e25 G35 e35 G40 e40 G42 e42 q_142 hq_142) cal_X12_counted im_X12_counted se_X12_counted lm_X12_586 ⟨Nat.le_of_ble_eq_true rfl, Nat.le_of_ble_eq_true rfl⟩ hI.nil hKK (r_recv hKK hI (hE12 HB.size y) rfl (lc91 hN) (kc91 hk0)) rfl hl.1 hI.2.2 rfl (Nat.le_of_ble_eq_true rfl) dX12_count_142 ⟨Nat.le_of_ble_eq_true rfl, Nat.le_of_ble_eq_true rfl⟩ rfl rfl rfl (fun H locs hB hlo => ?_)
                    have hI := hB.re hlo
                    have hq := Option.some.inj h
                    exact W.iret (v := q_142) hx hb hr (fun t ht hW => qc_mk (congrArg (fun z => Outcome.returned (some (Value.int z))) hq) (by rw [ht]; exact hI.nil)) hI.2.2 dX12_count_145 hlocks
                  · replace h := ite_f hc8 h
                    by_cases hc9 : v1 = 9
                    · replace h := ite_t hc9 h
                      refine lv_tableIn (off := 114) (tgt := 115) hx hb dX12_count_1 (by rw [hc9]; decide) (by rw [hc9]; decide) (by rw [hc9]; decide) (by decide) ?_
                      refine lv_aload_n hx hb dX12_count_115 rfl (lv_at hl 0 rfl) ?_
                      refine gt_X12_477 hx hb hts hown hKK hI e37 (lc91 hN) (kc91 hk0) dX12_count_116 ?_
                      have hq := Option.some.inj h
                      exact W.iret (v := (G37.1 91 76)) hx hb hr (fun t ht hW => qc_mk (congrArg (fun z => Outcome.returned (some (Value.int z))) hq) (by rw [ht]; exact hI.nil)) hI.2.2 dX12_count_119 hlocks
                    · replace h := ite_f hc9 h
                      by_cases hc10 : v1 = 10
                      · replace h := ite_t hc10 h
                        refine lv_tableIn (off := 119) (tgt := 120) hx hb dX12_count_1 (by rw [hc10]; decide) (by rw [hc10]; decide) (by rw [hc10]; decide) (by decide) ?_
                        refine lv_aload_n hx hb dX12_count_120 rfl (lv_at hl 0 rfl) ?_
                        refine gt_X12_381 hx hb hts hown hKK hI e29 (lc91 hN) (kc91 hk0) dX12_count_121 ?_
                        have hq := Option.some.inj h
                        exact W.iret (v := (G29.1 91 38)) hx hb hr (fun t ht hW => qc_mk (congrArg (fun z => Outcome.returned (some (Value.int z))) hq) (by rw [ht]; exact hI.nil)) hI.2.2 dX12_count_124 hlocks
                      · replace h := ite_f hc10 h
                        by_cases hc11 : v1 = 11
                        · replace h := ite_t hc11 h
                          refine lv_tableIn (off := 124) (tgt := 125) hx hb dX12_count_1 (by rw [hc11]; decide) (by rw [hc11]; decide) (by rw [hc11]; decide) (by decide) ?_
                          refine lv_aload_n hx hb dX12_count_125 rfl (lv_at hl 0 rfl) ?_
                          refine gt_X12_311 hx hb hts hown hKK hI e27 (lc91 hN) (kc91 hk0) dX12_count_126 ?_
                          have hq := Option.some.inj h
                          exact W.iret (v := (G27.1 91 20)) hx hb hr (fun t ht hW => qc_mk (congrArg (fun z => Outcome.returned (some (Value.int z))) hq) (by rw [ht]; exact hI.nil)) hI.2.2 dX12_count_129 hlocks
                        · replace h := ite_f hc11 h
                          by_cases hc12 : v1 = 12
                          · replace h := ite_t hc12 h
                            refine lv_tableIn (off := 129) (tgt := 130) hx hb dX12_count_1 (by rw [hc12]; decide) (by rw [hc12]; decide) (by rw [hc12]; decide) (by decide) ?_
                            refine lv_aload_n hx hb dX12_count_130 rfl (lv_at hl 0 rfl) ?_
                            refine gt_X12_529 hx hb hts hown hKK hI e40 (lc91 hN) (kc91 hk0) dX12_count_131 ?_
                            have hq := Option.some.inj h
                            exact W.iret (v := (G40.1 91 93)) hx hb hr (fun t ht hW => qc_mk (congrArg (fun z => Outcome.returned (some (Value.int z))) hq) (by rw [ht]; exact hI.nil)) hI.2.2 dX12_count_134 hlocks
                          · replace h := ite_f hc12 h
                            by_cases hc13 : v1 = 13
                            · replace h := ite_t hc13 h
                              refine lv_tableIn (off := 139) (tgt := 140) hx hb dX12_count_1 (by rw [hc13]; decide) (by rw [hc13]; decide) (by rw [hc13]; decide) (by decide) ?_
                              refine lv_aload_n hx hb dX12_count_140 rfl (lv_at hl 0 rfl) ?_
                              refine lv_iload_n hx hb dX12_count_141 rfl (lv_at hl 1 rfl) ?_
                              obtain ⟨q_142, hq_142, h⟩ := ob_e h
                              refine r_callV (As := [.int v1]) (rest := []) hx hb hml hts hown (c_X12_counted l HB D y F n κ σ hN v1 G24 e24 G25 e25 G35 e35 G40 e40 G42 e42 q_142 hq_142) cal_X12_counted im_X12_counted se_X12_counted lm_X12_586 ⟨Nat.le_of_ble_eq_true rfl, Nat.le_of_ble_eq_true rfl⟩ hI.nil hKK (r_recv hKK hI (hE12 HB.size y) rfl (lc91 hN) (kc91 hk0)) rfl hl.1 hI.2.2 rfl (Nat.le_of_ble_eq_true rfl) dX12_count_142 ⟨Nat.le_of_ble_eq_true rfl, Nat.le_of_ble_eq_true rfl⟩ rfl rfl rfl (fun H locs hB hlo => ?_)
                              have hI := hB.re hlo
                              have hq := Option.some.inj h
                              exact W.iret (v := q_142) hx hb hr (fun t ht hW => qc_mk (congrArg (fun z => Outcome.returned (some (Value.int z))) hq) (by rw [ht]; exact hI.nil)) hI.2.2 dX12_count_145 hlocks
                            · replace h := ite_f hc13 h
                              by_cases hc14 : v1 = 14
                              · replace h := ite_t hc14 h
                                refine lv_tableIn (off := 139) (tgt := 140) hx hb dX12_count_1 (by rw [hc14]; decide) (by rw [hc14]; decide) (by rw [hc14]; decide) (by decide) ?_
                                refine lv_aload_n hx hb dX12_count_140 rfl (lv_at hl 0 rfl) ?_
                                refine lv_iload_n hx hb dX12_count_141 rfl (lv_at hl 1 rfl) ?_
                                obtain ⟨q_142, hq_142, h⟩ := ob_e h
                                refine r_callV (As := [.int v1]) (rest := []) hx hb hml hts hown (c_X12_counted l HB D y F n κ σ hN v1 G24 e24 G25 e25 G35 e35 G40 e40 G42 e42 q_142 hq_142) cal_X12_counted im_X12_counted se_X12_counted lm_X12_586 ⟨Nat.le_of_ble_eq_true rfl, Nat.le_of_ble_eq_true rfl⟩ hI.nil hKK (r_recv hKK hI (hE12 HB.size y) rfl (lc91 hN) (kc91 hk0)) rfl hl.1 hI.2.2 rfl (Nat.le_of_ble_eq_true rfl) dX12_count_142 ⟨Nat.le_of_ble_eq_true rfl, Nat.le_of_ble_eq_true rfl⟩ rfl rfl rfl (fun H locs hB hlo => ?_)
                                have hI := hB.re hlo
                                have hq := Option.some.inj h
                                exact W.iret (v := q_142) hx hb hr (fun t ht hW => qc_mk (congrArg (fun z => Outcome.returned (some (Value.int z))) hq) (by rw [ht]; exact hI.nil)) hI.2.2 dX12_count_145 hlocks
                              · replace h := ite_f hc14 h
                                by_cases hc15 : v1 = 15
                                · replace h := ite_t hc15 h
                                  refine lv_tableIn (off := 134) (tgt := 135) hx hb dX12_count_1 (by rw [hc15]; decide) (by rw [hc15]; decide) (by rw [hc15]; decide) (by decide) ?_
                                  refine lv_aload_n hx hb dX12_count_135 rfl (lv_at hl 0 rfl) ?_
                                  refine gt_X12_547 hx hb hts hown hKK hI e41 (lc91 hN) (kc91 hk0) dX12_count_136 ?_
                                  have hq := Option.some.inj h
                                  exact W.iret (v := (G41.1 91 98)) hx hb hr (fun t ht hW => qc_mk (congrArg (fun z => Outcome.returned (some (Value.int z))) hq) (by rw [ht]; exact hI.nil)) hI.2.2 dX12_count_139 hlocks
                                · replace h := ite_f hc15 h
                                  refine lv_tableOut (tgt := 146) hx hb dX12_count_1 (swo (fun j h1 h2 => ?_)) (by decide) ?_
                                  · have hj : j = 0 ∨ j = 1 ∨ j = 2 ∨ j = 3 ∨ j = 4 ∨ j = 5 ∨ j = 6 ∨ j = 7 ∨ j = 8 ∨ j = 9 ∨ j = 10 ∨ j = 11 ∨ j = 12 ∨ j = 13 ∨ j = 14 ∨ j = 15 := by omega
                                    rcases hj with rfl | rfl | rfl | rfl | rfl | rfl | rfl | rfl | rfl | rfl | rfl | rfl | rfl | rfl | rfl | rfl
                                    · exact lv_neT hc0 (by decide)
                                    · exact lv_neT hc1 (by decide)
                                    · exact lv_neT hc2 (by decide)
                                    · exact lv_neT hc3 (by decide)
                                    · exact lv_neT hc4 (by decide)
                                    · exact lv_neT hc5 (by decide)
                                    · exact lv_neT hc6 (by decide)
                                    · exact lv_neT hc7 (by decide)
                                    · exact lv_neT hc8 (by decide)
                                    · exact lv_neT hc9 (by decide)
                                    · exact lv_neT hc10 (by decide)
                                    · exact lv_neT hc11 (by decide)
                                    · exact lv_neT hc12 (by decide)
                                    · exact lv_neT hc13 (by decide)
                                    · exact lv_neT hc14 (by decide)
                                    · exact lv_neT hc15 (by decide)
                                  · refine lv_iload_n hx hb dX12_count_146 rfl (lv_at hl 1 rfl) ?_
                                    refine lv_bipush (v := 20) hx hb dX12_count_147 (by decide) ?_
                                    refine lv_bipush (v := 28) hx hb dX12_count_149 (by decide) ?_
                                    obtain ⟨q_151, hq_151, h⟩ := ob_e h
                                    refine r_callS (As := [.int v1, .int 20, .int 28]) (rest := []) hx hb hml hts hown (c_X12_in l HB D y F n κ σ hN v1 20 28  q_151 hq_151) cal_X12_in st_X12_in lm_X12_260 ⟨Nat.le_of_ble_eq_true rfl, Nat.le_of_ble_eq_true rfl⟩ hI.nil hKK rfl hl.1 hI.2.2 rfl (Nat.le_of_ble_eq_true rfl) dX12_count_151 ⟨Nat.le_of_ble_eq_true rfl, Nat.le_of_ble_eq_true rfl⟩ rfl rfl rfl (fun H locs hB hlo => ?_)
                                    have hI := hB.re hlo
                                    refine lv_if_eq (tgt := 166) hx hb dX12_count_154 (by decide) (fun hc => ?_) (fun hc => ?_)
                                    · replace h := ite_t hc h
                                      refine lv_iload_n hx hb dX12_count_166 rfl (lv_at hl 1 rfl) ?_
                                      refine lv_bipush (v := 30) hx hb dX12_count_167 (by decide) ?_
                                      refine lv_bipush (v := 37) hx hb dX12_count_169 (by decide) ?_
                                      obtain ⟨q_171, hq_171, h⟩ := ob_e h
                                      refine r_callS (As := [.int v1, .int 30, .int 37]) (rest := []) hx hb hml hts hown (c_X12_in l HB D y F n κ σ hN v1 30 37  q_171 hq_171) cal_X12_in st_X12_in lm_X12_260 ⟨Nat.le_of_ble_eq_true rfl, Nat.le_of_ble_eq_true rfl⟩ hI.nil hKK rfl hl.1 hI.2.2 rfl (Nat.le_of_ble_eq_true rfl) dX12_count_171 ⟨Nat.le_of_ble_eq_true rfl, Nat.le_of_ble_eq_true rfl⟩ rfl rfl rfl (fun H locs hB hlo => ?_)
                                      have hI := hB.re hlo
                                      refine lv_if_eq (tgt := 189) hx hb dX12_count_174 (by decide) (fun hc => ?_) (fun hc => ?_)
                                      · replace h := ite_t hc h
                                        refine lv_iconst (v := (-1)) hx hb dX12_count_189 (by decide) ?_
                                        have hq := Option.some.inj h
                                        exact W.iret (v := (-1)) hx hb hr (fun t ht hW => qc_mk (congrArg (fun z => Outcome.returned (some (Value.int z))) hq) (by rw [ht]; exact hI.nil)) hI.2.2 dX12_count_190 hlocks
                                      · replace h := ite_f hc h
                                        refine lv_aload_n hx hb dX12_count_177 rfl (lv_at hl 0 rfl) ?_
                                        refine gf_X12_49 hx hb hts hown hKK hI hN dX12_count_178 ?_
                                        refine lv_iload_n hx hb dX12_count_181 rfl (lv_at hl 1 rfl) ?_
                                        refine lv_bipush (v := 30) hx hb dX12_count_182 (by decide) ?_
                                        refine lv_isub hx hb dX12_count_184 ?_
                                        obtain ⟨hin_, h⟩ := ck_e h
                                        refine la_45 hx hb hKK hI e26 (lc105 hN) (kc105 hk0) hin_ dX12_count_185 ?_
                                        refine lv_goto (tgt := 190) hx hb dX12_count_186 (by decide) ?_
                                        have hq := Option.some.inj h
                                        exact W.iret (v := (G26.1 105 (v1 - 30).toNatClampNeg)) hx hb hr (fun t ht hW => qc_mk (congrArg (fun z => Outcome.returned (some (Value.int z))) hq) (by rw [ht]; exact hI.nil)) hI.2.2 dX12_count_190 hlocks
                                    · replace h := ite_f hc h
                                      refine lv_aload_n hx hb dX12_count_157 rfl (lv_at hl 0 rfl) ?_
                                      refine lv_iload_n hx hb dX12_count_158 rfl (lv_at hl 1 rfl) ?_
                                      refine lv_bipush (v := 20) hx hb dX12_count_159 (by decide) ?_
                                      refine lv_isub hx hb dX12_count_161 ?_
                                      obtain ⟨q_162, hq_162, h⟩ := ob_e h
                                      refine r_callV (As := [.int (v1 - 20)]) (rest := []) hx hb hml hts hown (c_X12_inState l HB D y F n κ σ hN (v1 - 20) G32 e32 q_162 hq_162) cal_X12_inState im_X12_inState se_X12_inState lm_X12_589 ⟨Nat.le_of_ble_eq_true rfl, Nat.le_of_ble_eq_true rfl⟩ hI.nil hKK (r_recv hKK hI (hE12 HB.size y) rfl (lc91 hN) (kc91 hk0)) rfl hl.1 hI.2.2 rfl (Nat.le_of_ble_eq_true rfl) dX12_count_162 ⟨Nat.le_of_ble_eq_true rfl, Nat.le_of_ble_eq_true rfl⟩ rfl rfl rfl (fun H locs hB hlo => ?_)
                                      have hI := hB.re hlo
                                      have hq := Option.some.inj h
                                      exact W.iret (v := q_162) hx hb hr (fun t ht hW => qc_mk (congrArg (fun z => Outcome.returned (some (Value.int z))) hq) (by rw [ht]; exact hI.nil)) hI.2.2 dX12_count_165 hlocks
