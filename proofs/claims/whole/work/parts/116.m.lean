noncomputable def f_X12_points_l58b (F : Nat)  (k58 : Grp → Grp → Grp → Int32 → Int32 → Int32 → Int32 → Option (Int32)) (G24 : Grp) (G25 : Grp) (G42 : Grp) (v1 : Int32) (v2 : Int32) (v3 : Int32) (v4 : Int32) : Option (Int32) :=
  if (G25.1 91 4) ≤ v4 then some v3 else ck v4 40 (bn ((G25.1 100 v4.toNatClampNeg)) (fun v5_74 => ob (f_X12_isOpen F G25 v4) (fun q_79 => if q_79 = 0 then bn (v4 + 1) (fun v4_122 => k58 G24 G25 G42 v1 v2 v3 v4_122) else ck v4 40 (if (G25.1 99 v4.toNatClampNeg) = v1 then ck v2 16 (if (G24.1 98 v2.toNatClampNeg) = v5_74 then some (v3 + 4) else ck v5_74 16 (if (G24.1 98 v5_74.toNatClampNeg) = v2 then some (v3 + 4) else bn (v4 + 1) (fun v4_122 => k58 G24 G25 G42 v1 v2 v3 v4_122))) else bn (v4 + 1) (fun v4_122 => k58 G24 G25 G42 v1 v2 v3 v4_122)))))
noncomputable def f_X12_points_l58 (F : Nat)  (fu : Nat) : Grp → Grp → Grp → Int32 → Int32 → Int32 → Int32 → Option (Int32) := Nat.rec (motive := fun _ => Grp → Grp → Grp → Int32 → Int32 → Int32 → Int32 → Option (Int32)) (fun _ _ _ _ _ _ _ => none) (fun _ ih => f_X12_points_l58b F  ih) fu
noncomputable def f_X12_points (F : Nat) (G24 : Grp) (G25 : Grp) (G42 : Grp) (v1 : Int32) (v2 : Int32) : Option (Int32) :=
  ck v1 16 (ck v2 16 (ck v1 16 (ck v2 16 (ck v1 16 (ck v2 16 (if (G24.1 94 v1.toNatClampNeg) = (G24.1 96 v2.toNatClampNeg) then bn (((((((G42.1 168 v1.toNatClampNeg) >>> ((G24.1 97 v2.toNatClampNeg) &&& 31)) &&& 1) * 3) + (((G42.1 169 v1.toNatClampNeg) >>> ((G24.1 95 v2.toNatClampNeg) &&& 31)) &&& 1)) + 2)) (fun v3_54 => f_X12_points_l58 F  F G24 G25 G42 v1 v2 v3_54 0) else bn (((((((G42.1 168 v1.toNatClampNeg) >>> ((G24.1 97 v2.toNatClampNeg) &&& 31)) &&& 1) * 3) + (((G42.1 169 v1.toNatClampNeg) >>> ((G24.1 95 v2.toNatClampNeg) &&& 31)) &&& 1)) + 0)) (fun v3_54 => f_X12_points_l58 F  F G24 G25 G42 v1 v2 v3_54 0)))))))
def RM_X12_points : Room := { frames := 1, cells := 0, slots := 0, locals := 21 }
abbrev B_X12_points (HB : Heap) (D : va_G) (y : Nat → ClassId) (n : Nat) (κ : Nat → Nat) (σ : St) (q : Int32) : Heap → Prop := fun H => IV HB D y n n κ σ [] H
set_option maxRecDepth 100000 in
set_option maxHeartbeats 4000000 in
theorem c_X12_points (l : Launch) (HB : Heap) (D : va_G) (y : Nat → ClassId) (F n : Nat) (κ : Nat → Nat) (σ : St) (hN : N0 ≤ n) (v1 : Int32)  (v2 : Int32)  (G24 : Grp) (e24 : σ 24 = G24) (G25 : Grp) (e25 : σ 25 = G25) (G42 : Grp) (e42 : σ 42 = G42) (q : Int32) (h : f_X12_points F G24 G25 G42 v1 v2 = some q) : MT l HB D y yX12_points cX12_points 6 (some .int) RM_X12_points [.ref (HB.size + 91), .int v1, .int v2] (IV HB D y n n κ σ []) (some (.int q)) (B_X12_points HB D y n κ σ q) := by
  refine Met.ofW (cc := cX12_points) (maxL := 6) (ret := (some .int)) (by decide) rfl ?_
  intro p e s m args below meth c s₁ BL hml hv
  obtain ⟨rfl, hI, hKK⟩ := hv
  have hx := BL.exec
  have hb := BL.bytes
  have hr := BL.returns
  have hts : ∀ w ∈ gtb, w.before _ s = true := fun w hw => atoms_spec BL.pre w (List.mem_cons_of_mem _ hw)
  have hml : c.maxLocals = 6 := hml
  have hown : s.vm.findClass RX12 = some m.cls := findClass_of_methodNamed BL.named
  have hlocks := BL.notSynchronized
  have hk0 := hI.1.2.2.2.2
  have hl := lv_entry ([.ref (HB.size + 91), .int v1, .int v2]) (n := 6) (Nat.le_of_ble_eq_true rfl)
  rw [lg_entry_eq]
  generalize (lg_sl ([.ref (HB.size + 91), .int v1, .int v2]) ++ List.replicate (6 - (lg_sl ([.ref (HB.size + 91), .int v1, .int v2])).length) Slot.unset).toArray = ls at hl ⊢
  have hl : lv_has ls 6 [(0, .ref (HB.size + 91)), (1, .int v1), (2, .int v2)] := hl
  generalize hargs : ([.ref (HB.size + 91), .int v1, .int v2] : List Value).toArray = args at *
  have b58 : ∀ (fu : Nat) (H : Heap) (locs : List Loc) (ls : Array Slot) (G24 : Grp) (G25 : Grp) (G42 : Grp) (v1 : Int32) (v2 : Int32) (v3 : Int32) (v4 : Int32) , IV HB D y n n κ σ locs H → σ 24 = G24 → σ 25 = G25 → σ 42 = G42 → lv_has ls 6 [(0, .ref (HB.size + 91)), (1, .int v1), (2, .int v2), (3, .int v3), (4, .int v4)] → f_X12_points_l58 F  fu G24 G25 G42 v1 v2 v3 v4 = some q → WX RM_X12_points p l e s m args below meth c HB (some (.int q)) (B_X12_points HB D y n κ σ q) H locs (F0 m 58 ls []) := by
    intro  fu
    induction fu with
    | zero =>
      intro H locs ls G24 G25 G42 v1 v2 v3 v4 hI e24 e25 e42 hl h
      exact absurd h (by intro h; cases h)
    | succ fu hk58 =>
      intro H locs ls G24 G25 G42 v1 v2 v3 v4 hI e24 e25 e42 hl h
      have h : f_X12_points_l58b F  (f_X12_points_l58 F  fu) G24 G25 G42 v1 v2 v3 v4 = some q := h
      generalize f_X12_points_l58 F  fu = k58 at h hk58
      unfold f_X12_points_l58b at h
      refine lv_iload hx hb dX12_points_58 (lv_at hl 4 rfl) ?_
      refine lv_aload_n hx hb dX12_points_60 rfl (lv_at hl 0 rfl) ?_
      refine gt_X12_274 hx hb hts hown hKK hI e25 (lc91 hN) (kc91 hk0) dX12_points_61 ?_
      refine lv_icmp_ge (tgt := 128) hx hb dX12_points_64 (by decide) (fun hc => ?_) (fun hc => ?_)
      · replace h := ite_t hc h
        refine lv_iload_n hx hb dX12_points_128 rfl (lv_at hl 3 rfl) ?_
        have hq := Option.some.inj h
        exact W.iret (v := v3) hx hb hr (fun t ht hW => qc_mk (congrArg (fun z => Outcome.returned (some (Value.int z))) hq) (by rw [ht]; exact hI.nil)) hI.2.2 dX12_points_129 hlocks
      · replace h := ite_f hc h
        refine lv_aload_n hx hb dX12_points_67 rfl (lv_at hl 0 rfl) ?_
        refine gf_X12_34 hx hb hts hown hKK hI hN dX12_points_68 ?_
        refine lv_iload hx hb dX12_points_71 (lv_at hl 4 rfl) ?_
        obtain ⟨hin_, h⟩ := ck_e h
        refine la_44 hx hb hKK hI e25 (lc100 hN) (kc100 hk0) hin_ dX12_points_73 ?_
        obtain ⟨v5_74, qq, h⟩ := bn_e h
        refine topi qq ?_
        refine lv_istore (lv' := [(5, .int v5_74), (0, .ref (HB.size + 91)), (1, .int v1), (2, .int v2), (3, .int v3), (4, .int v4)]) hx hb dX12_points_74 hl (by decide) rfl (fun ls hl => ?_)
        refine lv_aload_n hx hb dX12_points_76 rfl (lv_at hl 1 rfl) ?_
        refine lv_iload hx hb dX12_points_77 (lv_at hl 5 rfl) ?_
        obtain ⟨q_79, hq_79, h⟩ := ob_e h
        refine r_callV (As := [.int v4]) (rest := []) hx hb hml hts hown (c_X12_isOpen l HB D y F n κ σ hN v4 G25 e25 q_79 hq_79) cal_X12_isOpen im_X12_isOpen se_X12_isOpen lm_X12_277 ⟨Nat.le_of_ble_eq_true rfl, Nat.le_of_ble_eq_true rfl⟩ hI.nil hKK (r_recv hKK hI (hE12 HB.size y) rfl (lc91 hN) (kc91 hk0)) rfl hl.1 hI.2.2 rfl (Nat.le_of_ble_eq_true rfl) dX12_points_79 ⟨Nat.le_of_ble_eq_true rfl, Nat.le_of_ble_eq_true rfl⟩ rfl rfl rfl (fun H locs hB hlo => ?_)
        have hI := hB.re hlo
        refine lv_if_eq (tgt := 122) hx hb dX12_points_82 (by decide) (fun hc => ?_) (fun hc => ?_)
        · replace h := ite_t hc h
          obtain ⟨v4_122, qq, h⟩ := bn_e h
          refine lv_iinc (v := v4_122) (lv' := [(4, .int v4_122), (5, .int v5_74), (0, .ref (HB.size + 91)), (1, .int v1), (2, .int v2), (3, .int v3)]) hx hb dX12_points_122 hl (k := 5) rfl (by rw [qq]; rfl) (by decide) rfl (fun ls hl => ?_)
          refine lv_goto (tgt := 58) hx hb dX12_points_125 (by decide) ?_
          exact hk58 H locs ls G24 G25 G42 v1 v2 v3 v4_122  hI e24 e25 e42 (lv_sub hl [2, 3, 4, 5, 0] rfl) h
        · replace h := ite_f hc h
          refine lv_aload_n hx hb dX12_points_85 rfl (lv_at hl 1 rfl) ?_
          refine gf_X12_31 hx hb hts hown hKK hI hN dX12_points_86 ?_
          refine lv_iload hx hb dX12_points_89 (lv_at hl 5 rfl) ?_
          obtain ⟨hin_, h⟩ := ck_e h
          refine la_44 hx hb hKK hI e25 (lc99 hN) (kc99 hk0) hin_ dX12_points_91 ?_
          refine lv_iload_n hx hb dX12_points_92 rfl (lv_at hl 2 rfl) ?_
          refine lv_icmp_ne (tgt := 122) hx hb dX12_points_93 (by decide) (fun hc => ?_) (fun hc => ?_)
          · replace h := ite_f hc h
            obtain ⟨v4_122, qq, h⟩ := bn_e h
            refine lv_iinc (v := v4_122) (lv' := [(4, .int v4_122), (5, .int v5_74), (0, .ref (HB.size + 91)), (1, .int v1), (2, .int v2), (3, .int v3)]) hx hb dX12_points_122 hl (k := 5) rfl (by rw [qq]; rfl) (by decide) rfl (fun ls hl => ?_)
            refine lv_goto (tgt := 58) hx hb dX12_points_125 (by decide) ?_
            exact hk58 H locs ls G24 G25 G42 v1 v2 v3 v4_122  hI e24 e25 e42 (lv_sub hl [2, 3, 4, 5, 0] rfl) h
          · replace h := ite_t hc h
            refine lv_aload_n hx hb dX12_points_96 rfl (lv_at hl 1 rfl) ?_
            refine gf_X12_28 hx hb hts hown hKK hI hN dX12_points_97 ?_
            refine lv_iload_n hx hb dX12_points_100 rfl (lv_at hl 3 rfl) ?_
            obtain ⟨hin_, h⟩ := ck_e h
            refine la_43 hx hb hKK hI e24 (lc98 hN) (kc98 hk0) hin_ dX12_points_101 ?_
            refine lv_iload hx hb dX12_points_102 (lv_at hl 0 rfl) ?_
            refine lv_icmp_eq (tgt := 118) hx hb dX12_points_104 (by decide) (fun hc => ?_) (fun hc => ?_)
            · replace h := ite_t hc h
              refine lv_iload_n hx hb dX12_points_118 rfl (lv_at hl 4 rfl) ?_
              refine lv_iconst (v := 4) hx hb dX12_points_119 (by decide) ?_
              refine lv_iadd hx hb dX12_points_120 ?_
              have hq := Option.some.inj h
              exact W.iret (v := (v3 + 4)) hx hb hr (fun t ht hW => qc_mk (congrArg (fun z => Outcome.returned (some (Value.int z))) hq) (by rw [ht]; exact hI.nil)) hI.2.2 dX12_points_121 hlocks
            · replace h := ite_f hc h
              refine lv_aload_n hx hb dX12_points_107 rfl (lv_at hl 1 rfl) ?_
              refine gf_X12_28 hx hb hts hown hKK hI hN dX12_points_108 ?_
              refine lv_iload hx hb dX12_points_111 (lv_at hl 0 rfl) ?_
              obtain ⟨hin_, h⟩ := ck_e h
              refine la_43 hx hb hKK hI e24 (lc98 hN) (kc98 hk0) hin_ dX12_points_113 ?_
              refine lv_iload_n hx hb dX12_points_114 rfl (lv_at hl 3 rfl) ?_
              refine lv_icmp_ne (tgt := 122) hx hb dX12_points_115 (by decide) (fun hc => ?_) (fun hc => ?_)
              · replace h := ite_f hc h
                obtain ⟨v4_122, qq, h⟩ := bn_e h
                refine lv_iinc (v := v4_122) (lv' := [(4, .int v4_122), (5, .int v5_74), (0, .ref (HB.size + 91)), (1, .int v1), (2, .int v2), (3, .int v3)]) hx hb dX12_points_122 hl (k := 5) rfl (by rw [qq]; rfl) (by decide) rfl (fun ls hl => ?_)
                refine lv_goto (tgt := 58) hx hb dX12_points_125 (by decide) ?_
                exact hk58 H locs ls G24 G25 G42 v1 v2 v3 v4_122  hI e24 e25 e42 (lv_sub hl [2, 3, 4, 5, 0] rfl) h
              · replace h := ite_t hc h
                refine lv_iload_n hx hb dX12_points_118 rfl (lv_at hl 4 rfl) ?_
                refine lv_iconst (v := 4) hx hb dX12_points_119 (by decide) ?_
                refine lv_iadd hx hb dX12_points_120 ?_
                have hq := Option.some.inj h
                exact W.iret (v := (v3 + 4)) hx hb hr (fun t ht hW => qc_mk (congrArg (fun z => Outcome.returned (some (Value.int z))) hq) (by rw [ht]; exact hI.nil)) hI.2.2 dX12_points_121 hlocks
  show WX RM_X12_points p l e s m args below meth c HB (some (.int q)) (B_X12_points HB D y n κ σ q) s.heap [] (F0 m 0 ls [])
  generalize s.heap = H at hI ⊢
  unfold f_X12_points at h
  obtain ⟨locs, hlocs⟩ : ∃ x : List Loc, x = [] := ⟨_, rfl⟩
  rw [← hlocs] at hI ⊢
  refine lv_aload_n hx hb dX12_points_0 rfl (lv_at hl 0 rfl) ?_
  refine gf_X12_242 hx hb hts hown hKK hI hN dX12_points_1 ?_
  refine lv_iload_n hx hb dX12_points_4 rfl (lv_at hl 1 rfl) ?_
  obtain ⟨hin_, h⟩ := ck_e h
  refine la_73 hx hb hKK hI e42 (lc168 hN) (kc168 hk0) hin_ dX12_points_5 ?_
  refine lv_aload_n hx hb dX12_points_6 rfl (lv_at hl 0 rfl) ?_
  refine gf_X12_25 hx hb hts hown hKK hI hN dX12_points_7 ?_
  refine lv_iload_n hx hb dX12_points_10 rfl (lv_at hl 2 rfl) ?_
  obtain ⟨hin_, h⟩ := ck_e h
  refine la_43 hx hb hKK hI e24 (lc97 hN) (kc97 hk0) hin_ dX12_points_11 ?_
  refine lv_ishr hx hb dX12_points_12 ?_
  refine lv_iconst (v := 1) hx hb dX12_points_13 (by decide) ?_
  refine lv_iand hx hb dX12_points_14 ?_
  refine lv_iconst (v := 3) hx hb dX12_points_15 (by decide) ?_
  refine lv_imul hx hb dX12_points_16 ?_
  refine lv_aload_n hx hb dX12_points_17 rfl (lv_at hl 0 rfl) ?_
  refine gf_X12_245 hx hb hts hown hKK hI hN dX12_points_18 ?_
  refine lv_iload_n hx hb dX12_points_21 rfl (lv_at hl 1 rfl) ?_
  obtain ⟨hin_, h⟩ := ck_e h
  refine la_73 hx hb hKK hI e42 (lc169 hN) (kc169 hk0) hin_ dX12_points_22 ?_
  refine lv_aload_n hx hb dX12_points_23 rfl (lv_at hl 0 rfl) ?_
  refine gf_X12_19 hx hb hts hown hKK hI hN dX12_points_24 ?_
  refine lv_iload_n hx hb dX12_points_27 rfl (lv_at hl 2 rfl) ?_
  obtain ⟨hin_, h⟩ := ck_e h
  refine la_43 hx hb hKK hI e24 (lc95 hN) (kc95 hk0) hin_ dX12_points_28 ?_
  refine lv_ishr hx hb dX12_points_29 ?_
  refine lv_iconst (v := 1) hx hb dX12_points_30 (by decide) ?_
  refine lv_iand hx hb dX12_points_31 ?_
  refine lv_iadd hx hb dX12_points_32 ?_
  refine lv_aload_n hx hb dX12_points_33 rfl (lv_at hl 0 rfl) ?_
  refine gf_X12_16 hx hb hts hown hKK hI hN dX12_points_34 ?_
  refine lv_iload_n hx hb dX12_points_37 rfl (lv_at hl 1 rfl) ?_
  obtain ⟨hin_, h⟩ := ck_e h
  refine la_43 hx hb hKK hI e24 (lc94 hN) (kc94 hk0) hin_ dX12_points_38 ?_
  refine lv_aload_n hx hb dX12_points_39 rfl (lv_at hl 0 rfl) ?_
  refine gf_X12_22 hx hb hts hown hKK hI hN dX12_points_40 ?_
  refine lv_iload_n hx hb dX12_points_43 rfl (lv_at hl 2 rfl) ?_
  obtain ⟨hin_, h⟩ := ck_e h
  refine la_43 hx hb hKK hI e24 (lc96 hN) (kc96 hk0) hin_ dX12_points_44 ?_
  refine lv_icmp_ne (tgt := 52) hx hb dX12_points_45 (by decide) (fun hc => ?_) (fun hc => ?_)
  · replace h := ite_f hc h
    refine lv_iconst (v := 0) hx hb dX12_points_52 (by decide) ?_
    refine lv_iadd hx hb dX12_points_53 ?_
    obtain ⟨v3_54, qq, h⟩ := bn_e h
    refine topi qq ?_
    refine lv_istore_n (lv' := [(3, .int v3_54), (0, .ref (HB.size + 91)), (1, .int v1), (2, .int v2)]) hx hb dX12_points_54 rfl hl (by decide) rfl (fun ls hl => ?_)
    refine lv_iconst (v := 0) hx hb dX12_points_55 (by decide) ?_
    refine lv_istore (lv' := [(4, .int 0), (3, .int v3_54), (0, .ref (HB.size + 91)), (1, .int v1), (2, .int v2)]) hx hb dX12_points_56 hl (by decide) rfl (fun ls hl => ?_)
    exact b58  F H locs ls G24 G25 G42 v1 v2 v3_54 0  hI e24 e25 e42 (lv_sub hl [2, 3, 4, 1, 0] rfl) h
  · replace h := ite_t hc h
    refine lv_iconst (v := 2) hx hb dX12_points_48 (by decide) ?_
    refine lv_goto (tgt := 53) hx hb dX12_points_49 (by decide) ?_
    refine lv_iadd hx hb dX12_points_53 ?_
    obtain ⟨v3_54, qq, h⟩ := bn_e h
    refine topi qq ?_
    refine lv_istore_n (lv' := [(3, .int v3_54), (0, .ref (HB.size + 91)), (1, .int v1), (2, .int v2)]) hx hb dX12_points_54 rfl hl (by decide) rfl (fun ls hl => ?_)
    refine lv_iconst (v := 0) hx hb dX12_points_55 (by decide) ?_
    refine lv_istore (lv' := [(4, .int 0), (3, .int v3_54), (0, .ref (HB.size + 91)), (1, .int v1), (2, .int v2)]) hx hb dX12_points_56 hl (by decide) rfl (fun ls hl => ?_)
    exact b58  F H locs ls G24 G25 G42 v1 v2 v3_54 0  hI e24 e25 e42 (lv_sub hl [2, 3, 4, 1, 0] rfl) h
noncomputable def f_X12_gathers_l78b (F : Nat)  (k78 : Grp → Grp → Grp → Grp → Grp → Grp → Int32 → Option (Grp)) (G23 : Grp) (G24 : Grp) (G25 : Grp) (G41 : Grp) (G42 : Grp) (G43 : Grp) (v1 : Int32) : Option (Grp) :=
  if (G24.1 91 3) ≤ v1 then some G43 else ob (f_X12_pairOf F G25 v1) (fun q_88 => if q_88 = (-1) then ob (f_X12_leftOn F G41 v1 (G23.1 91 0)) (fun q_101 => if q_101 = (-1) then if (G43.1 91 108) = 6 then bn (v1 + 1) (fun v1_140 => k78 G23 G24 G25 G41 G42 G43 v1_140) else ck (G43.1 91 108) 6 (bn (gI G43 171 (G43.1 91 108).toNatClampNeg v1) (fun G43_129 => bn (gI G43_129 91 108 ((G43_129.1 91 108) + 1)) (fun G43_137 => bn (v1 + 1) (fun v1_140 => k78 G23 G24 G25 G41 G42 G43_137 v1_140)))) else bn (v1 + 1) (fun v1_140 => k78 G23 G24 G25 G41 G42 G43 v1_140)) else bn (v1 + 1) (fun v1_140 => k78 G23 G24 G25 G41 G42 G43 v1_140))
noncomputable def f_X12_gathers_l78 (F : Nat)  (fu : Nat) : Grp → Grp → Grp → Grp → Grp → Grp → Int32 → Option (Grp) := Nat.rec (motive := fun _ => Grp → Grp → Grp → Grp → Grp → Grp → Int32 → Option (Grp)) (fun _ _ _ _ _ _ _ => none) (fun _ ih => f_X12_gathers_l78b F  ih) fu
noncomputable def f_X12_gathers_l12b (F : Nat)  (k12 : Grp → Grp → Grp → Grp → Grp → Grp → Int32 → Option (Grp)) (G23 : Grp) (G24 : Grp) (G25 : Grp) (G41 : Grp) (G42 : Grp) (G43 : Grp) (v1 : Int32) : Option (Grp) :=
  if (G24.1 91 2) ≤ v1 then f_X12_gathers_l78 F  F G23 G24 G25 G41 G42 G43 0 else ck v1 16 (if (G42.1 172 v1.toNatClampNeg) = 0 then bn (v1 + 1) (fun v1_70 => k12 G23 G24 G25 G41 G42 G43 v1_70) else ob (f_X12_pairsOf F G25 v1) (fun q_31 => if 2 ≤ q_31 then bn (v1 + 1) (fun v1_70 => k12 G23 G24 G25 G41 G42 G43 v1_70) else if (G43.1 91 107) = 6 then bn (v1 + 1) (fun v1_70 => k12 G23 G24 G25 G41 G42 G43 v1_70) else ck (G43.1 91 107) 6 (bn (gI G43 170 (G43.1 91 107).toNatClampNeg v1) (fun G43_59 => bn (gI G43_59 91 107 ((G43_59.1 91 107) + 1)) (fun G43_67 => bn (v1 + 1) (fun v1_70 => k12 G23 G24 G25 G41 G42 G43_67 v1_70))))))
noncomputable def f_X12_gathers_l12 (F : Nat)  (fu : Nat) : Grp → Grp → Grp → Grp → Grp → Grp → Int32 → Option (Grp) := Nat.rec (motive := fun _ => Grp → Grp → Grp → Grp → Grp → Grp → Int32 → Option (Grp)) (fun _ _ _ _ _ _ _ => none) (fun _ ih => f_X12_gathers_l12b F  ih) fu
noncomputable def f_X12_gathers (F : Nat) (G23 : Grp) (G24 : Grp) (G25 : Grp) (G41 : Grp) (G42 : Grp) (G43 : Grp)  : Option (Grp) :=
  bn (gI G43 91 107 0) (fun G43_2 => bn (gI G43_2 91 108 0) (fun G43_7 => f_X12_gathers_l12 F  F G23 G24 G25 G41 G42 G43_7 0))
def RM_X12_gathers : Room := { frames := 2, cells := 0, slots := 0, locals := 44 }
abbrev W_X12_gathers : List Nat := [43]
abbrev B_X12_gathers (HB : Heap) (D : va_G) (y : Nat → ClassId) (n : Nat) (κ : Nat → Nat) (σ0 : St) (q : Grp) : Heap → Prop := fun H => ∃ σ : St, IV HB D y n n κ σ [] H ∧ σ 43 = q ∧ ∀ j, j ∉ W_X12_gathers → σ j = σ0 j
set_option maxRecDepth 100000 in
set_option maxHeartbeats 4000000 in
theorem c_X12_gathers (l : Launch) (HB : Heap) (D : va_G) (y : Nat → ClassId) (F n : Nat) (κ : Nat → Nat) (σ0 : St) (hN : N0 ≤ n)  (G23 : Grp) (e23 : σ0 23 = G23) (G24 : Grp) (e24 : σ0 24 = G24) (G25 : Grp) (e25 : σ0 25 = G25) (G41 : Grp) (e41 : σ0 41 = G41) (G42 : Grp) (e42 : σ0 42 = G42) (G43 : Grp) (e43 : σ0 43 = G43) (q : Grp) (h : f_X12_gathers F G23 G24 G25 G41 G42 G43 = some q) : MT l HB D y yX12_gathers cX12_gathers 2 none RM_X12_gathers [.ref (HB.size + 91)] (IV HB D y n n κ σ0 []) none (B_X12_gathers HB D y n κ σ0 q) := by
  refine Met.ofW (cc := cX12_gathers) (maxL := 2) (ret := none) (by decide) rfl ?_
  intro p e s m args below meth c s₁ BL hml hv
  obtain ⟨rfl, hI, hKK⟩ := hv
  have hx := BL.exec
  have hb := BL.bytes
  have hr := BL.returns
  have hts : ∀ w ∈ gtb, w.before _ s = true := fun w hw => atoms_spec BL.pre w (List.mem_cons_of_mem _ hw)
  have hml : c.maxLocals = 2 := hml
  have hown : s.vm.findClass RX12 = some m.cls := findClass_of_methodNamed BL.named
  have hlocks := BL.notSynchronized
  have hk0 := hI.1.2.2.2.2
  have hl := lv_entry ([.ref (HB.size + 91)]) (n := 2) (Nat.le_of_ble_eq_true rfl)
  rw [lg_entry_eq]
  generalize (lg_sl ([.ref (HB.size + 91)]) ++ List.replicate (2 - (lg_sl ([.ref (HB.size + 91)])).length) Slot.unset).toArray = ls at hl ⊢
  have hl : lv_has ls 2 [(0, .ref (HB.size + 91))] := hl
  generalize hargs : ([.ref (HB.size + 91)] : List Value).toArray = args at *
  have b78 : ∀ (fu : Nat) (σ : St) (H : Heap) (locs : List Loc) (ls : Array Slot) (G23 : Grp) (G24 : Grp) (G25 : Grp) (G41 : Grp) (G42 : Grp) (G43 : Grp) (v1 : Int32) , IV HB D y n n κ σ locs H → σ 23 = G23 → σ 24 = G24 → σ 25 = G25 → σ 41 = G41 → σ 42 = G42 → σ 43 = G43 → (∀ j, j ∉ W_X12_gathers → σ j = σ0 j) → lv_has ls 2 [(0, .ref (HB.size + 91)), (1, .int v1)] → f_X12_gathers_l78 F  fu G23 G24 G25 G41 G42 G43 v1 = some q → WX RM_X12_gathers p l e s m args below meth c HB none (B_X12_gathers HB D y n κ σ0 q) H locs (F0 m 78 ls []) := by
    intro  fu
    induction fu with
    | zero =>
      intro σ H locs ls G23 G24 G25 G41 G42 G43 v1 hI e23 e24 e25 e41 e42 e43 fr hl h
      exact absurd h (by intro h; cases h)
    | succ fu hk78 =>
      intro σ H locs ls G23 G24 G25 G41 G42 G43 v1 hI e23 e24 e25 e41 e42 e43 fr hl h
      have h : f_X12_gathers_l78b F  (f_X12_gathers_l78 F  fu) G23 G24 G25 G41 G42 G43 v1 = some q := h
      generalize f_X12_gathers_l78 F  fu = k78 at h hk78
      unfold f_X12_gathers_l78b at h
      refine lv_iload_n hx hb dX12_gathers_78 rfl (lv_at hl 1 rfl) ?_
      refine lv_aload_n hx hb dX12_gathers_79 rfl (lv_at hl 0 rfl) ?_
      refine gt_X12_271 hx hb hts hown hKK hI e24 (lc91 hN) (kc91 hk0) dX12_gathers_80 ?_
      refine lv_icmp_ge (tgt := 146) hx hb dX12_gathers_83 (by decide) (fun hc => ?_) (fun hc => ?_)
      · replace h := ite_t hc h
        have hq := Option.some.inj h
        exact W.vret hx hb hr (fun t ht hW => qc_mk (rfl) (by rw [ht]; exact ⟨σ, hI.nil, e43.trans (congrArg (fun z => z) hq), fr⟩)) hI.2.2 dX12_gathers_146 hlocks
      · replace h := ite_f hc h
        refine lv_aload_n hx hb dX12_gathers_86 rfl (lv_at hl 0 rfl) ?_
        refine lv_iload_n hx hb dX12_gathers_87 rfl (lv_at hl 1 rfl) ?_
        obtain ⟨q_88, hq_88, h⟩ := ob_e h
        refine r_callV (As := [.int v1]) (rest := []) hx hb hml hts hown (c_X12_pairOf l HB D y F n κ σ hN v1 G25 e25 q_88 hq_88) cal_X12_pairOf im_X12_pairOf se_X12_pairOf lm_X12_290 ⟨Nat.le_of_ble_eq_true rfl, Nat.le_of_ble_eq_true rfl⟩ hI.nil hKK (r_recv hKK hI (hE12 HB.size y) rfl (lc91 hN) (kc91 hk0)) rfl hl.1 hI.2.2 rfl (Nat.le_of_ble_eq_true rfl) dX12_gathers_88 ⟨Nat.le_of_ble_eq_true rfl, Nat.le_of_ble_eq_true rfl⟩ rfl rfl rfl (fun H locs hB hlo => ?_)
        have hI := hB.re hlo
        refine lv_iconst (v := (-1)) hx hb dX12_gathers_91 (by decide) ?_
        refine lv_icmp_ne (tgt := 140) hx hb dX12_gathers_92 (by decide) (fun hc => ?_) (fun hc => ?_)
        · replace h := ite_f hc h
          obtain ⟨v1_140, qq, h⟩ := bn_e h
          refine lv_iinc (v := v1_140) (lv' := [(1, .int v1_140), (0, .ref (HB.size + 91))]) hx hb dX12_gathers_140 hl (k := 1) rfl (by rw [qq]; rfl) (by decide) rfl (fun ls hl => ?_)
          refine lv_goto (tgt := 78) hx hb dX12_gathers_143 (by decide) ?_
          exact hk78 σ H locs ls G23 G24 G25 G41 G42 G43 v1_140  hI e23 e24 e25 e41 e42 e43 fr (lv_sub hl [1, 0] rfl) h
        · replace h := ite_t hc h
          refine lv_aload_n hx hb dX12_gathers_95 rfl (lv_at hl 0 rfl) ?_
          refine lv_iload_n hx hb dX12_gathers_96 rfl (lv_at hl 1 rfl) ?_
          refine lv_aload_n hx hb dX12_gathers_97 rfl (lv_at hl 0 rfl) ?_
          refine gt_X12_281 hx hb hts hown hKK hI e23 (lc91 hN) (kc91 hk0) dX12_gathers_98 ?_
          obtain ⟨q_101, hq_101, h⟩ := ob_e h
          refine r_callV (As := [.int v1, .int (G23.1 91 0)]) (rest := []) hx hb hml hts hown (c_X12_leftOn l HB D y F n κ σ hN v1 (G23.1 91 0) G41 e41 q_101 hq_101) cal_X12_leftOn im_X12_leftOn se_X12_leftOn lm_X12_297 ⟨Nat.le_of_ble_eq_true rfl, Nat.le_of_ble_eq_true rfl⟩ hI.nil hKK (r_recv hKK hI (hE12 HB.size y) rfl (lc91 hN) (kc91 hk0)) rfl hl.1 hI.2.2 rfl (Nat.le_of_ble_eq_true rfl) dX12_gathers_101 ⟨Nat.le_of_ble_eq_true rfl, Nat.le_of_ble_eq_true rfl⟩ rfl rfl rfl (fun H locs hB hlo => ?_)
          have hI := hB.re hlo
          refine lv_iconst (v := (-1)) hx hb dX12_gathers_104 (by decide) ?_
          refine lv_icmp_ne (tgt := 140) hx hb dX12_gathers_105 (by decide) (fun hc => ?_) (fun hc => ?_)
          · replace h := ite_f hc h
            obtain ⟨v1_140, qq, h⟩ := bn_e h
            refine lv_iinc (v := v1_140) (lv' := [(1, .int v1_140), (0, .ref (HB.size + 91))]) hx hb dX12_gathers_140 hl (k := 1) rfl (by rw [qq]; rfl) (by decide) rfl (fun ls hl => ?_)
            refine lv_goto (tgt := 78) hx hb dX12_gathers_143 (by decide) ?_
            exact hk78 σ H locs ls G23 G24 G25 G41 G42 G43 v1_140  hI e23 e24 e25 e41 e42 e43 fr (lv_sub hl [1, 0] rfl) h
          · replace h := ite_t hc h
            refine lv_aload_n hx hb dX12_gathers_108 rfl (lv_at hl 0 rfl) ?_
            refine gt_X12_553 hx hb hts hown hKK hI e43 (lc91 hN) (kc91 hk0) dX12_gathers_109 ?_
            refine lv_bipush (v := 6) hx hb dX12_gathers_112 (by decide) ?_
            refine lv_icmp_ne (tgt := 120) hx hb dX12_gathers_114 (by decide) (fun hc => ?_) (fun hc => ?_)
            · replace h := ite_f hc h
              refine lv_aload_n hx hb dX12_gathers_120 rfl (lv_at hl 0 rfl) ?_
              refine gf_X12_251 hx hb hts hown hKK hI hN dX12_gathers_121 ?_
              refine lv_aload_n hx hb dX12_gathers_124 rfl (lv_at hl 0 rfl) ?_
              refine gt_X12_553 hx hb hts hown hKK hI e43 (lc91 hN) (kc91 hk0) dX12_gathers_125 ?_
              refine lv_iload_n hx hb dX12_gathers_128 rfl (lv_at hl 1 rfl) ?_
              obtain ⟨hin_, h⟩ := ck_e h
              obtain ⟨G43_129, qq, h⟩ := bn_e h
              refine sa_74 hx hb hKK hI e43 (lc171 hN) (kc171 hk0) hin_ dX12_gathers_129 (fun σ H locs hI ew ho => ?_)
              have e43 := ew.trans qq.symm
              have e23 := (ho 23 (nn rfl)).trans e23
              have e24 := (ho 24 (nn rfl)).trans e24
              have e25 := (ho 25 (nn rfl)).trans e25
              have e41 := (ho 41 (nn rfl)).trans e41
              have e42 := (ho 42 (nn rfl)).trans e42
              have fr := frs fr ho (by decide)
              refine lv_aload_n hx hb dX12_gathers_130 rfl (lv_at hl 0 rfl) ?_
              refine lv_aload_n hx hb dX12_gathers_131 rfl (lv_at hl 0 rfl) ?_
              refine gt_X12_553 hx hb hts hown hKK hI e43 (lc91 hN) (kc91 hk0) dX12_gathers_132 ?_
              refine lv_iconst (v := 1) hx hb dX12_gathers_135 (by decide) ?_
              refine lv_iadd hx hb dX12_gathers_136 ?_
              obtain ⟨G43_137, qq, h⟩ := bn_e h
              refine pt_X12_553 hx hb hts hown hKK hI e43 (lc91 hN) (kc91 hk0) dX12_gathers_137 (fun σ H locs hI ew ho => ?_)
              have e43 := ew.trans qq.symm
              have e23 := (ho 23 (nn rfl)).trans e23
              have e24 := (ho 24 (nn rfl)).trans e24
              have e25 := (ho 25 (nn rfl)).trans e25
              have e41 := (ho 41 (nn rfl)).trans e41
              have e42 := (ho 42 (nn rfl)).trans e42
              have fr := frs fr ho (by decide)
              obtain ⟨v1_140, qq, h⟩ := bn_e h
              refine lv_iinc (v := v1_140) (lv' := [(1, .int v1_140), (0, .ref (HB.size + 91))]) hx hb dX12_gathers_140 hl (k := 1) rfl (by rw [qq]; rfl) (by decide) rfl (fun ls hl => ?_)
              refine lv_goto (tgt := 78) hx hb dX12_gathers_143 (by decide) ?_
              exact hk78 σ H locs ls G23 G24 G25 G41 G42 G43_137 v1_140  hI e23 e24 e25 e41 e42 e43 fr (lv_sub hl [1, 0] rfl) h
            · replace h := ite_t hc h
              refine lv_goto (tgt := 140) hx hb dX12_gathers_117 (by decide) ?_
              obtain ⟨v1_140, qq, h⟩ := bn_e h
              refine lv_iinc (v := v1_140) (lv' := [(1, .int v1_140), (0, .ref (HB.size + 91))]) hx hb dX12_gathers_140 hl (k := 1) rfl (by rw [qq]; rfl) (by decide) rfl (fun ls hl => ?_)
              refine lv_goto (tgt := 78) hx hb dX12_gathers_143 (by decide) ?_
              exact hk78 σ H locs ls G23 G24 G25 G41 G42 G43 v1_140  hI e23 e24 e25 e41 e42 e43 fr (lv_sub hl [1, 0] rfl) h
  have b12 : ∀ (fu : Nat) (σ : St) (H : Heap) (locs : List Loc) (ls : Array Slot) (G23 : Grp) (G24 : Grp) (G25 : Grp) (G41 : Grp) (G42 : Grp) (G43 : Grp) (v1 : Int32) , IV HB D y n n κ σ locs H → σ 23 = G23 → σ 24 = G24 → σ 25 = G25 → σ 41 = G41 → σ 42 = G42 → σ 43 = G43 → (∀ j, j ∉ W_X12_gathers → σ j = σ0 j) → lv_has ls 2 [(0, .ref (HB.size + 91)), (1, .int v1)] → f_X12_gathers_l12 F  fu G23 G24 G25 G41 G42 G43 v1 = some q → WX RM_X12_gathers p l e s m args below meth c HB none (B_X12_gathers HB D y n κ σ0 q) H locs (F0 m 12 ls []) := by
    intro  fu
    induction fu with
    | zero =>
      intro σ H locs ls G23 G24 G25 G41 G42 G43 v1 hI e23 e24 e25 e41 e42 e43 fr hl h
      exact absurd h (by intro h; cases h)
    | succ fu hk12 =>
      intro σ H locs ls G23 G24 G25 G41 G42 G43 v1 hI e23 e24 e25 e41 e42 e43 fr hl h
      have h : f_X12_gathers_l12b F  (f_X12_gathers_l12 F  fu) G23 G24 G25 G41 G42 G43 v1 = some q := h
      generalize f_X12_gathers_l12 F  fu = k12 at h hk12
      unfold f_X12_gathers_l12b at h
      refine lv_iload_n hx hb dX12_gathers_12 rfl (lv_at hl 1 rfl) ?_
      refine lv_aload_n hx hb dX12_gathers_13 rfl (lv_at hl 0 rfl) ?_
      refine gt_X12_268 hx hb hts hown hKK hI e24 (lc91 hN) (kc91 hk0) dX12_gathers_14 ?_
      refine lv_icmp_ge (tgt := 76) hx hb dX12_gathers_17 (by decide) (fun hc => ?_) (fun hc => ?_)
      · replace h := ite_t hc h
        refine lv_iconst (v := 0) hx hb dX12_gathers_76 (by decide) ?_
        refine lv_istore_n (lv' := [(1, .int 0), (0, .ref (HB.size + 91))]) hx hb dX12_gathers_77 rfl hl (by decide) rfl (fun ls hl => ?_)
        exact b78  F σ H locs ls G23 G24 G25 G41 G42 G43 0  hI e23 e24 e25 e41 e42 e43 fr (lv_sub hl [1, 0] rfl) h
      · replace h := ite_f hc h
        refine lv_aload_n hx hb dX12_gathers_20 rfl (lv_at hl 0 rfl) ?_
        refine gf_X12_254 hx hb hts hown hKK hI hN dX12_gathers_21 ?_
        refine lv_iload_n hx hb dX12_gathers_24 rfl (lv_at hl 1 rfl) ?_
        obtain ⟨hin_, h⟩ := ck_e h
        refine la_75 hx hb hKK hI e42 (lc172 hN) (kc172 hk0) hin_ dX12_gathers_25 ?_
        refine lv_if_eq (tgt := 70) hx hb dX12_gathers_26 (by decide) (fun hc => ?_) (fun hc => ?_)
        · replace h := ite_t hc h
          obtain ⟨v1_70, qq, h⟩ := bn_e h
          refine lv_iinc (v := v1_70) (lv' := [(1, .int v1_70), (0, .ref (HB.size + 91))]) hx hb dX12_gathers_70 hl (k := 1) rfl (by rw [qq]; rfl) (by decide) rfl (fun ls hl => ?_)
          refine lv_goto (tgt := 12) hx hb dX12_gathers_73 (by decide) ?_
          exact hk12 σ H locs ls G23 G24 G25 G41 G42 G43 v1_70  hI e23 e24 e25 e41 e42 e43 fr (lv_sub hl [1, 0] rfl) h
        · replace h := ite_f hc h
          refine lv_aload_n hx hb dX12_gathers_29 rfl (lv_at hl 0 rfl) ?_
          refine lv_iload_n hx hb dX12_gathers_30 rfl (lv_at hl 1 rfl) ?_
          obtain ⟨q_31, hq_31, h⟩ := ob_e h
          refine r_callV (As := [.int v1]) (rest := []) hx hb hml hts hown (c_X12_pairsOf l HB D y F n κ σ hN v1 G25 e25 q_31 hq_31) cal_X12_pairsOf im_X12_pairsOf se_X12_pairsOf lm_X12_294 ⟨Nat.le_of_ble_eq_true rfl, Nat.le_of_ble_eq_true rfl⟩ hI.nil hKK (r_recv hKK hI (hE12 HB.size y) rfl (lc91 hN) (kc91 hk0)) rfl hl.1 hI.2.2 rfl (Nat.le_of_ble_eq_true rfl) dX12_gathers_31 ⟨Nat.le_of_ble_eq_true rfl, Nat.le_of_ble_eq_true rfl⟩ rfl rfl rfl (fun H locs hB hlo => ?_)
          have hI := hB.re hlo
          refine lv_iconst (v := 2) hx hb dX12_gathers_34 (by decide) ?_
          refine lv_icmp_ge (tgt := 70) hx hb dX12_gathers_35 (by decide) (fun hc => ?_) (fun hc => ?_)
          · replace h := ite_t hc h
            obtain ⟨v1_70, qq, h⟩ := bn_e h
            refine lv_iinc (v := v1_70) (lv' := [(1, .int v1_70), (0, .ref (HB.size + 91))]) hx hb dX12_gathers_70 hl (k := 1) rfl (by rw [qq]; rfl) (by decide) rfl (fun ls hl => ?_)
            refine lv_goto (tgt := 12) hx hb dX12_gathers_73 (by decide) ?_
            exact hk12 σ H locs ls G23 G24 G25 G41 G42 G43 v1_70  hI e23 e24 e25 e41 e42 e43 fr (lv_sub hl [1, 0] rfl) h
          · replace h := ite_f hc h
            refine lv_aload_n hx hb dX12_gathers_38 rfl (lv_at hl 0 rfl) ?_
            refine gt_X12_550 hx hb hts hown hKK hI e43 (lc91 hN) (kc91 hk0) dX12_gathers_39 ?_
            refine lv_bipush (v := 6) hx hb dX12_gathers_42 (by decide) ?_
            refine lv_icmp_ne (tgt := 50) hx hb dX12_gathers_44 (by decide) (fun hc => ?_) (fun hc => ?_)
            · replace h := ite_f hc h
              refine lv_aload_n hx hb dX12_gathers_50 rfl (lv_at hl 0 rfl) ?_
              refine gf_X12_248 hx hb hts hown hKK hI hN dX12_gathers_51 ?_
              refine lv_aload_n hx hb dX12_gathers_54 rfl (lv_at hl 0 rfl) ?_
              refine gt_X12_550 hx hb hts hown hKK hI e43 (lc91 hN) (kc91 hk0) dX12_gathers_55 ?_
              refine lv_iload_n hx hb dX12_gathers_58 rfl (lv_at hl 1 rfl) ?_
              obtain ⟨hin_, h⟩ := ck_e h
              obtain ⟨G43_59, qq, h⟩ := bn_e h
              refine sa_74 hx hb hKK hI e43 (lc170 hN) (kc170 hk0) hin_ dX12_gathers_59 (fun σ H locs hI ew ho => ?_)
              have e43 := ew.trans qq.symm
              have e23 := (ho 23 (nn rfl)).trans e23
              have e24 := (ho 24 (nn rfl)).trans e24
              have e25 := (ho 25 (nn rfl)).trans e25
              have e41 := (ho 41 (nn rfl)).trans e41
              have e42 := (ho 42 (nn rfl)).trans e42
              have fr := frs fr ho (by decide)
              refine lv_aload_n hx hb dX12_gathers_60 rfl (lv_at hl 0 rfl) ?_
              refine lv_aload_n hx hb dX12_gathers_61 rfl (lv_at hl 0 rfl) ?_
              refine gt_X12_550 hx hb hts hown hKK hI e43 (lc91 hN) (kc91 hk0) dX12_gathers_62 ?_
              refine lv_iconst (v := 1) hx hb dX12_gathers_65 (by decide) ?_
              refine lv_iadd hx hb dX12_gathers_66 ?_
              obtain ⟨G43_67, qq, h⟩ := bn_e h
              refine pt_X12_550 hx hb hts hown hKK hI e43 (lc91 hN) (kc91 hk0) dX12_gathers_67 (fun σ H locs hI ew ho => ?_)
              have e43 := ew.trans qq.symm
              have e23 := (ho 23 (nn rfl)).trans e23
              have e24 := (ho 24 (nn rfl)).trans e24
              have e25 := (ho 25 (nn rfl)).trans e25
              have e41 := (ho 41 (nn rfl)).trans e41
              have e42 := (ho 42 (nn rfl)).trans e42
              have fr := frs fr ho (by decide)
              obtain ⟨v1_70, qq, h⟩ := bn_e h
              refine lv_iinc (v := v1_70) (lv' := [(1, .int v1_70), (0, .ref (HB.size + 91))]) hx hb dX12_gathers_70 hl (k := 1) rfl (by rw [qq]; rfl) (by decide) rfl (fun ls hl => ?_)
              refine lv_goto (tgt := 12) hx hb dX12_gathers_73 (by decide) ?_
              exact hk12 σ H locs ls G23 G24 G25 G41 G42 G43_67 v1_70  hI e23 e24 e25 e41 e42 e43 fr (lv_sub hl [1, 0] rfl) h
            · replace h := ite_t hc h
              refine lv_goto (tgt := 70) hx hb dX12_gathers_47 (by decide) ?_
              obtain ⟨v1_70, qq, h⟩ := bn_e h
              refine lv_iinc (v := v1_70) (lv' := [(1, .int v1_70), (0, .ref (HB.size + 91))]) hx hb dX12_gathers_70 hl (k := 1) rfl (by rw [qq]; rfl) (by decide) rfl (fun ls hl => ?_)
              refine lv_goto (tgt := 12) hx hb dX12_gathers_73 (by decide) ?_
              exact hk12 σ H locs ls G23 G24 G25 G41 G42 G43 v1_70  hI e23 e24 e25 e41 e42 e43 fr (lv_sub hl [1, 0] rfl) h
  obtain ⟨σ, hI, e23, e24, e25, e41, e42, e43, fr⟩ : ∃ σ : St, IV HB D y n n κ σ [] s.heap ∧ σ 23 = G23 ∧ σ 24 = G24 ∧ σ 25 = G25 ∧ σ 41 = G41 ∧ σ 42 = G42 ∧ σ 43 = G43 ∧ ∀ j, j ∉ W_X12_gathers → σ j = σ0 j := ⟨σ0, hI, e23, e24, e25, e41, e42, e43, fun _ _ => rfl⟩
  show WX RM_X12_gathers p l e s m args below meth c HB none (B_X12_gathers HB D y n κ σ0 q) s.heap [] (F0 m 0 ls [])
  generalize s.heap = H at hI ⊢
  unfold f_X12_gathers at h
  obtain ⟨locs, hlocs⟩ : ∃ x : List Loc, x = [] := ⟨_, rfl⟩
  rw [← hlocs] at hI ⊢
  refine lv_aload_n hx hb dX12_gathers_0 rfl (lv_at hl 0 rfl) ?_
  refine lv_iconst (v := 0) hx hb dX12_gathers_1 (by decide) ?_
  obtain ⟨G43_2, qq, h⟩ := bn_e h
  refine pt_X12_550 hx hb hts hown hKK hI e43 (lc91 hN) (kc91 hk0) dX12_gathers_2 (fun σ H locs hI ew ho => ?_)
  have e43 := ew.trans qq.symm
  have e23 := (ho 23 (nn rfl)).trans e23
  have e24 := (ho 24 (nn rfl)).trans e24
  have e25 := (ho 25 (nn rfl)).trans e25
  have e41 := (ho 41 (nn rfl)).trans e41
  have e42 := (ho 42 (nn rfl)).trans e42
  have fr := frs fr ho (by decide)
  refine lv_aload_n hx hb dX12_gathers_5 rfl (lv_at hl 0 rfl) ?_
  refine lv_iconst (v := 0) hx hb dX12_gathers_6 (by decide) ?_
  obtain ⟨G43_7, qq, h⟩ := bn_e h
  refine pt_X12_553 hx hb hts hown hKK hI e43 (lc91 hN) (kc91 hk0) dX12_gathers_7 (fun σ H locs hI ew ho => ?_)
  have e43 := ew.trans qq.symm
  have e23 := (ho 23 (nn rfl)).trans e23
  have e24 := (ho 24 (nn rfl)).trans e24
  have e25 := (ho 25 (nn rfl)).trans e25
  have e41 := (ho 41 (nn rfl)).trans e41
  have e42 := (ho 42 (nn rfl)).trans e42
  have fr := frs fr ho (by decide)
  refine lv_iconst (v := 0) hx hb dX12_gathers_10 (by decide) ?_
  refine lv_istore_n (lv' := [(1, .int 0), (0, .ref (HB.size + 91))]) hx hb dX12_gathers_11 rfl hl (by decide) rfl (fun ls hl => ?_)
  exact b12  F σ H locs ls G23 G24 G25 G41 G42 G43_7 0  hI e23 e24 e25 e41 e42 e43 fr (lv_sub hl [1, 0] rfl) h
noncomputable def f_X12_isRow_l12b (F : Nat)  (k12 : Grp → Grp → Int32 → Int32 → Int32 → Option (Int32 × Grp)) (G38 : Grp) (G43 : Grp) (v2 : Int32) (v3 : Int32) (v4 : Int32) : Option (Int32 × Grp) :=
  if v4 < 0 then some (1, G38) else cz ((G43.1 91 108) + 1) (ck v4 6 (bn (gI G38 153 v4.toNatClampNeg (v2 - v2 / ((G43.1 91 108) + 1) * ((G43.1 91 108) + 1))) (fun G38_31 => cz ((G43.1 91 108) + 1) (bn ((v2 / ((G43.1 91 108) + 1))) (fun v2_40 => ck v4 6 (if (G38_31.1 153 v4.toNatClampNeg) = (G43.1 91 108) then bn (v4 + (-1)) (fun v4_87 => k12 G38_31 G43 v2_40 v3 v4_87) else ck v4 6 (if ((v3 >>> ((G38_31.1 153 v4.toNatClampNeg) &&& 31)) &&& 1) = 1 then some (0, G38_31) else ck v4 6 (bn ((v3 ||| (1 <<< ((G38_31.1 153 v4.toNatClampNeg) &&& 31)))) (fun v3_86 => bn (v4 + (-1)) (fun v4_87 => k12 G38_31 G43 v2_40 v3_86 v4_87))))))))))
noncomputable def f_X12_isRow_l12 (F : Nat)  (fu : Nat) : Grp → Grp → Int32 → Int32 → Int32 → Option (Int32 × Grp) := Nat.rec (motive := fun _ => Grp → Grp → Int32 → Int32 → Int32 → Option (Int32 × Grp)) (fun _ _ _ _ _ => none) (fun _ ih => f_X12_isRow_l12b F  ih) fu
noncomputable def f_X12_isRow (F : Nat) (G38 : Grp) (G43 : Grp) (v1 : Int32) : Option (Int32 × Grp) :=
  bn (((G43.1 91 107) - 1)) (fun v4_10 => f_X12_isRow_l12 F  F G38 G43 v1 0 v4_10)
def RM_X12_isRow : Room := { frames := 0, cells := 0, slots := 0, locals := 0 }
abbrev W_X12_isRow : List Nat := [38]
abbrev B_X12_isRow (HB : Heap) (D : va_G) (y : Nat → ClassId) (n : Nat) (κ : Nat → Nat) (σ0 : St) (q : Int32 × Grp) : Heap → Prop := fun H => ∃ σ : St, IV HB D y n n κ σ [] H ∧ σ 38 = q.2 ∧ ∀ j, j ∉ W_X12_isRow → σ j = σ0 j
set_option maxRecDepth 100000 in
set_option maxHeartbeats 4000000 in
theorem c_X12_isRow (l : Launch) (HB : Heap) (D : va_G) (y : Nat → ClassId) (F n : Nat) (κ : Nat → Nat) (σ0 : St) (hN : N0 ≤ n) (v1 : Int32)  (G38 : Grp) (e38 : σ0 38 = G38) (G43 : Grp) (e43 : σ0 43 = G43) (q : Int32 × Grp) (h : f_X12_isRow F G38 G43 v1 = some q) : MT l HB D y yX12_isRow cX12_isRow 5 (some .boolean) RM_X12_isRow [.ref (HB.size + 91), .int v1] (IV HB D y n n κ σ0 []) (some (.int q.1)) (B_X12_isRow HB D y n κ σ0 q) := by
  refine Met.ofW (cc := cX12_isRow) (maxL := 5) (ret := (some .boolean)) (by decide) rfl ?_
  intro p e s m args below meth c s₁ BL hml hv
  obtain ⟨rfl, hI, hKK⟩ := hv
  have hx := BL.exec
  have hb := BL.bytes
  have hr := BL.returns
  have hts : ∀ w ∈ gtb, w.before _ s = true := fun w hw => atoms_spec BL.pre w (List.mem_cons_of_mem _ hw)
  have hml : c.maxLocals = 5 := hml
  have hown : s.vm.findClass RX12 = some m.cls := findClass_of_methodNamed BL.named
  have hlocks := BL.notSynchronized
  have hk0 := hI.1.2.2.2.2
  have hl := lv_entry ([.ref (HB.size + 91), .int v1]) (n := 5) (Nat.le_of_ble_eq_true rfl)
  rw [lg_entry_eq]
  generalize (lg_sl ([.ref (HB.size + 91), .int v1]) ++ List.replicate (5 - (lg_sl ([.ref (HB.size + 91), .int v1])).length) Slot.unset).toArray = ls at hl ⊢
  have hl : lv_has ls 5 [(0, .ref (HB.size + 91)), (1, .int v1)] := hl
  generalize hargs : ([.ref (HB.size + 91), .int v1] : List Value).toArray = args at *
  have b12 : ∀ (fu : Nat) (σ : St) (H : Heap) (locs : List Loc) (ls : Array Slot) (G38 : Grp) (G43 : Grp) (v2 : Int32) (v3 : Int32) (v4 : Int32) , IV HB D y n n κ σ locs H → σ 38 = G38 → σ 43 = G43 → (∀ j, j ∉ W_X12_isRow → σ j = σ0 j) → lv_has ls 5 [(0, .ref (HB.size + 91)), (2, .int v2), (3, .int v3), (4, .int v4)] → f_X12_isRow_l12 F  fu G38 G43 v2 v3 v4 = some q → WX RM_X12_isRow p l e s m args below meth c HB (some (.int q.1)) (B_X12_isRow HB D y n κ σ0 q) H locs (F0 m 12 ls []) := by
    intro  fu
    induction fu with
    | zero =>
      intro σ H locs ls G38 G43 v2 v3 v4 hI e38 e43 fr hl h
      exact absurd h (by intro h; cases h)
    | succ fu hk12 =>
      intro σ H locs ls G38 G43 v2 v3 v4 hI e38 e43 fr hl h
      have h : f_X12_isRow_l12b F  (f_X12_isRow_l12 F  fu) G38 G43 v2 v3 v4 = some q := h
      generalize f_X12_isRow_l12 F  fu = k12 at h hk12
      unfold f_X12_isRow_l12b at h
      refine lv_iload hx hb dX12_isRow_12 (lv_at hl 3 rfl) ?_
      refine lv_if_lt (tgt := 93) hx hb dX12_isRow_14 (by decide) (fun hc => ?_) (fun hc => ?_)
      · replace h := ite_t hc h
        refine lv_iconst (v := 1) hx hb dX12_isRow_93 (by decide) ?_
        have hq := Option.some.inj h
        exact W.zret (v := 1) (ty := .boolean) hx hb hr rfl (fun t ht hW => qc_mk (congrArg (fun z => Outcome.returned (some (Value.int z.1))) hq) (by rw [ht]; exact ⟨σ, hI.nil, e38.trans (congrArg (fun z => z.2) hq), fr⟩)) hI.2.2 dX12_isRow_94 hlocks
      · replace h := ite_f hc h
        refine lv_aload_n hx hb dX12_isRow_17 rfl (lv_at hl 0 rfl) ?_
        refine gf_X12_197 hx hb hts hown hKK hI hN dX12_isRow_18 ?_
        refine lv_iload hx hb dX12_isRow_21 (lv_at hl 3 rfl) ?_
        refine lv_iload_n hx hb dX12_isRow_23 rfl (lv_at hl 1 rfl) ?_
        refine lv_aload_n hx hb dX12_isRow_24 rfl (lv_at hl 0 rfl) ?_
        refine gt_X12_553 hx hb hts hown hKK hI e43 (lc91 hN) (kc91 hk0) dX12_isRow_25 ?_
        refine lv_iconst (v := 1) hx hb dX12_isRow_28 (by decide) ?_
        refine lv_iadd hx hb dX12_isRow_29 ?_
        obtain ⟨hz, h⟩ := cz_e h
        refine lv_irem hx hb dX12_isRow_30 hz ?_
        obtain ⟨hin_, h⟩ := ck_e h
        obtain ⟨G38_31, qq, h⟩ := bn_e h
        refine sa_66 hx hb hKK hI e38 (lc153 hN) (kc153 hk0) hin_ dX12_isRow_31 (fun σ H locs hI ew ho => ?_)
        have e38 := ew.trans qq.symm
        have e43 := (ho 43 (nn rfl)).trans e43
        have fr := frs fr ho (by decide)
        refine lv_iload_n hx hb dX12_isRow_32 rfl (lv_at hl 1 rfl) ?_
        refine lv_aload_n hx hb dX12_isRow_33 rfl (lv_at hl 0 rfl) ?_
        refine gt_X12_553 hx hb hts hown hKK hI e43 (lc91 hN) (kc91 hk0) dX12_isRow_34 ?_
        refine lv_iconst (v := 1) hx hb dX12_isRow_37 (by decide) ?_
        refine lv_iadd hx hb dX12_isRow_38 ?_
        obtain ⟨hz, h⟩ := cz_e h
        refine lv_idiv hx hb dX12_isRow_39 hz ?_
        obtain ⟨v2_40, qq, h⟩ := bn_e h
        refine topi qq ?_
        refine lv_istore_n (lv' := [(2, .int v2_40), (0, .ref (HB.size + 91)), (3, .int v3), (4, .int v4)]) hx hb dX12_isRow_40 rfl hl (by decide) rfl (fun ls hl => ?_)
        refine lv_aload_n hx hb dX12_isRow_41 rfl (lv_at hl 1 rfl) ?_
        refine gf_X12_197 hx hb hts hown hKK hI hN dX12_isRow_42 ?_
        refine lv_iload hx hb dX12_isRow_45 (lv_at hl 3 rfl) ?_
        obtain ⟨hin_, h⟩ := ck_e h
        refine la_66 hx hb hKK hI e38 (lc153 hN) (kc153 hk0) hin_ dX12_isRow_47 ?_
        refine lv_aload_n hx hb dX12_isRow_48 rfl (lv_at hl 1 rfl) ?_
        refine gt_X12_553 hx hb hts hown hKK hI e43 (lc91 hN) (kc91 hk0) dX12_isRow_49 ?_
        refine lv_icmp_ne (tgt := 58) hx hb dX12_isRow_52 (by decide) (fun hc => ?_) (fun hc => ?_)
        · replace h := ite_f hc h
          refine lv_iload_n hx hb dX12_isRow_58 rfl (lv_at hl 2 rfl) ?_
          refine lv_aload_n hx hb dX12_isRow_59 rfl (lv_at hl 1 rfl) ?_
          refine gf_X12_197 hx hb hts hown hKK hI hN dX12_isRow_60 ?_
          refine lv_iload hx hb dX12_isRow_63 (lv_at hl 3 rfl) ?_
          obtain ⟨hin_, h⟩ := ck_e h
          refine la_66 hx hb hKK hI e38 (lc153 hN) (kc153 hk0) hin_ dX12_isRow_65 ?_
          refine lv_ishr hx hb dX12_isRow_66 ?_
          refine lv_iconst (v := 1) hx hb dX12_isRow_67 (by decide) ?_
          refine lv_iand hx hb dX12_isRow_68 ?_
          refine lv_iconst (v := 1) hx hb dX12_isRow_69 (by decide) ?_
          refine lv_icmp_ne (tgt := 75) hx hb dX12_isRow_70 (by decide) (fun hc => ?_) (fun hc => ?_)
          · replace h := ite_f hc h
            refine lv_iload_n hx hb dX12_isRow_75 rfl (lv_at hl 2 rfl) ?_
            refine lv_iconst (v := 1) hx hb dX12_isRow_76 (by decide) ?_
            refine lv_aload_n hx hb dX12_isRow_77 rfl (lv_at hl 1 rfl) ?_
            refine gf_X12_197 hx hb hts hown hKK hI hN dX12_isRow_78 ?_
            refine lv_iload hx hb dX12_isRow_81 (lv_at hl 3 rfl) ?_
            obtain ⟨hin_, h⟩ := ck_e h
            refine la_66 hx hb hKK hI e38 (lc153 hN) (kc153 hk0) hin_ dX12_isRow_83 ?_
            refine lv_ishl hx hb dX12_isRow_84 ?_
            refine lv_ior hx hb dX12_isRow_85 ?_
            obtain ⟨v3_86, qq, h⟩ := bn_e h
            refine topi qq ?_
            refine lv_istore_n (lv' := [(3, .int v3_86), (2, .int v2_40), (0, .ref (HB.size + 91)), (4, .int v4)]) hx hb dX12_isRow_86 rfl hl (by decide) rfl (fun ls hl => ?_)
            obtain ⟨v4_87, qq, h⟩ := bn_e h
            refine lv_iinc (v := v4_87) (lv' := [(4, .int v4_87), (3, .int v3_86), (2, .int v2_40), (0, .ref (HB.size + 91))]) hx hb dX12_isRow_87 hl (k := 3) rfl (by rw [qq]; rfl) (by decide) rfl (fun ls hl => ?_)
            refine lv_goto (tgt := 12) hx hb dX12_isRow_90 (by decide) ?_
            exact hk12 σ H locs ls G38_31 G43 v2_40 v3_86 v4_87  hI e38 e43 fr (lv_sub hl [3, 2, 1, 0] rfl) h
          · replace h := ite_t hc h
            refine lv_iconst (v := 0) hx hb dX12_isRow_73 (by decide) ?_
            have hq := Option.some.inj h
            exact W.zret (v := 0) (ty := .boolean) hx hb hr rfl (fun t ht hW => qc_mk (congrArg (fun z => Outcome.returned (some (Value.int z.1))) hq) (by rw [ht]; exact ⟨σ, hI.nil, e38.trans (congrArg (fun z => z.2) hq), fr⟩)) hI.2.2 dX12_isRow_74 hlocks
        · replace h := ite_t hc h
          refine lv_goto (tgt := 87) hx hb dX12_isRow_55 (by decide) ?_
          obtain ⟨v4_87, qq, h⟩ := bn_e h
          refine lv_iinc (v := v4_87) (lv' := [(4, .int v4_87), (2, .int v2_40), (0, .ref (HB.size + 91)), (3, .int v3)]) hx hb dX12_isRow_87 hl (k := 3) rfl (by rw [qq]; rfl) (by decide) rfl (fun ls hl => ?_)
          refine lv_goto (tgt := 12) hx hb dX12_isRow_90 (by decide) ?_
          exact hk12 σ H locs ls G38_31 G43 v2_40 v3 v4_87  hI e38 e43 fr (lv_sub hl [2, 1, 3, 0] rfl) h
  obtain ⟨σ, hI, e38, e43, fr⟩ : ∃ σ : St, IV HB D y n n κ σ [] s.heap ∧ σ 38 = G38 ∧ σ 43 = G43 ∧ ∀ j, j ∉ W_X12_isRow → σ j = σ0 j := ⟨σ0, hI, e38, e43, fun _ _ => rfl⟩
  show WX RM_X12_isRow p l e s m args below meth c HB (some (.int q.1)) (B_X12_isRow HB D y n κ σ0 q) s.heap [] (F0 m 0 ls [])
  generalize s.heap = H at hI ⊢
  unfold f_X12_isRow at h
  obtain ⟨locs, hlocs⟩ : ∃ x : List Loc, x = [] := ⟨_, rfl⟩
  rw [← hlocs] at hI ⊢
  refine lv_iload_n hx hb dX12_isRow_0 rfl (lv_at hl 1 rfl) ?_
  refine lv_istore_n (lv' := [(2, .int v1), (0, .ref (HB.size + 91)), (1, .int v1)]) hx hb dX12_isRow_1 rfl hl (by decide) rfl (fun ls hl => ?_)
  refine lv_iconst (v := 0) hx hb dX12_isRow_2 (by decide) ?_
  refine lv_istore_n (lv' := [(3, .int 0), (2, .int v1), (0, .ref (HB.size + 91)), (1, .int v1)]) hx hb dX12_isRow_3 rfl hl (by decide) rfl (fun ls hl => ?_)
  refine lv_aload_n hx hb dX12_isRow_4 rfl (lv_at hl 2 rfl) ?_
  refine gt_X12_550 hx hb hts hown hKK hI e43 (lc91 hN) (kc91 hk0) dX12_isRow_5 ?_
  refine lv_iconst (v := 1) hx hb dX12_isRow_8 (by decide) ?_
  refine lv_isub hx hb dX12_isRow_9 ?_
  obtain ⟨v4_10, qq, h⟩ := bn_e h
  refine topi qq ?_
  refine lv_istore (lv' := [(4, .int v4_10), (3, .int 0), (2, .int v1), (0, .ref (HB.size + 91)), (1, .int v1)]) hx hb dX12_isRow_10 hl (by decide) rfl (fun ls hl => ?_)
  exact b12  F σ H locs ls G38 G43 v1 0 v4_10  hI e38 e43 fr (lv_sub hl [3, 2, 1, 0] rfl) h
noncomputable def f_X12_pairing_l161b (F : Nat) (k38 : Grp → Grp → Grp → Grp → Grp → Grp → Grp → Int32 → Int32 → Int32 → Int32 → Option (Int32 × Grp × Grp × Grp × Grp)) (k161 : Grp → Grp → Grp → Grp → Grp → Grp → Grp → Int32 → Int32 → Int32 → Int32 → Int32 → Option (Int32 × Grp × Grp × Grp × Grp)) (G23 : Grp) (G24 : Grp) (G25 : Grp) (G38 : Grp) (G41 : Grp) (G42 : Grp) (G43 : Grp) (v1 : Int32) (v2 : Int32) (v3 : Int32) (v4 : Int32) (v7 : Int32) : Option (Int32 × Grp × Grp × Grp × Grp) :=
  if (G43.1 91 107) ≤ v7 then bn (v4 + 1) (fun v4_190 => k38 G23 G24 G25 G38 G41 G42 G43 v1 v2 v3 v4_190) else ck v7 6 (ck v7 6 (bn (gI G38 154 v7.toNatClampNeg (G38.1 153 v7.toNatClampNeg)) (fun G38_183 => bn (v7 + 1) (fun v7_184 => k161 G23 G24 G25 G38_183 G41 G42 G43 v1 v2 v3 v4 v7_184))))
noncomputable def f_X12_pairing_l161 (F : Nat) (k38 : Grp → Grp → Grp → Grp → Grp → Grp → Grp → Int32 → Int32 → Int32 → Int32 → Option (Int32 × Grp × Grp × Grp × Grp)) (fu : Nat) : Grp → Grp → Grp → Grp → Grp → Grp → Grp → Int32 → Int32 → Int32 → Int32 → Int32 → Option (Int32 × Grp × Grp × Grp × Grp) := Nat.rec (motive := fun _ => Grp → Grp → Grp → Grp → Grp → Grp → Grp → Int32 → Int32 → Int32 → Int32 → Int32 → Option (Int32 × Grp × Grp × Grp × Grp)) (fun _ _ _ _ _ _ _ _ _ _ _ _ => none) (fun _ ih => f_X12_pairing_l161b F k38 ih) fu
noncomputable def f_X12_pairing_l65b (F : Nat) (k38 : Grp → Grp → Grp → Grp → Grp → Grp → Grp → Int32 → Int32 → Int32 → Int32 → Option (Int32 × Grp × Grp × Grp × Grp)) (k65 : Grp → Grp → Grp → Grp → Grp → Grp → Grp → Int32 → Int32 → Int32 → Int32 → Int32 → Int32 → Int32 → Option (Int32 × Grp × Grp × Grp × Grp)) (G23 : Grp) (G24 : Grp) (G25 : Grp) (G38 : Grp) (G41 : Grp) (G42 : Grp) (G43 : Grp) (v1 : Int32) (v2 : Int32) (v3 : Int32) (v4 : Int32) (v5 : Int32) (v6 : Int32) (v7 : Int32) : Option (Int32 × Grp × Grp × Grp × Grp) :=
  if (G43.1 91 107) ≤ v7 then if v5 < v2 then bn (v4 + 1) (fun v4_190 => k38 G23 G24 G25 G38 G41 G42 G43 v1 v2 v3 v4_190) else if v5 = v2 then if v3 < v6 then f_X12_pairing_l161 F k38 F G23 G24 G25 G38 G41 G42 G43 v1 v5 v6 v4 0 else bn (v4 + 1) (fun v4_190 => k38 G23 G24 G25 G38 G41 G42 G43 v1 v2 v3 v4_190) else f_X12_pairing_l161 F k38 F G23 G24 G25 G38 G41 G42 G43 v1 v5 v6 v4 0 else ck v7 6 (if (G38.1 153 v7.toNatClampNeg) = (G43.1 91 108) then bn (v7 + 1) (fun v7_125 => k65 G23 G24 G25 G38 G41 G42 G43 v1 v2 v3 v4 v5 v6 v7_125) else bn ((v5 + 1)) (fun v5_95 => ck v7 6 (ck v7 6 (ck (G38.1 153 v7.toNatClampNeg) 6 (ob (f_X12_points F G24 G25 G42 (G43.1 170 v7.toNatClampNeg) (G43.1 171 (G38.1 153 v7.toNatClampNeg).toNatClampNeg)) (fun q_119 => bn ((v6 + q_119)) (fun v6_123 => bn (v7 + 1) (fun v7_125 => k65 G23 G24 G25 G38 G41 G42 G43 v1 v2 v3 v4 v5_95 v6_123 v7_125))))))))
noncomputable def f_X12_pairing_l65 (F : Nat) (k38 : Grp → Grp → Grp → Grp → Grp → Grp → Grp → Int32 → Int32 → Int32 → Int32 → Option (Int32 × Grp × Grp × Grp × Grp)) (fu : Nat) : Grp → Grp → Grp → Grp → Grp → Grp → Grp → Int32 → Int32 → Int32 → Int32 → Int32 → Int32 → Int32 → Option (Int32 × Grp × Grp × Grp × Grp) := Nat.rec (motive := fun _ => Grp → Grp → Grp → Grp → Grp → Grp → Grp → Int32 → Int32 → Int32 → Int32 → Int32 → Int32 → Int32 → Option (Int32 × Grp × Grp × Grp × Grp)) (fun _ _ _ _ _ _ _ _ _ _ _ _ _ _ => none) (fun _ ih => f_X12_pairing_l65b F k38 ih) fu
noncomputable def f_X12_pairing_l202b (F : Nat)  (k202 : Grp → Grp → Grp → Grp → Grp → Grp → Grp → Int32 → Int32 → Option (Int32 × Grp × Grp × Grp × Grp)) (G23 : Grp) (G24 : Grp) (G25 : Grp) (G38 : Grp) (G41 : Grp) (G42 : Grp) (G43 : Grp) (v4 : Int32) (v5 : Int32) : Option (Int32 × Grp × Grp × Grp × Grp) :=
  if (G43.1 91 107) ≤ v5 then some (v4, G25, G38, G42, G43) else if 40 ≤ (G25.1 91 4) then some (v4, G25, G38, G42, G43) else ck v5 6 (if (G38.1 154 v5.toNatClampNeg) = (G43.1 91 108) then bn (v5 + 1) (fun v5_280 => k202 G23 G24 G25 G38 G41 G42 G43 v4 v5_280) else ck v5 6 (ck v5 6 (ck (G38.1 154 v5.toNatClampNeg) 6 (ob (f_X12_begins F G23 G25 (G43.1 170 v5.toNatClampNeg) (G43.1 171 (G38.1 154 v5.toNatClampNeg).toNatClampNeg)) (fun q_257 => ck v5 6 (ck (G43.1 170 v5.toNatClampNeg) 16 (bn (gI G42 172 (G43.1 170 v5.toNatClampNeg).toNatClampNeg (vp_nar .boolean 0)) (fun G42_273 => bn ((v4 + 1)) (fun v4_278 => bn (v5 + 1) (fun v5_280 => k202 G23 G24 (q_257.2) G38 G41 G42_273 G43 v4_278 v5_280))))))))))
noncomputable def f_X12_pairing_l202 (F : Nat)  (fu : Nat) : Grp → Grp → Grp → Grp → Grp → Grp → Grp → Int32 → Int32 → Option (Int32 × Grp × Grp × Grp × Grp) := Nat.rec (motive := fun _ => Grp → Grp → Grp → Grp → Grp → Grp → Grp → Int32 → Int32 → Option (Int32 × Grp × Grp × Grp × Grp)) (fun _ _ _ _ _ _ _ _ _ => none) (fun _ ih => f_X12_pairing_l202b F  ih) fu
noncomputable def f_X12_pairing_l38b (F : Nat)  (k38 : Grp → Grp → Grp → Grp → Grp → Grp → Grp → Int32 → Int32 → Int32 → Int32 → Option (Int32 × Grp × Grp × Grp × Grp)) (G23 : Grp) (G24 : Grp) (G25 : Grp) (G38 : Grp) (G41 : Grp) (G42 : Grp) (G43 : Grp) (v1 : Int32) (v2 : Int32) (v3 : Int32) (v4 : Int32) : Option (Int32 × Grp × Grp × Grp × Grp) :=
  if v1 ≤ v4 then f_X12_pairing_l202 F  F G23 G24 G25 G38 G41 G42 G43 0 0 else ob (f_X12_isRow F G38 G43 v4) (fun q_47 => if q_47.1 = 0 then bn (v4 + 1) (fun v4_190 => k38 G23 G24 G25 (q_47.2) G41 G42 G43 v1 v2 v3 v4_190) else f_X12_pairing_l65 F k38 F G23 G24 G25 (q_47.2) G41 G42 G43 v1 v2 v3 v4 0 0 0)
noncomputable def f_X12_pairing_l38 (F : Nat)  (fu : Nat) : Grp → Grp → Grp → Grp → Grp → Grp → Grp → Int32 → Int32 → Int32 → Int32 → Option (Int32 × Grp × Grp × Grp × Grp) := Nat.rec (motive := fun _ => Grp → Grp → Grp → Grp → Grp → Grp → Grp → Int32 → Int32 → Int32 → Int32 → Option (Int32 × Grp × Grp × Grp × Grp)) (fun _ _ _ _ _ _ _ _ _ _ _ => none) (fun _ ih => f_X12_pairing_l38b F  ih) fu
noncomputable def f_X12_pairing_l8b (F : Nat)  (k8 : Grp → Grp → Grp → Grp → Grp → Grp → Grp → Int32 → Int32 → Option (Int32 × Grp × Grp × Grp × Grp)) (G23 : Grp) (G24 : Grp) (G25 : Grp) (G38 : Grp) (G41 : Grp) (G42 : Grp) (G43 : Grp) (v1 : Int32) (v2 : Int32) : Option (Int32 × Grp × Grp × Grp × Grp) :=
  if (G43.1 91 107) ≤ v2 then f_X12_pairing_l38 F  F G23 G24 G25 G38 G41 G42 G43 v1 (-1) 0 0 else bn ((v1 * ((G43.1 91 108) + 1))) (fun v1_24 => bn (v2 + 1) (fun v2_25 => k8 G23 G24 G25 G38 G41 G42 G43 v1_24 v2_25))
noncomputable def f_X12_pairing_l8 (F : Nat)  (fu : Nat) : Grp → Grp → Grp → Grp → Grp → Grp → Grp → Int32 → Int32 → Option (Int32 × Grp × Grp × Grp × Grp) := Nat.rec (motive := fun _ => Grp → Grp → Grp → Grp → Grp → Grp → Grp → Int32 → Int32 → Option (Int32 × Grp × Grp × Grp × Grp)) (fun _ _ _ _ _ _ _ _ _ => none) (fun _ ih => f_X12_pairing_l8b F  ih) fu
noncomputable def f_X12_pairing (F : Nat) (G23 : Grp) (G24 : Grp) (G25 : Grp) (G38 : Grp) (G41 : Grp) (G42 : Grp) (G43 : Grp)  : Option (Int32 × Grp × Grp × Grp × Grp) :=
  ob (f_X12_gathers F G23 G24 G25 G41 G42 G43) (fun q_1 => f_X12_pairing_l8 F  F G23 G24 G25 G38 G41 G42 q_1 1 0)
def RM_X12_pairing : Room := { frames := 3, cells := 0, slots := 0, locals := 65 }
abbrev W_X12_pairing : List Nat := [25, 38, 42, 43]
abbrev B_X12_pairing (HB : Heap) (D : va_G) (y : Nat → ClassId) (n : Nat) (κ : Nat → Nat) (σ0 : St) (q : Int32 × Grp × Grp × Grp × Grp) : Heap → Prop := fun H => ∃ σ : St, IV HB D y n n κ σ [] H ∧ σ 25 = q.2.1 ∧ σ 38 = q.2.2.1 ∧ σ 42 = q.2.2.2.1 ∧ σ 43 = q.2.2.2.2 ∧ ∀ j, j ∉ W_X12_pairing → σ j = σ0 j
set_option maxRecDepth 100000 in
set_option maxHeartbeats 4000000 in
theorem c_X12_pairing (l : Launch) (HB : Heap) (D : va_G) (y : Nat → ClassId) (F n : Nat) (κ : Nat → Nat) (σ0 : St) (hN : N0 ≤ n)  (G23 : Grp) (e23 : σ0 23 = G23) (G24 : Grp) (e24 : σ0 24 = G24) (G25 : Grp) (e25 : σ0 25 = G25) (G38 : Grp) (e38 : σ0 38 = G38) (G41 : Grp) (e41 : σ0 41 = G41) (G42 : Grp) (e42 : σ0 42 = G42) (G43 : Grp) (e43 : σ0 43 = G43) (q : Int32 × Grp × Grp × Grp × Grp) (h : f_X12_pairing F G23 G24 G25 G38 G41 G42 G43 = some q) : MT l HB D y yX12_pairing cX12_pairing 8 (some .int) RM_X12_pairing [.ref (HB.size + 91)] (IV HB D y n n κ σ0 []) (some (.int q.1)) (B_X12_pairing HB D y n κ σ0 q) := by
  refine Met.ofW (cc := cX12_pairing) (maxL := 8) (ret := (some .int)) (by decide) rfl ?_
  intro p e s m args below meth c s₁ BL hml hv
  obtain ⟨rfl, hI, hKK⟩ := hv
  have hx := BL.exec
  have hb := BL.bytes
  have hr := BL.returns
  have hts : ∀ w ∈ gtb, w.before _ s = true := fun w hw => atoms_spec BL.pre w (List.mem_cons_of_mem _ hw)
  have hml : c.maxLocals = 8 := hml
  have hown : s.vm.findClass RX12 = some m.cls := findClass_of_methodNamed BL.named
  have hlocks := BL.notSynchronized
  have hk0 := hI.1.2.2.2.2
  have hl := lv_entry ([.ref (HB.size + 91)]) (n := 8) (Nat.le_of_ble_eq_true rfl)
  rw [lg_entry_eq]
  generalize (lg_sl ([.ref (HB.size + 91)]) ++ List.replicate (8 - (lg_sl ([.ref (HB.size + 91)])).length) Slot.unset).toArray = ls at hl ⊢
  have hl : lv_has ls 8 [(0, .ref (HB.size + 91))] := hl
  generalize hargs : ([.ref (HB.size + 91)] : List Value).toArray = args at *
  have b161 : ∀ (k38 : Grp → Grp → Grp → Grp → Grp → Grp → Grp → Int32 → Int32 → Int32 → Int32 → Option (Int32 × Grp × Grp × Grp × Grp)) (hk38 : ∀ (σ : St) (H : Heap) (locs : List Loc) (ls : Array Slot) (G23 : Grp) (G24 : Grp) (G25 : Grp) (G38 : Grp) (G41 : Grp) (G42 : Grp) (G43 : Grp) (v1 : Int32) (v2 : Int32) (v3 : Int32) (v4 : Int32) , IV HB D y n n κ σ locs H → σ 23 = G23 → σ 24 = G24 → σ 25 = G25 → σ 38 = G38 → σ 41 = G41 → σ 42 = G42 → σ 43 = G43 → (∀ j, j ∉ W_X12_pairing → σ j = σ0 j) → lv_has ls 8 [(0, .ref (HB.size + 91)), (1, .int v1), (2, .int v2), (3, .int v3), (4, .int v4)] → k38 G23 G24 G25 G38 G41 G42 G43 v1 v2 v3 v4 = some q → WX RM_X12_pairing p l e s m args below meth c HB (some (.int q.1)) (B_X12_pairing HB D y n κ σ0 q) H locs (F0 m 38 ls [])) (fu : Nat) (σ : St) (H : Heap) (locs : List Loc) (ls : Array Slot) (G23 : Grp) (G24 : Grp) (G25 : Grp) (G38 : Grp) (G41 : Grp) (G42 : Grp) (G43 : Grp) (v1 : Int32) (v2 : Int32) (v3 : Int32) (v4 : Int32) (v7 : Int32) , IV HB D y n n κ σ locs H → σ 23 = G23 → σ 24 = G24 → σ 25 = G25 → σ 38 = G38 → σ 41 = G41 → σ 42 = G42 → σ 43 = G43 → (∀ j, j ∉ W_X12_pairing → σ j = σ0 j) → lv_has ls 8 [(0, .ref (HB.size + 91)), (1, .int v1), (2, .int v2), (3, .int v3), (4, .int v4), (7, .int v7)] → f_X12_pairing_l161 F k38 fu G23 G24 G25 G38 G41 G42 G43 v1 v2 v3 v4 v7 = some q → WX RM_X12_pairing p l e s m args below meth c HB (some (.int q.1)) (B_X12_pairing HB D y n κ σ0 q) H locs (F0 m 161 ls []) := by
    intro k38 hk38 fu
    induction fu with
    | zero =>
      intro σ H locs ls G23 G24 G25 G38 G41 G42 G43 v1 v2 v3 v4 v7 hI e23 e24 e25 e38 e41 e42 e43 fr hl h
      exact absurd h (by intro h; cases h)
    | succ fu hk161 =>
      intro σ H locs ls G23 G24 G25 G38 G41 G42 G43 v1 v2 v3 v4 v7 hI e23 e24 e25 e38 e41 e42 e43 fr hl h
      have h : f_X12_pairing_l161b F k38 (f_X12_pairing_l161 F k38 fu) G23 G24 G25 G38 G41 G42 G43 v1 v2 v3 v4 v7 = some q := h
      generalize f_X12_pairing_l161 F k38 fu = k161 at h hk161
      unfold f_X12_pairing_l161b at h
      refine lv_iload hx hb dX12_pairing_161 (lv_at hl 5 rfl) ?_
      refine lv_aload_n hx hb dX12_pairing_163 rfl (lv_at hl 0 rfl) ?_
      refine gt_X12_550 hx hb hts hown hKK hI e43 (lc91 hN) (kc91 hk0) dX12_pairing_164 ?_
      refine lv_icmp_ge (tgt := 190) hx hb dX12_pairing_167 (by decide) (fun hc => ?_) (fun hc => ?_)
      · replace h := ite_t hc h
        obtain ⟨v4_190, qq, h⟩ := bn_e h
        refine lv_iinc (v := v4_190) (lv' := [(4, .int v4_190), (0, .ref (HB.size + 91)), (1, .int v1), (2, .int v2), (3, .int v3), (7, .int v7)]) hx hb dX12_pairing_190 hl (k := 4) rfl (by rw [qq]; rfl) (by decide) rfl (fun ls hl => ?_)
        refine lv_goto (tgt := 38) hx hb dX12_pairing_193 (by decide) ?_
        exact hk38 σ H locs ls G23 G24 G25 G38 G41 G42 G43 v1 v2 v3 v4_190  hI e23 e24 e25 e38 e41 e42 e43 fr (lv_sub hl [1, 2, 3, 4, 0] rfl) h
      · replace h := ite_f hc h
        refine lv_aload_n hx hb dX12_pairing_170 rfl (lv_at hl 0 rfl) ?_
        refine gf_X12_200 hx hb hts hown hKK hI hN dX12_pairing_171 ?_
        refine lv_iload hx hb dX12_pairing_174 (lv_at hl 5 rfl) ?_
        refine lv_aload_n hx hb dX12_pairing_176 rfl (lv_at hl 0 rfl) ?_
        refine gf_X12_197 hx hb hts hown hKK hI hN dX12_pairing_177 ?_
        refine lv_iload hx hb dX12_pairing_180 (lv_at hl 5 rfl) ?_
        obtain ⟨hin_, h⟩ := ck_e h
        refine la_66 hx hb hKK hI e38 (lc153 hN) (kc153 hk0) hin_ dX12_pairing_182 ?_
        obtain ⟨hin_, h⟩ := ck_e h
        obtain ⟨G38_183, qq, h⟩ := bn_e h
        refine sa_66 hx hb hKK hI e38 (lc154 hN) (kc154 hk0) hin_ dX12_pairing_183 (fun σ H locs hI ew ho => ?_)
        have e38 := ew.trans qq.symm
        have e23 := (ho 23 (nn rfl)).trans e23
        have e24 := (ho 24 (nn rfl)).trans e24
        have e25 := (ho 25 (nn rfl)).trans e25
        have e41 := (ho 41 (nn rfl)).trans e41
        have e42 := (ho 42 (nn rfl)).trans e42
        have e43 := (ho 43 (nn rfl)).trans e43
        have fr := frs fr ho (by decide)
        obtain ⟨v7_184, qq, h⟩ := bn_e h
        refine lv_iinc (v := v7_184) (lv' := [(7, .int v7_184), (0, .ref (HB.size + 91)), (1, .int v1), (2, .int v2), (3, .int v3), (4, .int v4)]) hx hb dX12_pairing_184 hl (k := 5) rfl (by rw [qq]; rfl) (by decide) rfl (fun ls hl => ?_)
        refine lv_goto (tgt := 161) hx hb dX12_pairing_187 (by decide) ?_
        exact hk161 σ H locs ls G23 G24 G25 G38_183 G41 G42 G43 v1 v2 v3 v4 v7_184  hI e23 e24 e25 e38 e41 e42 e43 fr (lv_sub hl [1, 2, 3, 4, 5, 0] rfl) h
  have b65 : ∀ (k38 : Grp → Grp → Grp → Grp → Grp → Grp → Grp → Int32 → Int32 → Int32 → Int32 → Option (Int32 × Grp × Grp × Grp × Grp)) (hk38 : ∀ (σ : St) (H : Heap) (locs : List Loc) (ls : Array Slot) (G23 : Grp) (G24 : Grp) (G25 : Grp) (G38 : Grp) (G41 : Grp) (G42 : Grp) (G43 : Grp) (v1 : Int32) (v2 : Int32) (v3 : Int32) (v4 : Int32) , IV HB D y n n κ σ locs H → σ 23 = G23 → σ 24 = G24 → σ 25 = G25 → σ 38 = G38 → σ 41 = G41 → σ 42 = G42 → σ 43 = G43 → (∀ j, j ∉ W_X12_pairing → σ j = σ0 j) → lv_has ls 8 [(0, .ref (HB.size + 91)), (1, .int v1), (2, .int v2), (3, .int v3), (4, .int v4)] → k38 G23 G24 G25 G38 G41 G42 G43 v1 v2 v3 v4 = some q → WX RM_X12_pairing p l e s m args below meth c HB (some (.int q.1)) (B_X12_pairing HB D y n κ σ0 q) H locs (F0 m 38 ls [])) (fu : Nat) (σ : St) (H : Heap) (locs : List Loc) (ls : Array Slot) (G23 : Grp) (G24 : Grp) (G25 : Grp) (G38 : Grp) (G41 : Grp) (G42 : Grp) (G43 : Grp) (v1 : Int32) (v2 : Int32) (v3 : Int32) (v4 : Int32) (v5 : Int32) (v6 : Int32) (v7 : Int32) , IV HB D y n n κ σ locs H → σ 23 = G23 → σ 24 = G24 → σ 25 = G25 → σ 38 = G38 → σ 41 = G41 → σ 42 = G42 → σ 43 = G43 → (∀ j, j ∉ W_X12_pairing → σ j = σ0 j) → lv_has ls 8 [(0, .ref (HB.size + 91)), (1, .int v1), (2, .int v2), (3, .int v3), (4, .int v4), (5, .int v5), (6, .int v6), (7, .int v7)] → f_X12_pairing_l65 F k38 fu G23 G24 G25 G38 G41 G42 G43 v1 v2 v3 v4 v5 v6 v7 = some q → WX RM_X12_pairing p l e s m args below meth c HB (some (.int q.1)) (B_X12_pairing HB D y n κ σ0 q) H locs (F0 m 65 ls []) := by
    intro k38 hk38 fu
    induction fu with
    | zero =>
      intro σ H locs ls G23 G24 G25 G38 G41 G42 G43 v1 v2 v3 v4 v5 v6 v7 hI e23 e24 e25 e38 e41 e42 e43 fr hl h
      exact absurd h (by intro h; cases h)
    | succ fu hk65 =>
      intro σ H locs ls G23 G24 G25 G38 G41 G42 G43 v1 v2 v3 v4 v5 v6 v7 hI e23 e24 e25 e38 e41 e42 e43 fr hl h
      have h : f_X12_pairing_l65b F k38 (f_X12_pairing_l65 F k38 fu) G23 G24 G25 G38 G41 G42 G43 v1 v2 v3 v4 v5 v6 v7 = some q := h
      generalize f_X12_pairing_l65 F k38 fu = k65 at h hk65
      unfold f_X12_pairing_l65b at h
      refine lv_iload hx hb dX12_pairing_65 (lv_at hl 7 rfl) ?_
      refine lv_aload_n hx hb dX12_pairing_67 rfl (lv_at hl 0 rfl) ?_
      refine gt_X12_550 hx hb hts hown hKK hI e43 (lc91 hN) (kc91 hk0) dX12_pairing_68 ?_
      refine lv_icmp_ge (tgt := 131) hx hb dX12_pairing_71 (by decide) (fun hc => ?_) (fun hc => ?_)
      · replace h := ite_t hc h
        refine lv_iload hx hb dX12_pairing_131 (lv_at hl 5 rfl) ?_
        refine lv_iload_n hx hb dX12_pairing_133 rfl (lv_at hl 2 rfl) ?_
        refine lv_icmp_lt (tgt := 190) hx hb dX12_pairing_134 (by decide) (fun hc => ?_) (fun hc => ?_)
        · replace h := ite_t hc h
          obtain ⟨v4_190, qq, h⟩ := bn_e h
          refine lv_iinc (v := v4_190) (lv' := [(4, .int v4_190), (0, .ref (HB.size + 91)), (1, .int v1), (2, .int v2), (3, .int v3), (5, .int v5), (6, .int v6), (7, .int v7)]) hx hb dX12_pairing_190 hl (k := 4) rfl (by rw [qq]; rfl) (by decide) rfl (fun ls hl => ?_)
          refine lv_goto (tgt := 38) hx hb dX12_pairing_193 (by decide) ?_
          exact hk38 σ H locs ls G23 G24 G25 G38 G41 G42 G43 v1 v2 v3 v4_190  hI e23 e24 e25 e38 e41 e42 e43 fr (lv_sub hl [1, 2, 3, 4, 0] rfl) h
        · replace h := ite_f hc h
          refine lv_iload hx hb dX12_pairing_137 (lv_at hl 5 rfl) ?_
          refine lv_iload_n hx hb dX12_pairing_139 rfl (lv_at hl 2 rfl) ?_
          refine lv_icmp_ne (tgt := 152) hx hb dX12_pairing_140 (by decide) (fun hc => ?_) (fun hc => ?_)
          · replace h := ite_f hc h
            refine lv_iload hx hb dX12_pairing_152 (lv_at hl 5 rfl) ?_
            refine lv_istore_n (lv' := [(2, .int v5), (0, .ref (HB.size + 91)), (1, .int v1), (3, .int v3), (4, .int v4), (5, .int v5), (6, .int v6), (7, .int v7)]) hx hb dX12_pairing_154 rfl hl (by decide) rfl (fun ls hl => ?_)
            refine lv_iload hx hb dX12_pairing_155 (lv_at hl 6 rfl) ?_
            refine lv_istore_n (lv' := [(3, .int v6), (2, .int v5), (0, .ref (HB.size + 91)), (1, .int v1), (4, .int v4), (5, .int v5), (6, .int v6), (7, .int v7)]) hx hb dX12_pairing_157 rfl hl (by decide) rfl (fun ls hl => ?_)
            refine lv_iconst (v := 0) hx hb dX12_pairing_158 (by decide) ?_
            refine lv_istore (lv' := [(7, .int 0), (3, .int v6), (2, .int v5), (0, .ref (HB.size + 91)), (1, .int v1), (4, .int v4), (5, .int v5), (6, .int v6)]) hx hb dX12_pairing_159 hl (by decide) rfl (fun ls hl => ?_)
            exact b161 k38 hk38 F σ H locs ls G23 G24 G25 G38 G41 G42 G43 v1 v5 v6 v4 0  hI e23 e24 e25 e38 e41 e42 e43 fr (lv_sub hl [3, 4, 2, 1, 5, 0] rfl) h
          · replace h := ite_t hc h
            refine lv_iload hx hb dX12_pairing_143 (lv_at hl 6 rfl) ?_
            refine lv_iload_n hx hb dX12_pairing_145 rfl (lv_at hl 3 rfl) ?_
            refine lv_icmp_gt (tgt := 152) hx hb dX12_pairing_146 (by decide) (fun hc => ?_) (fun hc => ?_)
            · replace h := ite_t hc h
              refine lv_iload hx hb dX12_pairing_152 (lv_at hl 5 rfl) ?_
              refine lv_istore_n (lv' := [(2, .int v5), (0, .ref (HB.size + 91)), (1, .int v1), (3, .int v3), (4, .int v4), (5, .int v5), (6, .int v6), (7, .int v7)]) hx hb dX12_pairing_154 rfl hl (by decide) rfl (fun ls hl => ?_)
              refine lv_iload hx hb dX12_pairing_155 (lv_at hl 6 rfl) ?_
              refine lv_istore_n (lv' := [(3, .int v6), (2, .int v5), (0, .ref (HB.size + 91)), (1, .int v1), (4, .int v4), (5, .int v5), (6, .int v6), (7, .int v7)]) hx hb dX12_pairing_157 rfl hl (by decide) rfl (fun ls hl => ?_)
              refine lv_iconst (v := 0) hx hb dX12_pairing_158 (by decide) ?_
              refine lv_istore (lv' := [(7, .int 0), (3, .int v6), (2, .int v5), (0, .ref (HB.size + 91)), (1, .int v1), (4, .int v4), (5, .int v5), (6, .int v6)]) hx hb dX12_pairing_159 hl (by decide) rfl (fun ls hl => ?_)
              exact b161 k38 hk38 F σ H locs ls G23 G24 G25 G38 G41 G42 G43 v1 v5 v6 v4 0  hI e23 e24 e25 e38 e41 e42 e43 fr (lv_sub hl [3, 4, 2, 1, 5, 0] rfl) h
            · replace h := ite_f hc h
              refine lv_goto (tgt := 190) hx hb dX12_pairing_149 (by decide) ?_
              obtain ⟨v4_190, qq, h⟩ := bn_e h
              refine lv_iinc (v := v4_190) (lv' := [(4, .int v4_190), (0, .ref (HB.size + 91)), (1, .int v1), (2, .int v2), (3, .int v3), (5, .int v5), (6, .int v6), (7, .int v7)]) hx hb dX12_pairing_190 hl (k := 4) rfl (by rw [qq]; rfl) (by decide) rfl (fun ls hl => ?_)
              refine lv_goto (tgt := 38) hx hb dX12_pairing_193 (by decide) ?_
              exact hk38 σ H locs ls G23 G24 G25 G38 G41 G42 G43 v1 v2 v3 v4_190  hI e23 e24 e25 e38 e41 e42 e43 fr (lv_sub hl [1, 2, 3, 4, 0] rfl) h
      · replace h := ite_f hc h
        refine lv_aload_n hx hb dX12_pairing_74 rfl (lv_at hl 0 rfl) ?_
        refine gf_X12_197 hx hb hts hown hKK hI hN dX12_pairing_75 ?_
        refine lv_iload hx hb dX12_pairing_78 (lv_at hl 7 rfl) ?_
        obtain ⟨hin_, h⟩ := ck_e h
        refine la_66 hx hb hKK hI e38 (lc153 hN) (kc153 hk0) hin_ dX12_pairing_80 ?_
        refine lv_aload_n hx hb dX12_pairing_81 rfl (lv_at hl 0 rfl) ?_
        refine gt_X12_553 hx hb hts hown hKK hI e43 (lc91 hN) (kc91 hk0) dX12_pairing_82 ?_
        refine lv_icmp_ne (tgt := 91) hx hb dX12_pairing_85 (by decide) (fun hc => ?_) (fun hc => ?_)
        · replace h := ite_f hc h
          refine lv_iload hx hb dX12_pairing_91 (lv_at hl 5 rfl) ?_
          refine lv_iconst (v := 1) hx hb dX12_pairing_93 (by decide) ?_
          refine lv_iadd hx hb dX12_pairing_94 ?_
          obtain ⟨v5_95, qq, h⟩ := bn_e h
          refine topi qq ?_
          refine lv_istore (lv' := [(5, .int v5_95), (0, .ref (HB.size + 91)), (1, .int v1), (2, .int v2), (3, .int v3), (4, .int v4), (6, .int v6), (7, .int v7)]) hx hb dX12_pairing_95 hl (by decide) rfl (fun ls hl => ?_)
          refine lv_iload hx hb dX12_pairing_97 (lv_at hl 6 rfl) ?_
          refine lv_aload_n hx hb dX12_pairing_99 rfl (lv_at hl 1 rfl) ?_
          refine lv_aload_n hx hb dX12_pairing_100 rfl (lv_at hl 1 rfl) ?_
          refine gf_X12_248 hx hb hts hown hKK hI hN dX12_pairing_101 ?_
          refine lv_iload hx hb dX12_pairing_104 (lv_at hl 7 rfl) ?_
          obtain ⟨hin_, h⟩ := ck_e h
          refine la_74 hx hb hKK hI e43 (lc170 hN) (kc170 hk0) hin_ dX12_pairing_106 ?_
          refine lv_aload_n hx hb dX12_pairing_107 rfl (lv_at hl 1 rfl) ?_
          refine gf_X12_251 hx hb hts hown hKK hI hN dX12_pairing_108 ?_
          refine lv_aload_n hx hb dX12_pairing_111 rfl (lv_at hl 1 rfl) ?_
          refine gf_X12_197 hx hb hts hown hKK hI hN dX12_pairing_112 ?_
          refine lv_iload hx hb dX12_pairing_115 (lv_at hl 7 rfl) ?_
          obtain ⟨hin_, h⟩ := ck_e h
          refine la_66 hx hb hKK hI e38 (lc153 hN) (kc153 hk0) hin_ dX12_pairing_117 ?_
          obtain ⟨hin_, h⟩ := ck_e h
          refine la_74 hx hb hKK hI e43 (lc171 hN) (kc171 hk0) hin_ dX12_pairing_118 ?_
          obtain ⟨q_119, hq_119, h⟩ := ob_e h
          refine r_callV (As := [.int (G43.1 170 v7.toNatClampNeg), .int (G43.1 171 (G38.1 153 v7.toNatClampNeg).toNatClampNeg)]) (rest := [.int v6]) hx hb hml hts hown (c_X12_points l HB D y F n κ σ hN (G43.1 170 v7.toNatClampNeg) (G43.1 171 (G38.1 153 v7.toNatClampNeg).toNatClampNeg) G24 e24 G25 e25 G42 e42 q_119 hq_119) cal_X12_points im_X12_points se_X12_points lm_X12_562 ⟨Nat.le_of_ble_eq_true rfl, Nat.le_of_ble_eq_true rfl⟩ hI.nil hKK (r_recv hKK hI (hE12 HB.size y) rfl (lc91 hN) (kc91 hk0)) rfl hl.1 hI.2.2 rfl (Nat.le_of_ble_eq_true rfl) dX12_pairing_119 ⟨Nat.le_of_ble_eq_true rfl, Nat.le_of_ble_eq_true rfl⟩ rfl rfl rfl (fun H locs hB hlo => ?_)
          have hI := hB.re hlo
          refine lv_iadd hx hb dX12_pairing_122 ?_
          obtain ⟨v6_123, qq, h⟩ := bn_e h
          refine topi qq ?_
          refine lv_istore (lv' := [(6, .int v6_123), (5, .int v5_95), (0, .ref (HB.size + 91)), (1, .int v1), (2, .int v2), (3, .int v3), (4, .int v4), (7, .int v7)]) hx hb dX12_pairing_123 hl (by decide) rfl (fun ls hl => ?_)
          obtain ⟨v7_125, qq, h⟩ := bn_e h
          refine lv_iinc (v := v7_125) (lv' := [(7, .int v7_125), (6, .int v6_123), (5, .int v5_95), (0, .ref (HB.size + 91)), (1, .int v1), (2, .int v2), (3, .int v3), (4, .int v4)]) hx hb dX12_pairing_125 hl (k := 7) rfl (by rw [qq]; rfl) (by decide) rfl (fun ls hl => ?_)
          refine lv_goto (tgt := 65) hx hb dX12_pairing_128 (by decide) ?_
          exact hk65 σ H locs ls G23 G24 G25 G38 G41 G42 G43 v1 v2 v3 v4 v5_95 v6_123 v7_125  hI e23 e24 e25 e38 e41 e42 e43 fr (lv_sub hl [3, 4, 5, 6, 7, 2, 1, 0] rfl) h
        · replace h := ite_t hc h
          refine lv_goto (tgt := 125) hx hb dX12_pairing_88 (by decide) ?_
          obtain ⟨v7_125, qq, h⟩ := bn_e h
          refine lv_iinc (v := v7_125) (lv' := [(7, .int v7_125), (0, .ref (HB.size + 91)), (1, .int v1), (2, .int v2), (3, .int v3), (4, .int v4), (5, .int v5), (6, .int v6)]) hx hb dX12_pairing_125 hl (k := 7) rfl (by rw [qq]; rfl) (by decide) rfl (fun ls hl => ?_)
          refine lv_goto (tgt := 65) hx hb dX12_pairing_128 (by decide) ?_
          exact hk65 σ H locs ls G23 G24 G25 G38 G41 G42 G43 v1 v2 v3 v4 v5 v6 v7_125  hI e23 e24 e25 e38 e41 e42 e43 fr (lv_sub hl [1, 2, 3, 4, 5, 6, 7, 0] rfl) h
  have b202 : ∀ (fu : Nat) (σ : St) (H : Heap) (locs : List Loc) (ls : Array Slot) (G23 : Grp) (G24 : Grp) (G25 : Grp) (G38 : Grp) (G41 : Grp) (G42 : Grp) (G43 : Grp) (v4 : Int32) (v5 : Int32) , IV HB D y n n κ σ locs H → σ 23 = G23 → σ 24 = G24 → σ 25 = G25 → σ 38 = G38 → σ 41 = G41 → σ 42 = G42 → σ 43 = G43 → (∀ j, j ∉ W_X12_pairing → σ j = σ0 j) → lv_has ls 8 [(0, .ref (HB.size + 91)), (4, .int v4), (5, .int v5)] → f_X12_pairing_l202 F  fu G23 G24 G25 G38 G41 G42 G43 v4 v5 = some q → WX RM_X12_pairing p l e s m args below meth c HB (some (.int q.1)) (B_X12_pairing HB D y n κ σ0 q) H locs (F0 m 202 ls []) := by
    intro  fu
    induction fu with
    | zero =>
      intro σ H locs ls G23 G24 G25 G38 G41 G42 G43 v4 v5 hI e23 e24 e25 e38 e41 e42 e43 fr hl h
      exact absurd h (by intro h; cases h)
    | succ fu hk202 =>
      intro σ H locs ls G23 G24 G25 G38 G41 G42 G43 v4 v5 hI e23 e24 e25 e38 e41 e42 e43 fr hl h
      have h : f_X12_pairing_l202b F  (f_X12_pairing_l202 F  fu) G23 G24 G25 G38 G41 G42 G43 v4 v5 = some q := h
      generalize f_X12_pairing_l202 F  fu = k202 at h hk202
      unfold f_X12_pairing_l202b at h
      refine lv_iload hx hb dX12_pairing_202 (lv_at hl 2 rfl) ?_
      refine lv_aload_n hx hb dX12_pairing_204 rfl (lv_at hl 0 rfl) ?_
      refine gt_X12_550 hx hb hts hown hKK hI e43 (lc91 hN) (kc91 hk0) dX12_pairing_205 ?_
      refine lv_icmp_ge (tgt := 286) hx hb dX12_pairing_208 (by decide) (fun hc => ?_) (fun hc => ?_)
      · replace h := ite_t hc h
        refine lv_iload hx hb dX12_pairing_286 (lv_at hl 1 rfl) ?_
        have hq := Option.some.inj h
        exact W.iret (v := v4) hx hb hr (fun t ht hW => qc_mk (congrArg (fun z => Outcome.returned (some (Value.int z.1))) hq) (by rw [ht]; exact ⟨σ, hI.nil, e25.trans (congrArg (fun z => z.2.1) hq), e38.trans (congrArg (fun z => z.2.2.1) hq), e42.trans (congrArg (fun z => z.2.2.2.1) hq), e43.trans (congrArg (fun z => z.2.2.2.2) hq), fr⟩)) hI.2.2 dX12_pairing_288 hlocks
      · replace h := ite_f hc h
        refine lv_aload_n hx hb dX12_pairing_211 rfl (lv_at hl 0 rfl) ?_
        refine gt_X12_274 hx hb hts hown hKK hI e25 (lc91 hN) (kc91 hk0) dX12_pairing_212 ?_
        refine lv_bipush (v := 40) hx hb dX12_pairing_215 (by decide) ?_
        refine lv_icmp_ge (tgt := 286) hx hb dX12_pairing_217 (by decide) (fun hc => ?_) (fun hc => ?_)
        · replace h := ite_t hc h
          refine lv_iload hx hb dX12_pairing_286 (lv_at hl 1 rfl) ?_
          have hq := Option.some.inj h
          exact W.iret (v := v4) hx hb hr (fun t ht hW => qc_mk (congrArg (fun z => Outcome.returned (some (Value.int z.1))) hq) (by rw [ht]; exact ⟨σ, hI.nil, e25.trans (congrArg (fun z => z.2.1) hq), e38.trans (congrArg (fun z => z.2.2.1) hq), e42.trans (congrArg (fun z => z.2.2.2.1) hq), e43.trans (congrArg (fun z => z.2.2.2.2) hq), fr⟩)) hI.2.2 dX12_pairing_288 hlocks
        · replace h := ite_f hc h
          refine lv_aload_n hx hb dX12_pairing_220 rfl (lv_at hl 0 rfl) ?_
          refine gf_X12_200 hx hb hts hown hKK hI hN dX12_pairing_221 ?_
          refine lv_iload hx hb dX12_pairing_224 (lv_at hl 2 rfl) ?_
          obtain ⟨hin_, h⟩ := ck_e h
          refine la_66 hx hb hKK hI e38 (lc154 hN) (kc154 hk0) hin_ dX12_pairing_226 ?_
          refine lv_aload_n hx hb dX12_pairing_227 rfl (lv_at hl 0 rfl) ?_
          refine gt_X12_553 hx hb hts hown hKK hI e43 (lc91 hN) (kc91 hk0) dX12_pairing_228 ?_
          refine lv_icmp_ne (tgt := 237) hx hb dX12_pairing_231 (by decide) (fun hc => ?_) (fun hc => ?_)
          · replace h := ite_f hc h
            refine lv_aload_n hx hb dX12_pairing_237 rfl (lv_at hl 0 rfl) ?_
            refine lv_aload_n hx hb dX12_pairing_238 rfl (lv_at hl 0 rfl) ?_
            refine gf_X12_248 hx hb hts hown hKK hI hN dX12_pairing_239 ?_
            refine lv_iload hx hb dX12_pairing_242 (lv_at hl 2 rfl) ?_
            obtain ⟨hin_, h⟩ := ck_e h
            refine la_74 hx hb hKK hI e43 (lc170 hN) (kc170 hk0) hin_ dX12_pairing_244 ?_
            refine lv_aload_n hx hb dX12_pairing_245 rfl (lv_at hl 0 rfl) ?_
            refine gf_X12_251 hx hb hts hown hKK hI hN dX12_pairing_246 ?_
            refine lv_aload_n hx hb dX12_pairing_249 rfl (lv_at hl 0 rfl) ?_
            refine gf_X12_200 hx hb hts hown hKK hI hN dX12_pairing_250 ?_
            refine lv_iload hx hb dX12_pairing_253 (lv_at hl 2 rfl) ?_
            obtain ⟨hin_, h⟩ := ck_e h
            refine la_66 hx hb hKK hI e38 (lc154 hN) (kc154 hk0) hin_ dX12_pairing_255 ?_
            obtain ⟨hin_, h⟩ := ck_e h
            refine la_74 hx hb hKK hI e43 (lc171 hN) (kc171 hk0) hin_ dX12_pairing_256 ?_
            obtain ⟨q_257, hq_257, h⟩ := ob_e h
            refine r_callV (As := [.int (G43.1 170 v5.toNatClampNeg), .int (G43.1 171 (G38.1 154 v5.toNatClampNeg).toNatClampNeg)]) (rest := []) hx hb hml hts hown (c_X12_begins l HB D y F n κ σ hN (G43.1 170 v5.toNatClampNeg) (G43.1 171 (G38.1 154 v5.toNatClampNeg).toNatClampNeg) G23 e23 G25 e25 q_257 hq_257) cal_X12_begins im_X12_begins se_X12_begins lm_X12_301 ⟨Nat.le_of_ble_eq_true rfl, Nat.le_of_ble_eq_true rfl⟩ hI.nil hKK (r_recv hKK hI (hE12 HB.size y) rfl (lc91 hN) (kc91 hk0)) rfl hl.1 hI.2.2 rfl (Nat.le_of_ble_eq_true rfl) dX12_pairing_257 ⟨Nat.le_of_ble_eq_true rfl, Nat.le_of_ble_eq_true rfl⟩ rfl rfl rfl (fun H locs hB hlo => ?_)
            obtain ⟨σ, hB, en25, ho⟩ := hB
            have hI := hB.re hlo
            have e25 := en25
            have e23 := (ho 23 (ni rfl)).trans e23
            have e24 := (ho 24 (ni rfl)).trans e24
            have e38 := (ho 38 (ni rfl)).trans e38
            have e41 := (ho 41 (ni rfl)).trans e41
            have e42 := (ho 42 (ni rfl)).trans e42
            have e43 := (ho 43 (ni rfl)).trans e43
            have fr := frc fr ho (by decide)
            refine lv_pop hx hb dX12_pairing_260 rfl ?_
            refine lv_aload_n hx hb dX12_pairing_261 rfl (lv_at hl 0 rfl) ?_
            refine gf_X12_254 hx hb hts hown hKK hI hN dX12_pairing_262 ?_
            refine lv_aload_n hx hb dX12_pairing_265 rfl (lv_at hl 0 rfl) ?_
            refine gf_X12_248 hx hb hts hown hKK hI hN dX12_pairing_266 ?_
            refine lv_iload hx hb dX12_pairing_269 (lv_at hl 2 rfl) ?_
            obtain ⟨hin_, h⟩ := ck_e h
            refine la_74 hx hb hKK hI e43 (lc170 hN) (kc170 hk0) hin_ dX12_pairing_271 ?_
            refine lv_iconst (v := 0) hx hb dX12_pairing_272 (by decide) ?_
            obtain ⟨hin_, h⟩ := ck_e h
            obtain ⟨G42_273, qq, h⟩ := bn_e h
            refine sa_75 hx hb hKK hI e42 (lc172 hN) (kc172 hk0) hin_ dX12_pairing_273 (fun σ H locs hI ew ho => ?_)
            have e42 := ew.trans qq.symm
            have e23 := (ho 23 (nn rfl)).trans e23
            have e24 := (ho 24 (nn rfl)).trans e24
            have e25 := (ho 25 (nn rfl)).trans e25
            have e38 := (ho 38 (nn rfl)).trans e38
            have e41 := (ho 41 (nn rfl)).trans e41
            have e43 := (ho 43 (nn rfl)).trans e43
            have fr := frs fr ho (by decide)
            refine lv_iload hx hb dX12_pairing_274 (lv_at hl 1 rfl) ?_
            refine lv_iconst (v := 1) hx hb dX12_pairing_276 (by decide) ?_
            refine lv_iadd hx hb dX12_pairing_277 ?_
            obtain ⟨v4_278, qq, h⟩ := bn_e h
            refine topi qq ?_
            refine lv_istore (lv' := [(4, .int v4_278), (0, .ref (HB.size + 91)), (5, .int v5)]) hx hb dX12_pairing_278 hl (by decide) rfl (fun ls hl => ?_)
            obtain ⟨v5_280, qq, h⟩ := bn_e h
            refine lv_iinc (v := v5_280) (lv' := [(5, .int v5_280), (4, .int v4_278), (0, .ref (HB.size + 91))]) hx hb dX12_pairing_280 hl (k := 2) rfl (by rw [qq]; rfl) (by decide) rfl (fun ls hl => ?_)
            refine lv_goto (tgt := 202) hx hb dX12_pairing_283 (by decide) ?_
            exact hk202 σ H locs ls G23 G24 (q_257.2) G38 G41 G42_273 G43 v4_278 v5_280  hI e23 e24 e25 e38 e41 e42 e43 fr (lv_sub hl [2, 1, 0] rfl) h
          · replace h := ite_t hc h
            refine lv_goto (tgt := 280) hx hb dX12_pairing_234 (by decide) ?_
            obtain ⟨v5_280, qq, h⟩ := bn_e h
            refine lv_iinc (v := v5_280) (lv' := [(5, .int v5_280), (0, .ref (HB.size + 91)), (4, .int v4)]) hx hb dX12_pairing_280 hl (k := 2) rfl (by rw [qq]; rfl) (by decide) rfl (fun ls hl => ?_)
            refine lv_goto (tgt := 202) hx hb dX12_pairing_283 (by decide) ?_
            exact hk202 σ H locs ls G23 G24 G25 G38 G41 G42 G43 v4 v5_280  hI e23 e24 e25 e38 e41 e42 e43 fr (lv_sub hl [1, 2, 0] rfl) h
  have b38 : ∀ (fu : Nat) (σ : St) (H : Heap) (locs : List Loc) (ls : Array Slot) (G23 : Grp) (G24 : Grp) (G25 : Grp) (G38 : Grp) (G41 : Grp) (G42 : Grp) (G43 : Grp) (v1 : Int32) (v2 : Int32) (v3 : Int32) (v4 : Int32) , IV HB D y n n κ σ locs H → σ 23 = G23 → σ 24 = G24 → σ 25 = G25 → σ 38 = G38 → σ 41 = G41 → σ 42 = G42 → σ 43 = G43 → (∀ j, j ∉ W_X12_pairing → σ j = σ0 j) → lv_has ls 8 [(0, .ref (HB.size + 91)), (1, .int v1), (2, .int v2), (3, .int v3), (4, .int v4)] → f_X12_pairing_l38 F  fu G23 G24 G25 G38 G41 G42 G43 v1 v2 v3 v4 = some q → WX RM_X12_pairing p l e s m args below meth c HB (some (.int q.1)) (B_X12_pairing HB D y n κ σ0 q) H locs (F0 m 38 ls []) := by
    intro  fu
    induction fu with
    | zero =>
      intro σ H locs ls G23 G24 G25 G38 G41 G42 G43 v1 v2 v3 v4 hI e23 e24 e25 e38 e41 e42 e43 fr hl h
      exact absurd h (by intro h; cases h)
    | succ fu hk38 =>
      intro σ H locs ls G23 G24 G25 G38 G41 G42 G43 v1 v2 v3 v4 hI e23 e24 e25 e38 e41 e42 e43 fr hl h
      have h : f_X12_pairing_l38b F  (f_X12_pairing_l38 F  fu) G23 G24 G25 G38 G41 G42 G43 v1 v2 v3 v4 = some q := h
      generalize f_X12_pairing_l38 F  fu = k38 at h hk38
      unfold f_X12_pairing_l38b at h
      refine lv_iload hx hb dX12_pairing_38 (lv_at hl 4 rfl) ?_
      refine lv_iload_n hx hb dX12_pairing_40 rfl (lv_at hl 1 rfl) ?_
      refine lv_icmp_ge (tgt := 196) hx hb dX12_pairing_41 (by decide) (fun hc => ?_) (fun hc => ?_)
      · replace h := ite_t hc h
        refine lv_iconst (v := 0) hx hb dX12_pairing_196 (by decide) ?_
        refine lv_istore (lv' := [(4, .int 0), (0, .ref (HB.size + 91)), (1, .int v1), (2, .int v2), (3, .int v3)]) hx hb dX12_pairing_197 hl (by decide) rfl (fun ls hl => ?_)
        refine lv_iconst (v := 0) hx hb dX12_pairing_199 (by decide) ?_
        refine lv_istore (lv' := [(5, .int 0), (4, .int 0), (0, .ref (HB.size + 91)), (1, .int v1), (2, .int v2), (3, .int v3)]) hx hb dX12_pairing_200 hl (by decide) rfl (fun ls hl => ?_)
        exact b202  F σ H locs ls G23 G24 G25 G38 G41 G42 G43 0 0  hI e23 e24 e25 e38 e41 e42 e43 fr (lv_sub hl [2, 1, 0] rfl) h
      · replace h := ite_f hc h
        refine lv_aload_n hx hb dX12_pairing_44 rfl (lv_at hl 0 rfl) ?_
        refine lv_iload hx hb dX12_pairing_45 (lv_at hl 4 rfl) ?_
        obtain ⟨q_47, hq_47, h⟩ := ob_e h
        refine r_callV (As := [.int v4]) (rest := []) hx hb hml hts hown (c_X12_isRow l HB D y F n κ σ hN v4 G38 e38 G43 e43 q_47 hq_47) cal_X12_isRow im_X12_isRow se_X12_isRow lm_X12_559 ⟨Nat.le_of_ble_eq_true rfl, Nat.le_of_ble_eq_true rfl⟩ hI.nil hKK (r_recv hKK hI (hE12 HB.size y) rfl (lc91 hN) (kc91 hk0)) rfl hl.1 hI.2.2 rfl (Nat.le_of_ble_eq_true rfl) dX12_pairing_47 ⟨Nat.le_of_ble_eq_true rfl, Nat.le_of_ble_eq_true rfl⟩ rfl rfl rfl (fun H locs hB hlo => ?_)
        obtain ⟨σ, hB, en38, ho⟩ := hB
        have hI := hB.re hlo
        have e38 := en38
        have e23 := (ho 23 (ni rfl)).trans e23
        have e24 := (ho 24 (ni rfl)).trans e24
        have e25 := (ho 25 (ni rfl)).trans e25
        have e41 := (ho 41 (ni rfl)).trans e41
        have e42 := (ho 42 (ni rfl)).trans e42
        have e43 := (ho 43 (ni rfl)).trans e43
        have fr := frc fr ho (by decide)
        refine lv_if_ne (tgt := 56) hx hb dX12_pairing_50 (by decide) (fun hc => ?_) (fun hc => ?_)
        · replace h := ite_f hc h
          refine lv_iconst (v := 0) hx hb dX12_pairing_56 (by decide) ?_
          refine lv_istore (lv' := [(5, .int 0), (0, .ref (HB.size + 91)), (1, .int v1), (2, .int v2), (3, .int v3), (4, .int v4)]) hx hb dX12_pairing_57 hl (by decide) rfl (fun ls hl => ?_)
          refine lv_iconst (v := 0) hx hb dX12_pairing_59 (by decide) ?_
          refine lv_istore (lv' := [(6, .int 0), (5, .int 0), (0, .ref (HB.size + 91)), (1, .int v1), (2, .int v2), (3, .int v3), (4, .int v4)]) hx hb dX12_pairing_60 hl (by decide) rfl (fun ls hl => ?_)
          refine lv_iconst (v := 0) hx hb dX12_pairing_62 (by decide) ?_
          refine lv_istore (lv' := [(7, .int 0), (6, .int 0), (5, .int 0), (0, .ref (HB.size + 91)), (1, .int v1), (2, .int v2), (3, .int v3), (4, .int v4)]) hx hb dX12_pairing_63 hl (by decide) rfl (fun ls hl => ?_)
          exact b65 k38 hk38 F σ H locs ls G23 G24 G25 (q_47.2) G41 G42 G43 v1 v2 v3 v4 0 0 0  hI e23 e24 e25 e38 e41 e42 e43 fr (lv_sub hl [3, 4, 5, 6, 7, 2, 1, 0] rfl) h
        · replace h := ite_t hc h
          refine lv_goto (tgt := 190) hx hb dX12_pairing_53 (by decide) ?_
          obtain ⟨v4_190, qq, h⟩ := bn_e h
          refine lv_iinc (v := v4_190) (lv' := [(4, .int v4_190), (0, .ref (HB.size + 91)), (1, .int v1), (2, .int v2), (3, .int v3)]) hx hb dX12_pairing_190 hl (k := 4) rfl (by rw [qq]; rfl) (by decide) rfl (fun ls hl => ?_)
          refine lv_goto (tgt := 38) hx hb dX12_pairing_193 (by decide) ?_
          exact hk38 σ H locs ls G23 G24 G25 (q_47.2) G41 G42 G43 v1 v2 v3 v4_190  hI e23 e24 e25 e38 e41 e42 e43 fr (lv_sub hl [1, 2, 3, 4, 0] rfl) h
  have b8 : ∀ (fu : Nat) (σ : St) (H : Heap) (locs : List Loc) (ls : Array Slot) (G23 : Grp) (G24 : Grp) (G25 : Grp) (G38 : Grp) (G41 : Grp) (G42 : Grp) (G43 : Grp) (v1 : Int32) (v2 : Int32) , IV HB D y n n κ σ locs H → σ 23 = G23 → σ 24 = G24 → σ 25 = G25 → σ 38 = G38 → σ 41 = G41 → σ 42 = G42 → σ 43 = G43 → (∀ j, j ∉ W_X12_pairing → σ j = σ0 j) → lv_has ls 8 [(0, .ref (HB.size + 91)), (1, .int v1), (2, .int v2)] → f_X12_pairing_l8 F  fu G23 G24 G25 G38 G41 G42 G43 v1 v2 = some q → WX RM_X12_pairing p l e s m args below meth c HB (some (.int q.1)) (B_X12_pairing HB D y n κ σ0 q) H locs (F0 m 8 ls []) := by
    intro  fu
    induction fu with
    | zero =>
      intro σ H locs ls G23 G24 G25 G38 G41 G42 G43 v1 v2 hI e23 e24 e25 e38 e41 e42 e43 fr hl h
      exact absurd h (by intro h; cases h)
    | succ fu hk8 =>
      intro σ H locs ls G23 G24 G25 G38 G41 G42 G43 v1 v2 hI e23 e24 e25 e38 e41 e42 e43 fr hl h
      have h : f_X12_pairing_l8b F  (f_X12_pairing_l8 F  fu) G23 G24 G25 G38 G41 G42 G43 v1 v2 = some q := h
      generalize f_X12_pairing_l8 F  fu = k8 at h hk8
      unfold f_X12_pairing_l8b at h
      refine lv_iload_n hx hb dX12_pairing_8 rfl (lv_at hl 2 rfl) ?_
      refine lv_aload_n hx hb dX12_pairing_9 rfl (lv_at hl 0 rfl) ?_
      refine gt_X12_550 hx hb hts hown hKK hI e43 (lc91 hN) (kc91 hk0) dX12_pairing_10 ?_
      refine lv_icmp_ge (tgt := 31) hx hb dX12_pairing_13 (by decide) (fun hc => ?_) (fun hc => ?_)
      · replace h := ite_t hc h
        refine lv_iconst (v := (-1)) hx hb dX12_pairing_31 (by decide) ?_
        refine lv_istore_n (lv' := [(2, .int (-1)), (0, .ref (HB.size + 91)), (1, .int v1)]) hx hb dX12_pairing_32 rfl hl (by decide) rfl (fun ls hl => ?_)
        refine lv_iconst (v := 0) hx hb dX12_pairing_33 (by decide) ?_
        refine lv_istore_n (lv' := [(3, .int 0), (2, .int (-1)), (0, .ref (HB.size + 91)), (1, .int v1)]) hx hb dX12_pairing_34 rfl hl (by decide) rfl (fun ls hl => ?_)
        refine lv_iconst (v := 0) hx hb dX12_pairing_35 (by decide) ?_
        refine lv_istore (lv' := [(4, .int 0), (3, .int 0), (2, .int (-1)), (0, .ref (HB.size + 91)), (1, .int v1)]) hx hb dX12_pairing_36 hl (by decide) rfl (fun ls hl => ?_)
        exact b38  F σ H locs ls G23 G24 G25 G38 G41 G42 G43 v1 (-1) 0 0  hI e23 e24 e25 e38 e41 e42 e43 fr (lv_sub hl [3, 4, 2, 1, 0] rfl) h
      · replace h := ite_f hc h
        refine lv_iload_n hx hb dX12_pairing_16 rfl (lv_at hl 1 rfl) ?_
        refine lv_aload_n hx hb dX12_pairing_17 rfl (lv_at hl 0 rfl) ?_
        refine gt_X12_553 hx hb hts hown hKK hI e43 (lc91 hN) (kc91 hk0) dX12_pairing_18 ?_
        refine lv_iconst (v := 1) hx hb dX12_pairing_21 (by decide) ?_
        refine lv_iadd hx hb dX12_pairing_22 ?_
        refine lv_imul hx hb dX12_pairing_23 ?_
        obtain ⟨v1_24, qq, h⟩ := bn_e h
        refine topi qq ?_
        refine lv_istore_n (lv' := [(1, .int v1_24), (0, .ref (HB.size + 91)), (2, .int v2)]) hx hb dX12_pairing_24 rfl hl (by decide) rfl (fun ls hl => ?_)
        obtain ⟨v2_25, qq, h⟩ := bn_e h
        refine lv_iinc (v := v2_25) (lv' := [(2, .int v2_25), (1, .int v1_24), (0, .ref (HB.size + 91))]) hx hb dX12_pairing_25 hl (k := 2) rfl (by rw [qq]; rfl) (by decide) rfl (fun ls hl => ?_)
        refine lv_goto (tgt := 8) hx hb dX12_pairing_28 (by decide) ?_
        exact hk8 σ H locs ls G23 G24 G25 G38 G41 G42 G43 v1_24 v2_25  hI e23 e24 e25 e38 e41 e42 e43 fr (lv_sub hl [2, 1, 0] rfl) h
  obtain ⟨σ, hI, e23, e24, e25, e38, e41, e42, e43, fr⟩ : ∃ σ : St, IV HB D y n n κ σ [] s.heap ∧ σ 23 = G23 ∧ σ 24 = G24 ∧ σ 25 = G25 ∧ σ 38 = G38 ∧ σ 41 = G41 ∧ σ 42 = G42 ∧ σ 43 = G43 ∧ ∀ j, j ∉ W_X12_pairing → σ j = σ0 j := ⟨σ0, hI, e23, e24, e25, e38, e41, e42, e43, fun _ _ => rfl⟩
  show WX RM_X12_pairing p l e s m args below meth c HB (some (.int q.1)) (B_X12_pairing HB D y n κ σ0 q) s.heap [] (F0 m 0 ls [])
  generalize s.heap = H at hI ⊢
  unfold f_X12_pairing at h
  obtain ⟨locs, hlocs⟩ : ∃ x : List Loc, x = [] := ⟨_, rfl⟩
  rw [← hlocs] at hI ⊢
  refine lv_aload_n hx hb dX12_pairing_0 rfl (lv_at hl 0 rfl) ?_
  obtain ⟨q_1, hq_1, h⟩ := ob_e h
  refine r_callV (As := []) (rest := []) hx hb hml hts hown (c_X12_gathers l HB D y F n κ σ hN  G23 e23 G24 e24 G25 e25 G41 e41 G42 e42 G43 e43 q_1 hq_1) cal_X12_gathers im_X12_gathers se_X12_gathers lm_X12_556 ⟨Nat.le_of_ble_eq_true rfl, Nat.le_of_ble_eq_true rfl⟩ hI.nil hKK (r_recv hKK hI (hE12 HB.size y) rfl (lc91 hN) (kc91 hk0)) rfl hl.1 hI.2.2 rfl (Nat.le_of_ble_eq_true rfl) dX12_pairing_1 ⟨Nat.le_of_ble_eq_true rfl, Nat.le_of_ble_eq_true rfl⟩ rfl rfl rfl (fun H locs hB hlo => ?_)
  obtain ⟨σ, hB, en43, ho⟩ := hB
  have hI := hB.re hlo
  have e43 := en43
  have e23 := (ho 23 (ni rfl)).trans e23
  have e24 := (ho 24 (ni rfl)).trans e24
  have e25 := (ho 25 (ni rfl)).trans e25
  have e38 := (ho 38 (ni rfl)).trans e38
  have e41 := (ho 41 (ni rfl)).trans e41
  have e42 := (ho 42 (ni rfl)).trans e42
  have fr := frc fr ho (by decide)
  refine lv_iconst (v := 1) hx hb dX12_pairing_4 (by decide) ?_
  refine lv_istore_n (lv' := [(1, .int 1), (0, .ref (HB.size + 91))]) hx hb dX12_pairing_5 rfl hl (by decide) rfl (fun ls hl => ?_)
  refine lv_iconst (v := 0) hx hb dX12_pairing_6 (by decide) ?_
  refine lv_istore_n (lv' := [(2, .int 0), (1, .int 1), (0, .ref (HB.size + 91))]) hx hb dX12_pairing_7 rfl hl (by decide) rfl (fun ls hl => ?_)
  exact b8  F σ H locs ls G23 G24 G25 G38 G41 G42 q_1 1 0  hI e23 e24 e25 e38 e41 e42 e43 fr (lv_sub hl [2, 1, 0] rfl) h
noncomputable def f_X12_trial_l42b (F : Nat)  (k42 : Grp → Grp → Int32 → Option (Int32 × Grp)) (G24 : Grp) (G44 : Grp) (v3 : Int32) : Option (Int32 × Grp) :=
  if 16 ≤ v3 then some (1, G44) else ck v3 16 (bn (gI G44 173 v3.toNatClampNeg (-1)) (fun G44_54 => bn (v3 + 1) (fun v3_55 => k42 G24 G44_54 v3_55)))
noncomputable def f_X12_trial_l42 (F : Nat)  (fu : Nat) : Grp → Grp → Int32 → Option (Int32 × Grp) := Nat.rec (motive := fun _ => Grp → Grp → Int32 → Option (Int32 × Grp)) (fun _ _ _ => none) (fun _ ih => f_X12_trial_l42b F  ih) fu
noncomputable def f_X12_trial (F : Nat) (G24 : Grp) (G44 : Grp) (v1 : Int32) (v2 : Int32) : Option (Int32 × Grp) :=
  ob (f_X12_in F v1 0 ((1 <<< ((G24.1 91 3) &&& 31)) - 1)) (fun q_10 => if q_10 = 0 then some (0, G44) else if v2 < 0 then some (0, G44) else if (v2 &&& (v1 ^^^ (-1))) = 0 then bn (gI G44 91 109 v1) (fun G44_32 => bn (gI G44_32 91 110 v2) (fun G44_37 => f_X12_trial_l42 F  F G24 G44_37 0)) else some (0, G44))
def RM_X12_trial : Room := { frames := 1, cells := 0, slots := 0, locals := 22 }
abbrev W_X12_trial : List Nat := [44]
abbrev B_X12_trial (HB : Heap) (D : va_G) (y : Nat → ClassId) (n : Nat) (κ : Nat → Nat) (σ0 : St) (q : Int32 × Grp) : Heap → Prop := fun H => ∃ σ : St, IV HB D y n n κ σ [] H ∧ σ 44 = q.2 ∧ ∀ j, j ∉ W_X12_trial → σ j = σ0 j
set_option maxRecDepth 100000 in
set_option maxHeartbeats 4000000 in
theorem c_X12_trial (l : Launch) (HB : Heap) (D : va_G) (y : Nat → ClassId) (F n : Nat) (κ : Nat → Nat) (σ0 : St) (hN : N0 ≤ n) (v1 : Int32)  (v2 : Int32)  (G24 : Grp) (e24 : σ0 24 = G24) (G44 : Grp) (e44 : σ0 44 = G44) (q : Int32 × Grp) (h : f_X12_trial F G24 G44 v1 v2 = some q) : MT l HB D y yX12_trial cX12_trial 4 (some .boolean) RM_X12_trial [.ref (HB.size + 91), .int v1, .int v2] (IV HB D y n n κ σ0 []) (some (.int q.1)) (B_X12_trial HB D y n κ σ0 q) := by
  refine Met.ofW (cc := cX12_trial) (maxL := 4) (ret := (some .boolean)) (by decide) rfl ?_
  intro p e s m args below meth c s₁ BL hml hv
  obtain ⟨rfl, hI, hKK⟩ := hv
  have hx := BL.exec
  have hb := BL.bytes
  have hr := BL.returns
  have hts : ∀ w ∈ gtb, w.before _ s = true := fun w hw => atoms_spec BL.pre w (List.mem_cons_of_mem _ hw)
  have hml : c.maxLocals = 4 := hml
  have hown : s.vm.findClass RX12 = some m.cls := findClass_of_methodNamed BL.named
  have hlocks := BL.notSynchronized
  have hk0 := hI.1.2.2.2.2
  have hl := lv_entry ([.ref (HB.size + 91), .int v1, .int v2]) (n := 4) (Nat.le_of_ble_eq_true rfl)
  rw [lg_entry_eq]
  generalize (lg_sl ([.ref (HB.size + 91), .int v1, .int v2]) ++ List.replicate (4 - (lg_sl ([.ref (HB.size + 91), .int v1, .int v2])).length) Slot.unset).toArray = ls at hl ⊢
  have hl : lv_has ls 4 [(0, .ref (HB.size + 91)), (1, .int v1), (2, .int v2)] := hl
  generalize hargs : ([.ref (HB.size + 91), .int v1, .int v2] : List Value).toArray = args at *
  have b42 : ∀ (fu : Nat) (σ : St) (H : Heap) (locs : List Loc) (ls : Array Slot) (G24 : Grp) (G44 : Grp) (v3 : Int32) , IV HB D y n n κ σ locs H → σ 24 = G24 → σ 44 = G44 → (∀ j, j ∉ W_X12_trial → σ j = σ0 j) → lv_has ls 4 [(0, .ref (HB.size + 91)), (3, .int v3)] → f_X12_trial_l42 F  fu G24 G44 v3 = some q → WX RM_X12_trial p l e s m args below meth c HB (some (.int q.1)) (B_X12_trial HB D y n κ σ0 q) H locs (F0 m 42 ls []) := by
    intro  fu
    induction fu with
    | zero =>
      intro σ H locs ls G24 G44 v3 hI e24 e44 fr hl h
      exact absurd h (by intro h; cases h)
    | succ fu hk42 =>
      intro σ H locs ls G24 G44 v3 hI e24 e44 fr hl h
      have h : f_X12_trial_l42b F  (f_X12_trial_l42 F  fu) G24 G44 v3 = some q := h
      generalize f_X12_trial_l42 F  fu = k42 at h hk42
      unfold f_X12_trial_l42b at h
      refine lv_iload_n hx hb dX12_trial_42 rfl (lv_at hl 1 rfl) ?_
      refine lv_bipush (v := 16) hx hb dX12_trial_43 (by decide) ?_
      refine lv_icmp_ge (tgt := 61) hx hb dX12_trial_45 (by decide) (fun hc => ?_) (fun hc => ?_)
      · replace h := ite_t hc h
        refine lv_iconst (v := 1) hx hb dX12_trial_61 (by decide) ?_
        have hq := Option.some.inj h
        exact W.zret (v := 1) (ty := .boolean) hx hb hr rfl (fun t ht hW => qc_mk (congrArg (fun z => Outcome.returned (some (Value.int z.1))) hq) (by rw [ht]; exact ⟨σ, hI.nil, e44.trans (congrArg (fun z => z.2) hq), fr⟩)) hI.2.2 dX12_trial_62 hlocks
      · replace h := ite_f hc h
        refine lv_aload_n hx hb dX12_trial_48 rfl (lv_at hl 0 rfl) ?_
        refine gf_X12_257 hx hb hts hown hKK hI hN dX12_trial_49 ?_
        refine lv_iload_n hx hb dX12_trial_52 rfl (lv_at hl 1 rfl) ?_
        refine lv_iconst (v := (-1)) hx hb dX12_trial_53 (by decide) ?_
        obtain ⟨hin_, h⟩ := ck_e h
        obtain ⟨G44_54, qq, h⟩ := bn_e h
        refine sa_76 hx hb hKK hI e44 (lc173 hN) (kc173 hk0) hin_ dX12_trial_54 (fun σ H locs hI ew ho => ?_)
        have e44 := ew.trans qq.symm
        have e24 := (ho 24 (nn rfl)).trans e24
        have fr := frs fr ho (by decide)
        obtain ⟨v3_55, qq, h⟩ := bn_e h
        refine lv_iinc (v := v3_55) (lv' := [(3, .int v3_55), (0, .ref (HB.size + 91))]) hx hb dX12_trial_55 hl (k := 1) rfl (by rw [qq]; rfl) (by decide) rfl (fun ls hl => ?_)
        refine lv_goto (tgt := 42) hx hb dX12_trial_58 (by decide) ?_
        exact hk42 σ H locs ls G24 G44_54 v3_55  hI e24 e44 fr (lv_sub hl [1, 0] rfl) h
  obtain ⟨σ, hI, e24, e44, fr⟩ : ∃ σ : St, IV HB D y n n κ σ [] s.heap ∧ σ 24 = G24 ∧ σ 44 = G44 ∧ ∀ j, j ∉ W_X12_trial → σ j = σ0 j := ⟨σ0, hI, e24, e44, fun _ _ => rfl⟩
  show WX RM_X12_trial p l e s m args below meth c HB (some (.int q.1)) (B_X12_trial HB D y n κ σ0 q) s.heap [] (F0 m 0 ls [])
  generalize s.heap = H at hI ⊢
  unfold f_X12_trial at h
  obtain ⟨locs, hlocs⟩ : ∃ x : List Loc, x = [] := ⟨_, rfl⟩
  rw [← hlocs] at hI ⊢
  refine lv_iload_n hx hb dX12_trial_0 rfl (lv_at hl 1 rfl) ?_
  refine lv_iconst (v := 0) hx hb dX12_trial_1 (by decide) ?_
  refine lv_iconst (v := 1) hx hb dX12_trial_2 (by decide) ?_
  refine lv_aload_n hx hb dX12_trial_3 rfl (lv_at hl 0 rfl) ?_
  refine gt_X12_271 hx hb hts hown hKK hI e24 (lc91 hN) (kc91 hk0) dX12_trial_4 ?_
  refine lv_ishl hx hb dX12_trial_7 ?_
  refine lv_iconst (v := 1) hx hb dX12_trial_8 (by decide) ?_
  refine lv_isub hx hb dX12_trial_9 ?_
  obtain ⟨q_10, hq_10, h⟩ := ob_e h
  refine r_callS (As := [.int v1, .int 0, .int ((1 <<< ((G24.1 91 3) &&& 31)) - 1)]) (rest := []) hx hb hml hts hown (c_X12_in l HB D y F n κ σ hN v1 0 ((1 <<< ((G24.1 91 3) &&& 31)) - 1)  q_10 hq_10) cal_X12_in st_X12_in lm_X12_260 ⟨Nat.le_of_ble_eq_true rfl, Nat.le_of_ble_eq_true rfl⟩ hI.nil hKK rfl hl.1 hI.2.2 rfl (Nat.le_of_ble_eq_true rfl) dX12_trial_10 ⟨Nat.le_of_ble_eq_true rfl, Nat.le_of_ble_eq_true rfl⟩ rfl rfl rfl (fun H locs hB hlo => ?_)
  have hI := hB.re hlo
  refine lv_if_eq (tgt := 28) hx hb dX12_trial_13 (by decide) (fun hc => ?_) (fun hc => ?_)
  · replace h := ite_t hc h
    refine lv_iconst (v := 0) hx hb dX12_trial_28 (by decide) ?_
    have hq := Option.some.inj h
    exact W.zret (v := 0) (ty := .boolean) hx hb hr rfl (fun t ht hW => qc_mk (congrArg (fun z => Outcome.returned (some (Value.int z.1))) hq) (by rw [ht]; exact ⟨σ, hI.nil, e44.trans (congrArg (fun z => z.2) hq), fr⟩)) hI.2.2 dX12_trial_29 hlocks
  · replace h := ite_f hc h
    refine lv_iload_n hx hb dX12_trial_16 rfl (lv_at hl 2 rfl) ?_
    refine lv_if_lt (tgt := 28) hx hb dX12_trial_17 (by decide) (fun hc => ?_) (fun hc => ?_)
    · replace h := ite_t hc h
      refine lv_iconst (v := 0) hx hb dX12_trial_28 (by decide) ?_
      have hq := Option.some.inj h
      exact W.zret (v := 0) (ty := .boolean) hx hb hr rfl (fun t ht hW => qc_mk (congrArg (fun z => Outcome.returned (some (Value.int z.1))) hq) (by rw [ht]; exact ⟨σ, hI.nil, e44.trans (congrArg (fun z => z.2) hq), fr⟩)) hI.2.2 dX12_trial_29 hlocks
    · replace h := ite_f hc h
      refine lv_iload_n hx hb dX12_trial_20 rfl (lv_at hl 2 rfl) ?_
      refine lv_iload_n hx hb dX12_trial_21 rfl (lv_at hl 1 rfl) ?_
      refine lv_iconst (v := (-1)) hx hb dX12_trial_22 (by decide) ?_
      refine lv_ixor hx hb dX12_trial_23 ?_
      refine lv_iand hx hb dX12_trial_24 ?_
      refine lv_if_eq (tgt := 30) hx hb dX12_trial_25 (by decide) (fun hc => ?_) (fun hc => ?_)
      · replace h := ite_t hc h
        refine lv_aload_n hx hb dX12_trial_30 rfl (lv_at hl 0 rfl) ?_
        refine lv_iload_n hx hb dX12_trial_31 rfl (lv_at hl 1 rfl) ?_
        obtain ⟨G44_32, qq, h⟩ := bn_e h
        refine pt_X12_565 hx hb hts hown hKK hI e44 (lc91 hN) (kc91 hk0) dX12_trial_32 (fun σ H locs hI ew ho => ?_)
        have e44 := ew.trans qq.symm
        have e24 := (ho 24 (nn rfl)).trans e24
        have fr := frs fr ho (by decide)
        refine lv_aload_n hx hb dX12_trial_35 rfl (lv_at hl 0 rfl) ?_
        refine lv_iload_n hx hb dX12_trial_36 rfl (lv_at hl 2 rfl) ?_
        obtain ⟨G44_37, qq, h⟩ := bn_e h
        refine pt_X12_568 hx hb hts hown hKK hI e44 (lc91 hN) (kc91 hk0) dX12_trial_37 (fun σ H locs hI ew ho => ?_)
        have e44 := ew.trans qq.symm
        have e24 := (ho 24 (nn rfl)).trans e24
        have fr := frs fr ho (by decide)
        refine lv_iconst (v := 0) hx hb dX12_trial_40 (by decide) ?_
        refine lv_istore_n (lv' := [(3, .int 0), (0, .ref (HB.size + 91)), (1, .int v1), (2, .int v2)]) hx hb dX12_trial_41 rfl hl (by decide) rfl (fun ls hl => ?_)
        exact b42  F σ H locs ls G24 G44_37 0  hI e24 e44 fr (lv_sub hl [1, 0] rfl) h
      · replace h := ite_f hc h
        refine lv_iconst (v := 0) hx hb dX12_trial_28 (by decide) ?_
        have hq := Option.some.inj h
        exact W.zret (v := 0) (ty := .boolean) hx hb hr rfl (fun t ht hW => qc_mk (congrArg (fun z => Outcome.returned (some (Value.int z.1))) hq) (by rw [ht]; exact ⟨σ, hI.nil, e44.trans (congrArg (fun z => z.2) hq), fr⟩)) hI.2.2 dX12_trial_29 hlocks
noncomputable def f_X12_outcome (F : Nat) (G24 : Grp) (G44 : Grp) (v1 : Int32) (v2 : Int32) : Option (Int32 × Grp) :=
  ob (f_X12_isChild F G24 v1) (fun q_2 => if q_2 = 0 then some (0, G44) else if (((G44.1 91 109) >>> (v1 &&& 31)) &&& 1) = 0 then some (0, G44) else ob (f_X12_in F v2 (-1) 999) (fun q_24 => if q_24 = 0 then some (0, G44) else ck v1 16 (bn (gI G44 173 v1.toNatClampNeg v2) (fun G44_38 => some (1, G44_38)))))
def RM_X12_outcome : Room := { frames := 1, cells := 0, slots := 0, locals := 22 }
abbrev W_X12_outcome : List Nat := [44]
abbrev B_X12_outcome (HB : Heap) (D : va_G) (y : Nat → ClassId) (n : Nat) (κ : Nat → Nat) (σ0 : St) (q : Int32 × Grp) : Heap → Prop := fun H => ∃ σ : St, IV HB D y n n κ σ [] H ∧ σ 44 = q.2 ∧ ∀ j, j ∉ W_X12_outcome → σ j = σ0 j
set_option maxRecDepth 100000 in
set_option maxHeartbeats 4000000 in
theorem c_X12_outcome (l : Launch) (HB : Heap) (D : va_G) (y : Nat → ClassId) (F n : Nat) (κ : Nat → Nat) (σ0 : St) (hN : N0 ≤ n) (v1 : Int32)  (v2 : Int32)  (G24 : Grp) (e24 : σ0 24 = G24) (G44 : Grp) (e44 : σ0 44 = G44) (q : Int32 × Grp) (h : f_X12_outcome F G24 G44 v1 v2 = some q) : MT l HB D y yX12_outcome cX12_outcome 3 (some .boolean) RM_X12_outcome [.ref (HB.size + 91), .int v1, .int v2] (IV HB D y n n κ σ0 []) (some (.int q.1)) (B_X12_outcome HB D y n κ σ0 q) := by
  refine Met.ofW (cc := cX12_outcome) (maxL := 3) (ret := (some .boolean)) (by decide) rfl ?_
  intro p e s m args below meth c s₁ BL hml hv
  obtain ⟨rfl, hI, hKK⟩ := hv
  have hx := BL.exec
  have hb := BL.bytes
  have hr := BL.returns
  have hts : ∀ w ∈ gtb, w.before _ s = true := fun w hw => atoms_spec BL.pre w (List.mem_cons_of_mem _ hw)
  have hml : c.maxLocals = 3 := hml
  have hown : s.vm.findClass RX12 = some m.cls := findClass_of_methodNamed BL.named
  have hlocks := BL.notSynchronized
  have hk0 := hI.1.2.2.2.2
  have hl := lv_entry ([.ref (HB.size + 91), .int v1, .int v2]) (n := 3) (Nat.le_of_ble_eq_true rfl)
  rw [lg_entry_eq]
  generalize (lg_sl ([.ref (HB.size + 91), .int v1, .int v2]) ++ List.replicate (3 - (lg_sl ([.ref (HB.size + 91), .int v1, .int v2])).length) Slot.unset).toArray = ls at hl ⊢
  have hl : lv_has ls 3 [(0, .ref (HB.size + 91)), (1, .int v1), (2, .int v2)] := hl
  generalize hargs : ([.ref (HB.size + 91), .int v1, .int v2] : List Value).toArray = args at *
  obtain ⟨σ, hI, e24, e44, fr⟩ : ∃ σ : St, IV HB D y n n κ σ [] s.heap ∧ σ 24 = G24 ∧ σ 44 = G44 ∧ ∀ j, j ∉ W_X12_outcome → σ j = σ0 j := ⟨σ0, hI, e24, e44, fun _ _ => rfl⟩
  show WX RM_X12_outcome p l e s m args below meth c HB (some (.int q.1)) (B_X12_outcome HB D y n κ σ0 q) s.heap [] (F0 m 0 ls [])
  generalize s.heap = H at hI ⊢
  unfold f_X12_outcome at h
  obtain ⟨locs, hlocs⟩ : ∃ x : List Loc, x = [] := ⟨_, rfl⟩
  rw [← hlocs] at hI ⊢
  refine lv_aload_n hx hb dX12_outcome_0 rfl (lv_at hl 0 rfl) ?_
  refine lv_iload_n hx hb dX12_outcome_1 rfl (lv_at hl 1 rfl) ?_
  obtain ⟨q_2, hq_2, h⟩ := ob_e h
  refine r_callV (As := [.int v1]) (rest := []) hx hb hml hts hown (c_X12_isChild l HB D y F n κ σ hN v1 G24 e24 q_2 hq_2) cal_X12_isChild im_X12_isChild se_X12_isChild lm_X12_287 ⟨Nat.le_of_ble_eq_true rfl, Nat.le_of_ble_eq_true rfl⟩ hI.nil hKK (r_recv hKK hI (hE12 HB.size y) rfl (lc91 hN) (kc91 hk0)) rfl hl.1 hI.2.2 rfl (Nat.le_of_ble_eq_true rfl) dX12_outcome_2 ⟨Nat.le_of_ble_eq_true rfl, Nat.le_of_ble_eq_true rfl⟩ rfl rfl rfl (fun H locs hB hlo => ?_)
  have hI := hB.re hlo
  refine lv_if_eq (tgt := 30) hx hb dX12_outcome_5 (by decide) (fun hc => ?_) (fun hc => ?_)
  · replace h := ite_t hc h
    refine lv_iconst (v := 0) hx hb dX12_outcome_30 (by decide) ?_
    have hq := Option.some.inj h
    exact W.zret (v := 0) (ty := .boolean) hx hb hr rfl (fun t ht hW => qc_mk (congrArg (fun z => Outcome.returned (some (Value.int z.1))) hq) (by rw [ht]; exact ⟨σ, hI.nil, e44.trans (congrArg (fun z => z.2) hq), fr⟩)) hI.2.2 dX12_outcome_31 hlocks
  · replace h := ite_f hc h
    refine lv_aload_n hx hb dX12_outcome_8 rfl (lv_at hl 0 rfl) ?_
    refine gt_X12_565 hx hb hts hown hKK hI e44 (lc91 hN) (kc91 hk0) dX12_outcome_9 ?_
    refine lv_iload_n hx hb dX12_outcome_12 rfl (lv_at hl 1 rfl) ?_
    refine lv_ishr hx hb dX12_outcome_13 ?_
    refine lv_iconst (v := 1) hx hb dX12_outcome_14 (by decide) ?_
    refine lv_iand hx hb dX12_outcome_15 ?_
    refine lv_if_eq (tgt := 30) hx hb dX12_outcome_16 (by decide) (fun hc => ?_) (fun hc => ?_)
    · replace h := ite_t hc h
      refine lv_iconst (v := 0) hx hb dX12_outcome_30 (by decide) ?_
      have hq := Option.some.inj h
      exact W.zret (v := 0) (ty := .boolean) hx hb hr rfl (fun t ht hW => qc_mk (congrArg (fun z => Outcome.returned (some (Value.int z.1))) hq) (by rw [ht]; exact ⟨σ, hI.nil, e44.trans (congrArg (fun z => z.2) hq), fr⟩)) hI.2.2 dX12_outcome_31 hlocks
    · replace h := ite_f hc h
      refine lv_iload_n hx hb dX12_outcome_19 rfl (lv_at hl 2 rfl) ?_
      refine lv_iconst (v := (-1)) hx hb dX12_outcome_20 (by decide) ?_
      refine lv_sipush (v := 999) hx hb dX12_outcome_21 (by decide) ?_
      obtain ⟨q_24, hq_24, h⟩ := ob_e h
      refine r_callS (As := [.int v2, .int (-1), .int 999]) (rest := []) hx hb hml hts hown (c_X12_in l HB D y F n κ σ hN v2 (-1) 999  q_24 hq_24) cal_X12_in st_X12_in lm_X12_260 ⟨Nat.le_of_ble_eq_true rfl, Nat.le_of_ble_eq_true rfl⟩ hI.nil hKK rfl hl.1 hI.2.2 rfl (Nat.le_of_ble_eq_true rfl) dX12_outcome_24 ⟨Nat.le_of_ble_eq_true rfl, Nat.le_of_ble_eq_true rfl⟩ rfl rfl rfl (fun H locs hB hlo => ?_)
      have hI := hB.re hlo
      refine lv_if_ne (tgt := 32) hx hb dX12_outcome_27 (by decide) (fun hc => ?_) (fun hc => ?_)
      · replace h := ite_f hc h
        refine lv_aload_n hx hb dX12_outcome_32 rfl (lv_at hl 0 rfl) ?_
        refine gf_X12_257 hx hb hts hown hKK hI hN dX12_outcome_33 ?_
        refine lv_iload_n hx hb dX12_outcome_36 rfl (lv_at hl 1 rfl) ?_
        refine lv_iload_n hx hb dX12_outcome_37 rfl (lv_at hl 2 rfl) ?_
        obtain ⟨hin_, h⟩ := ck_e h
        obtain ⟨G44_38, qq, h⟩ := bn_e h
        refine sa_76 hx hb hKK hI e44 (lc173 hN) (kc173 hk0) hin_ dX12_outcome_38 (fun σ H locs hI ew ho => ?_)
        have e44 := ew.trans qq.symm
        have e24 := (ho 24 (nn rfl)).trans e24
        have fr := frs fr ho (by decide)
        refine lv_iconst (v := 1) hx hb dX12_outcome_39 (by decide) ?_
        have hq := Option.some.inj h
        exact W.zret (v := 1) (ty := .boolean) hx hb hr rfl (fun t ht hW => qc_mk (congrArg (fun z => Outcome.returned (some (Value.int z.1))) hq) (by rw [ht]; exact ⟨σ, hI.nil, e44.trans (congrArg (fun z => z.2) hq), fr⟩)) hI.2.2 dX12_outcome_40 hlocks
      · replace h := ite_t hc h
        refine lv_iconst (v := 0) hx hb dX12_outcome_30 (by decide) ?_
        have hq := Option.some.inj h
        exact W.zret (v := 0) (ty := .boolean) hx hb hr rfl (fun t ht hW => qc_mk (congrArg (fun z => Outcome.returned (some (Value.int z.1))) hq) (by rw [ht]; exact ⟨σ, hI.nil, e44.trans (congrArg (fun z => z.2) hq), fr⟩)) hI.2.2 dX12_outcome_31 hlocks
noncomputable def f_X12_sumOf_l4b (F : Nat)  (k4 : Grp → Int32 → Int32 → Int32 → Option (Int32)) (G44 : Grp) (v1 : Int32) (v2 : Int32) (v3 : Int32) : Option (Int32) :=
  if 16 ≤ v3 then some v2 else if ((v1 >>> (v3 &&& 31)) &&& 1) = 1 then ck v3 16 (bn ((v2 + (G44.1 173 v3.toNatClampNeg))) (fun v2_31 => bn (v3 + 1) (fun v3_32 => k4 G44 v1 v2_31 v3_32))) else bn ((v2 + 0)) (fun v2_31 => bn (v3 + 1) (fun v3_32 => k4 G44 v1 v2_31 v3_32))
noncomputable def f_X12_sumOf_l4 (F : Nat)  (fu : Nat) : Grp → Int32 → Int32 → Int32 → Option (Int32) := Nat.rec (motive := fun _ => Grp → Int32 → Int32 → Int32 → Option (Int32)) (fun _ _ _ _ => none) (fun _ ih => f_X12_sumOf_l4b F  ih) fu
noncomputable def f_X12_sumOf (F : Nat) (G44 : Grp) (v1 : Int32) : Option (Int32) :=
  f_X12_sumOf_l4 F  F G44 v1 0 0
def RM_X12_sumOf : Room := { frames := 0, cells := 0, slots := 0, locals := 0 }
abbrev B_X12_sumOf (HB : Heap) (D : va_G) (y : Nat → ClassId) (n : Nat) (κ : Nat → Nat) (σ : St) (q : Int32) : Heap → Prop := fun H => IV HB D y n n κ σ [] H
set_option maxRecDepth 100000 in
set_option maxHeartbeats 4000000 in
theorem c_X12_sumOf (l : Launch) (HB : Heap) (D : va_G) (y : Nat → ClassId) (F n : Nat) (κ : Nat → Nat) (σ : St) (hN : N0 ≤ n) (v1 : Int32)  (G44 : Grp) (e44 : σ 44 = G44) (q : Int32) (h : f_X12_sumOf F G44 v1 = some q) : MT l HB D y yX12_sumOf cX12_sumOf 4 (some .int) RM_X12_sumOf [.ref (HB.size + 91), .int v1] (IV HB D y n n κ σ []) (some (.int q)) (B_X12_sumOf HB D y n κ σ q) := by
  refine Met.ofW (cc := cX12_sumOf) (maxL := 4) (ret := (some .int)) (by decide) rfl ?_
  intro p e s m args below meth c s₁ BL hml hv
  obtain ⟨rfl, hI, hKK⟩ := hv
  have hx := BL.exec
  have hb := BL.bytes
  have hr := BL.returns
  have hts : ∀ w ∈ gtb, w.before _ s = true := fun w hw => atoms_spec BL.pre w (List.mem_cons_of_mem _ hw)
  have hml : c.maxLocals = 4 := hml
  have hown : s.vm.findClass RX12 = some m.cls := findClass_of_methodNamed BL.named
  have hlocks := BL.notSynchronized
  have hk0 := hI.1.2.2.2.2
  have hl := lv_entry ([.ref (HB.size + 91), .int v1]) (n := 4) (Nat.le_of_ble_eq_true rfl)
  rw [lg_entry_eq]
  generalize (lg_sl ([.ref (HB.size + 91), .int v1]) ++ List.replicate (4 - (lg_sl ([.ref (HB.size + 91), .int v1])).length) Slot.unset).toArray = ls at hl ⊢
  have hl : lv_has ls 4 [(0, .ref (HB.size + 91)), (1, .int v1)] := hl
  generalize hargs : ([.ref (HB.size + 91), .int v1] : List Value).toArray = args at *
  have b4 : ∀ (fu : Nat) (H : Heap) (locs : List Loc) (ls : Array Slot) (G44 : Grp) (v1 : Int32) (v2 : Int32) (v3 : Int32) , IV HB D y n n κ σ locs H → σ 44 = G44 → lv_has ls 4 [(0, .ref (HB.size + 91)), (1, .int v1), (2, .int v2), (3, .int v3)] → f_X12_sumOf_l4 F  fu G44 v1 v2 v3 = some q → WX RM_X12_sumOf p l e s m args below meth c HB (some (.int q)) (B_X12_sumOf HB D y n κ σ q) H locs (F0 m 4 ls []) := by
    intro  fu
    induction fu with
    | zero =>
      intro H locs ls G44 v1 v2 v3 hI e44 hl h
      exact absurd h (by intro h; cases h)
    | succ fu hk4 =>
      intro H locs ls G44 v1 v2 v3 hI e44 hl h
      have h : f_X12_sumOf_l4b F  (f_X12_sumOf_l4 F  fu) G44 v1 v2 v3 = some q := h
      generalize f_X12_sumOf_l4 F  fu = k4 at h hk4
      unfold f_X12_sumOf_l4b at h
      refine lv_iload_n hx hb dX12_sumOf_4 rfl (lv_at hl 3 rfl) ?_
      refine lv_bipush (v := 16) hx hb dX12_sumOf_5 (by decide) ?_
      refine lv_icmp_ge (tgt := 38) hx hb dX12_sumOf_7 (by decide) (fun hc => ?_) (fun hc => ?_)
      · replace h := ite_t hc h
        refine lv_iload_n hx hb dX12_sumOf_38 rfl (lv_at hl 2 rfl) ?_
        have hq := Option.some.inj h
        exact W.iret (v := v2) hx hb hr (fun t ht hW => qc_mk (congrArg (fun z => Outcome.returned (some (Value.int z))) hq) (by rw [ht]; exact hI.nil)) hI.2.2 dX12_sumOf_39 hlocks
      · replace h := ite_f hc h
        refine lv_iload_n hx hb dX12_sumOf_10 rfl (lv_at hl 2 rfl) ?_
        refine lv_iload_n hx hb dX12_sumOf_11 rfl (lv_at hl 1 rfl) ?_
        refine lv_iload_n hx hb dX12_sumOf_12 rfl (lv_at hl 3 rfl) ?_
        refine lv_ishr hx hb dX12_sumOf_13 ?_
        refine lv_iconst (v := 1) hx hb dX12_sumOf_14 (by decide) ?_
        refine lv_iand hx hb dX12_sumOf_15 ?_
        refine lv_iconst (v := 1) hx hb dX12_sumOf_16 (by decide) ?_
        refine lv_icmp_ne (tgt := 29) hx hb dX12_sumOf_17 (by decide) (fun hc => ?_) (fun hc => ?_)
        · replace h := ite_f hc h
          refine lv_iconst (v := 0) hx hb dX12_sumOf_29 (by decide) ?_
          refine lv_iadd hx hb dX12_sumOf_30 ?_
          obtain ⟨v2_31, qq, h⟩ := bn_e h
          refine topi qq ?_
          refine lv_istore_n (lv' := [(2, .int v2_31), (0, .ref (HB.size + 91)), (1, .int v1), (3, .int v3)]) hx hb dX12_sumOf_31 rfl hl (by decide) rfl (fun ls hl => ?_)
          obtain ⟨v3_32, qq, h⟩ := bn_e h
          refine lv_iinc (v := v3_32) (lv' := [(3, .int v3_32), (2, .int v2_31), (0, .ref (HB.size + 91)), (1, .int v1)]) hx hb dX12_sumOf_32 hl (k := 3) rfl (by rw [qq]; rfl) (by decide) rfl (fun ls hl => ?_)
          refine lv_goto (tgt := 4) hx hb dX12_sumOf_35 (by decide) ?_
          exact hk4 H locs ls G44 v1 v2_31 v3_32  hI e44 (lv_sub hl [2, 3, 1, 0] rfl) h
        · replace h := ite_t hc h
          refine lv_aload_n hx hb dX12_sumOf_20 rfl (lv_at hl 0 rfl) ?_
          refine gf_X12_257 hx hb hts hown hKK hI hN dX12_sumOf_21 ?_
          refine lv_iload_n hx hb dX12_sumOf_24 rfl (lv_at hl 3 rfl) ?_
          obtain ⟨hin_, h⟩ := ck_e h
          refine la_76 hx hb hKK hI e44 (lc173 hN) (kc173 hk0) hin_ dX12_sumOf_25 ?_
          refine lv_goto (tgt := 30) hx hb dX12_sumOf_26 (by decide) ?_
          refine lv_iadd hx hb dX12_sumOf_30 ?_
          obtain ⟨v2_31, qq, h⟩ := bn_e h
          refine topi qq ?_
          refine lv_istore_n (lv' := [(2, .int v2_31), (0, .ref (HB.size + 91)), (1, .int v1), (3, .int v3)]) hx hb dX12_sumOf_31 rfl hl (by decide) rfl (fun ls hl => ?_)
          obtain ⟨v3_32, qq, h⟩ := bn_e h
          refine lv_iinc (v := v3_32) (lv' := [(3, .int v3_32), (2, .int v2_31), (0, .ref (HB.size + 91)), (1, .int v1)]) hx hb dX12_sumOf_32 hl (k := 3) rfl (by rw [qq]; rfl) (by decide) rfl (fun ls hl => ?_)
          refine lv_goto (tgt := 4) hx hb dX12_sumOf_35 (by decide) ?_
          exact hk4 H locs ls G44 v1 v2_31 v3_32  hI e44 (lv_sub hl [2, 3, 1, 0] rfl) h
  show WX RM_X12_sumOf p l e s m args below meth c HB (some (.int q)) (B_X12_sumOf HB D y n κ σ q) s.heap [] (F0 m 0 ls [])
  generalize s.heap = H at hI ⊢
  unfold f_X12_sumOf at h
  obtain ⟨locs, hlocs⟩ : ∃ x : List Loc, x = [] := ⟨_, rfl⟩
  rw [← hlocs] at hI ⊢
  refine lv_iconst (v := 0) hx hb dX12_sumOf_0 (by decide) ?_
  refine lv_istore_n (lv' := [(2, .int 0), (0, .ref (HB.size + 91)), (1, .int v1)]) hx hb dX12_sumOf_1 rfl hl (by decide) rfl (fun ls hl => ?_)
  refine lv_iconst (v := 0) hx hb dX12_sumOf_2 (by decide) ?_
  refine lv_istore_n (lv' := [(3, .int 0), (2, .int 0), (0, .ref (HB.size + 91)), (1, .int v1)]) hx hb dX12_sumOf_3 rfl hl (by decide) rfl (fun ls hl => ?_)
  exact b4  F H locs ls G44 v1 0 0  hI e44 (lv_sub hl [2, 3, 1, 0] rfl) h
noncomputable def f_X12_draws_l76b (F : Nat)  (k76 : Grp → Int32 → Int32 → Int32 → Int32 → Option (Grp)) (G44 : Grp) (v1 : Int32) (v3 : Int32) (v4 : Int32) (v5 : Int32) : Option (Grp) :=
  if v1 < v5 then some G44 else if (v5 &&& (v1 ^^^ (-1))) = 0 then ob (f_X12_bits F v5) (fun q_93 => if q_93 = v3 then bn (gI G44 91 112 ((G44.1 91 112) + 1)) (fun G44_110 => ob (f_X12_sumOf F G44_110 v5) (fun q_116 => if q_116 < v4 then bn (v5 + 1) (fun v5_134 => k76 G44_110 v1 v3 v4 v5_134) else bn (gI G44_110 91 113 ((G44_110.1 91 113) + 1)) (fun G44_131 => bn (v5 + 1) (fun v5_134 => k76 G44_131 v1 v3 v4 v5_134)))) else bn (v5 + 1) (fun v5_134 => k76 G44 v1 v3 v4 v5_134)) else bn (v5 + 1) (fun v5_134 => k76 G44 v1 v3 v4 v5_134)
noncomputable def f_X12_draws_l76 (F : Nat)  (fu : Nat) : Grp → Int32 → Int32 → Int32 → Int32 → Option (Grp) := Nat.rec (motive := fun _ => Grp → Int32 → Int32 → Int32 → Int32 → Option (Grp)) (fun _ _ _ _ _ => none) (fun _ ih => f_X12_draws_l76b F  ih) fu
noncomputable def f_X12_draws_l4b (F : Nat)  (k4 : Grp → Int32 → Int32 → Option (Grp)) (G44 : Grp) (v1 : Int32) (v2 : Int32) : Option (Grp) :=
  if 16 ≤ v2 then bn (((G44.1 91 110) &&& v1)) (fun v2_50 => ob (f_X12_bits F v2_50) (fun q_52 => ob (f_X12_sumOf F G44 v2_50) (fun q_58 => bn (gI G44 91 112 0) (fun G44_65 => bn (gI G44_65 91 113 0) (fun G44_70 => f_X12_draws_l76 F  F G44_70 v1 q_52 q_58 0))))) else if (((G44.1 91 109) >>> (v2 &&& 31)) &&& 1) = 1 then ck v2 16 (if (G44.1 173 v2.toNatClampNeg) = (-1) then bn (v2 + 1) (fun v2_38 => k4 G44 v1 v2_38) else bn ((v1 ||| (1 <<< (v2 &&& 31)))) (fun v1_37 => bn (v2 + 1) (fun v2_38 => k4 G44 v1_37 v2_38))) else bn (v2 + 1) (fun v2_38 => k4 G44 v1 v2_38)
noncomputable def f_X12_draws_l4 (F : Nat)  (fu : Nat) : Grp → Int32 → Int32 → Option (Grp) := Nat.rec (motive := fun _ => Grp → Int32 → Int32 → Option (Grp)) (fun _ _ _ => none) (fun _ ih => f_X12_draws_l4b F  ih) fu
noncomputable def f_X12_draws (F : Nat) (G44 : Grp)  : Option (Grp) :=
  f_X12_draws_l4 F  F G44 0 0
def RM_X12_draws : Room := { frames := 1, cells := 0, slots := 0, locals := 23 }
abbrev W_X12_draws : List Nat := [44]
abbrev B_X12_draws (HB : Heap) (D : va_G) (y : Nat → ClassId) (n : Nat) (κ : Nat → Nat) (σ0 : St) (q : Grp) : Heap → Prop := fun H => ∃ σ : St, IV HB D y n n κ σ [] H ∧ σ 44 = q ∧ ∀ j, j ∉ W_X12_draws → σ j = σ0 j
set_option maxRecDepth 100000 in
set_option maxHeartbeats 4000000 in
theorem c_X12_draws (l : Launch) (HB : Heap) (D : va_G) (y : Nat → ClassId) (F n : Nat) (κ : Nat → Nat) (σ0 : St) (hN : N0 ≤ n)  (G44 : Grp) (e44 : σ0 44 = G44) (q : Grp) (h : f_X12_draws F G44 = some q) : MT l HB D y yX12_draws cX12_draws 6 none RM_X12_draws [.ref (HB.size + 91)] (IV HB D y n n κ σ0 []) none (B_X12_draws HB D y n κ σ0 q) := by
  refine Met.ofW (cc := cX12_draws) (maxL := 6) (ret := none) (by decide) rfl ?_
  intro p e s m args below meth c s₁ BL hml hv
  obtain ⟨rfl, hI, hKK⟩ := hv
  have hx := BL.exec
  have hb := BL.bytes
  have hr := BL.returns
  have hts : ∀ w ∈ gtb, w.before _ s = true := fun w hw => atoms_spec BL.pre w (List.mem_cons_of_mem _ hw)
  have hml : c.maxLocals = 6 := hml
  have hown : s.vm.findClass RX12 = some m.cls := findClass_of_methodNamed BL.named
  have hlocks := BL.notSynchronized
  have hk0 := hI.1.2.2.2.2
  have hl := lv_entry ([.ref (HB.size + 91)]) (n := 6) (Nat.le_of_ble_eq_true rfl)
  rw [lg_entry_eq]
  generalize (lg_sl ([.ref (HB.size + 91)]) ++ List.replicate (6 - (lg_sl ([.ref (HB.size + 91)])).length) Slot.unset).toArray = ls at hl ⊢
  have hl : lv_has ls 6 [(0, .ref (HB.size + 91))] := hl
  generalize hargs : ([.ref (HB.size + 91)] : List Value).toArray = args at *
  have b76 : ∀ (fu : Nat) (σ : St) (H : Heap) (locs : List Loc) (ls : Array Slot) (G44 : Grp) (v1 : Int32) (v3 : Int32) (v4 : Int32) (v5 : Int32) , IV HB D y n n κ σ locs H → σ 44 = G44 → (∀ j, j ∉ W_X12_draws → σ j = σ0 j) → lv_has ls 6 [(0, .ref (HB.size + 91)), (1, .int v1), (3, .int v3), (4, .int v4), (5, .int v5)] → f_X12_draws_l76 F  fu G44 v1 v3 v4 v5 = some q → WX RM_X12_draws p l e s m args below meth c HB none (B_X12_draws HB D y n κ σ0 q) H locs (F0 m 76 ls []) := by
    intro  fu
    induction fu with
    | zero =>
      intro σ H locs ls G44 v1 v3 v4 v5 hI e44 fr hl h
      exact absurd h (by intro h; cases h)
    | succ fu hk76 =>
      intro σ H locs ls G44 v1 v3 v4 v5 hI e44 fr hl h
      have h : f_X12_draws_l76b F  (f_X12_draws_l76 F  fu) G44 v1 v3 v4 v5 = some q := h
      generalize f_X12_draws_l76 F  fu = k76 at h hk76
      unfold f_X12_draws_l76b at h
      refine lv_iload hx hb dX12_draws_76 (lv_at hl 4 rfl) ?_
      refine lv_iload_n hx hb dX12_draws_78 rfl (lv_at hl 1 rfl) ?_
      refine lv_icmp_gt (tgt := 140) hx hb dX12_draws_79 (by decide) (fun hc => ?_) (fun hc => ?_)
      · replace h := ite_t hc h
        have hq := Option.some.inj h
        exact W.vret hx hb hr (fun t ht hW => qc_mk (rfl) (by rw [ht]; exact ⟨σ, hI.nil, e44.trans (congrArg (fun z => z) hq), fr⟩)) hI.2.2 dX12_draws_140 hlocks
      · replace h := ite_f hc h
        refine lv_iload hx hb dX12_draws_82 (lv_at hl 4 rfl) ?_
        refine lv_iload_n hx hb dX12_draws_84 rfl (lv_at hl 1 rfl) ?_
        refine lv_iconst (v := (-1)) hx hb dX12_draws_85 (by decide) ?_
        refine lv_ixor hx hb dX12_draws_86 ?_
        refine lv_iand hx hb dX12_draws_87 ?_
        refine lv_if_ne (tgt := 134) hx hb dX12_draws_88 (by decide) (fun hc => ?_) (fun hc => ?_)
        · replace h := ite_f hc h
          obtain ⟨v5_134, qq, h⟩ := bn_e h
          refine lv_iinc (v := v5_134) (lv' := [(5, .int v5_134), (0, .ref (HB.size + 91)), (1, .int v1), (3, .int v3), (4, .int v4)]) hx hb dX12_draws_134 hl (k := 4) rfl (by rw [qq]; rfl) (by decide) rfl (fun ls hl => ?_)
          refine lv_goto (tgt := 76) hx hb dX12_draws_137 (by decide) ?_
          exact hk76 σ H locs ls G44 v1 v3 v4 v5_134  hI e44 fr (lv_sub hl [1, 2, 3, 4, 0] rfl) h
        · replace h := ite_t hc h
          refine lv_iload hx hb dX12_draws_91 (lv_at hl 4 rfl) ?_
          obtain ⟨q_93, hq_93, h⟩ := ob_e h
          refine r_callS (As := [.int v5]) (rest := []) hx hb hml hts hown (c_X12_bits l HB D y F n κ σ hN v5  q_93 hq_93) cal_X12_bits st_X12_bits lm_X12_464 ⟨Nat.le_of_ble_eq_true rfl, Nat.le_of_ble_eq_true rfl⟩ hI.nil hKK rfl hl.1 hI.2.2 rfl (Nat.le_of_ble_eq_true rfl) dX12_draws_93 ⟨Nat.le_of_ble_eq_true rfl, Nat.le_of_ble_eq_true rfl⟩ rfl rfl rfl (fun H locs hB hlo => ?_)
          have hI := hB.re hlo
          refine lv_iload_n hx hb dX12_draws_96 rfl (lv_at hl 2 rfl) ?_
          refine lv_icmp_eq (tgt := 103) hx hb dX12_draws_97 (by decide) (fun hc => ?_) (fun hc => ?_)
          · replace h := ite_t hc h
            refine lv_aload_n hx hb dX12_draws_103 rfl (lv_at hl 0 rfl) ?_
            refine lv_aload_n hx hb dX12_draws_104 rfl (lv_at hl 0 rfl) ?_
            refine gt_X12_574 hx hb hts hown hKK hI e44 (lc91 hN) (kc91 hk0) dX12_draws_105 ?_
            refine lv_iconst (v := 1) hx hb dX12_draws_108 (by decide) ?_
            refine lv_iadd hx hb dX12_draws_109 ?_
            obtain ⟨G44_110, qq, h⟩ := bn_e h
            refine pt_X12_574 hx hb hts hown hKK hI e44 (lc91 hN) (kc91 hk0) dX12_draws_110 (fun σ H locs hI ew ho => ?_)
            have e44 := ew.trans qq.symm
            have fr := frs fr ho (by decide)
            refine lv_aload_n hx hb dX12_draws_113 rfl (lv_at hl 0 rfl) ?_
            refine lv_iload hx hb dX12_draws_114 (lv_at hl 4 rfl) ?_
            obtain ⟨q_116, hq_116, h⟩ := ob_e h
            refine r_callV (As := [.int v5]) (rest := []) hx hb hml hts hown (c_X12_sumOf l HB D y F n κ σ hN v5 G44_110 e44 q_116 hq_116) cal_X12_sumOf im_X12_sumOf se_X12_sumOf lm_X12_571 ⟨Nat.le_of_ble_eq_true rfl, Nat.le_of_ble_eq_true rfl⟩ hI.nil hKK (r_recv hKK hI (hE12 HB.size y) rfl (lc91 hN) (kc91 hk0)) rfl hl.1 hI.2.2 rfl (Nat.le_of_ble_eq_true rfl) dX12_draws_116 ⟨Nat.le_of_ble_eq_true rfl, Nat.le_of_ble_eq_true rfl⟩ rfl rfl rfl (fun H locs hB hlo => ?_)
            have hI := hB.re hlo
            refine lv_iload hx hb dX12_draws_119 (lv_at hl 3 rfl) ?_
            refine lv_icmp_lt (tgt := 134) hx hb dX12_draws_121 (by decide) (fun hc => ?_) (fun hc => ?_)
            · replace h := ite_t hc h
              obtain ⟨v5_134, qq, h⟩ := bn_e h
              refine lv_iinc (v := v5_134) (lv' := [(5, .int v5_134), (0, .ref (HB.size + 91)), (1, .int v1), (3, .int v3), (4, .int v4)]) hx hb dX12_draws_134 hl (k := 4) rfl (by rw [qq]; rfl) (by decide) rfl (fun ls hl => ?_)
              refine lv_goto (tgt := 76) hx hb dX12_draws_137 (by decide) ?_
              exact hk76 σ H locs ls G44_110 v1 v3 v4 v5_134  hI e44 fr (lv_sub hl [1, 2, 3, 4, 0] rfl) h
            · replace h := ite_f hc h
              refine lv_aload_n hx hb dX12_draws_124 rfl (lv_at hl 0 rfl) ?_
              refine lv_aload_n hx hb dX12_draws_125 rfl (lv_at hl 0 rfl) ?_
              refine gt_X12_577 hx hb hts hown hKK hI e44 (lc91 hN) (kc91 hk0) dX12_draws_126 ?_
              refine lv_iconst (v := 1) hx hb dX12_draws_129 (by decide) ?_
              refine lv_iadd hx hb dX12_draws_130 ?_
              obtain ⟨G44_131, qq, h⟩ := bn_e h
              refine pt_X12_577 hx hb hts hown hKK hI e44 (lc91 hN) (kc91 hk0) dX12_draws_131 (fun σ H locs hI ew ho => ?_)
              have e44 := ew.trans qq.symm
              have fr := frs fr ho (by decide)
              obtain ⟨v5_134, qq, h⟩ := bn_e h
              refine lv_iinc (v := v5_134) (lv' := [(5, .int v5_134), (0, .ref (HB.size + 91)), (1, .int v1), (3, .int v3), (4, .int v4)]) hx hb dX12_draws_134 hl (k := 4) rfl (by rw [qq]; rfl) (by decide) rfl (fun ls hl => ?_)
              refine lv_goto (tgt := 76) hx hb dX12_draws_137 (by decide) ?_
              exact hk76 σ H locs ls G44_131 v1 v3 v4 v5_134  hI e44 fr (lv_sub hl [1, 2, 3, 4, 0] rfl) h
          · replace h := ite_f hc h
            refine lv_goto (tgt := 134) hx hb dX12_draws_100 (by decide) ?_
            obtain ⟨v5_134, qq, h⟩ := bn_e h
            refine lv_iinc (v := v5_134) (lv' := [(5, .int v5_134), (0, .ref (HB.size + 91)), (1, .int v1), (3, .int v3), (4, .int v4)]) hx hb dX12_draws_134 hl (k := 4) rfl (by rw [qq]; rfl) (by decide) rfl (fun ls hl => ?_)
            refine lv_goto (tgt := 76) hx hb dX12_draws_137 (by decide) ?_
            exact hk76 σ H locs ls G44 v1 v3 v4 v5_134  hI e44 fr (lv_sub hl [1, 2, 3, 4, 0] rfl) h
  have b4 : ∀ (fu : Nat) (σ : St) (H : Heap) (locs : List Loc) (ls : Array Slot) (G44 : Grp) (v1 : Int32) (v2 : Int32) , IV HB D y n n κ σ locs H → σ 44 = G44 → (∀ j, j ∉ W_X12_draws → σ j = σ0 j) → lv_has ls 6 [(0, .ref (HB.size + 91)), (1, .int v1), (2, .int v2)] → f_X12_draws_l4 F  fu G44 v1 v2 = some q → WX RM_X12_draws p l e s m args below meth c HB none (B_X12_draws HB D y n κ σ0 q) H locs (F0 m 4 ls []) := by
    intro  fu
    induction fu with
    | zero =>
      intro σ H locs ls G44 v1 v2 hI e44 fr hl h
      exact absurd h (by intro h; cases h)
    | succ fu hk4 =>
      intro σ H locs ls G44 v1 v2 hI e44 fr hl h
      have h : f_X12_draws_l4b F  (f_X12_draws_l4 F  fu) G44 v1 v2 = some q := h
      generalize f_X12_draws_l4 F  fu = k4 at h hk4
      unfold f_X12_draws_l4b at h
      refine lv_iload_n hx hb dX12_draws_4 rfl (lv_at hl 2 rfl) ?_
      refine lv_bipush (v := 16) hx hb dX12_draws_5 (by decide) ?_
      refine lv_icmp_ge (tgt := 44) hx hb dX12_draws_7 (by decide) (fun hc => ?_) (fun hc => ?_)
      · replace h := ite_t hc h
        refine lv_aload_n hx hb dX12_draws_44 rfl (lv_at hl 0 rfl) ?_
        refine gt_X12_568 hx hb hts hown hKK hI e44 (lc91 hN) (kc91 hk0) dX12_draws_45 ?_
        refine lv_iload_n hx hb dX12_draws_48 rfl (lv_at hl 1 rfl) ?_
        refine lv_iand hx hb dX12_draws_49 ?_
        obtain ⟨v2_50, qq, h⟩ := bn_e h
        refine topi qq ?_
        refine lv_istore_n (lv' := [(2, .int v2_50), (0, .ref (HB.size + 91)), (1, .int v1)]) hx hb dX12_draws_50 rfl hl (by decide) rfl (fun ls hl => ?_)
        refine lv_iload_n hx hb dX12_draws_51 rfl (lv_at hl 0 rfl) ?_
        obtain ⟨q_52, hq_52, h⟩ := ob_e h
        refine r_callS (As := [.int v2_50]) (rest := []) hx hb hml hts hown (c_X12_bits l HB D y F n κ σ hN v2_50  q_52 hq_52) cal_X12_bits st_X12_bits lm_X12_464 ⟨Nat.le_of_ble_eq_true rfl, Nat.le_of_ble_eq_true rfl⟩ hI.nil hKK rfl hl.1 hI.2.2 rfl (Nat.le_of_ble_eq_true rfl) dX12_draws_52 ⟨Nat.le_of_ble_eq_true rfl, Nat.le_of_ble_eq_true rfl⟩ rfl rfl rfl (fun H locs hB hlo => ?_)
        have hI := hB.re hlo
        refine lv_istore_n (lv' := [(3, .int q_52), (2, .int v2_50), (0, .ref (HB.size + 91)), (1, .int v1)]) hx hb dX12_draws_55 rfl hl (by decide) rfl (fun ls hl => ?_)
        refine lv_aload_n hx hb dX12_draws_56 rfl (lv_at hl 2 rfl) ?_
        refine lv_iload_n hx hb dX12_draws_57 rfl (lv_at hl 1 rfl) ?_
        obtain ⟨q_58, hq_58, h⟩ := ob_e h
        refine r_callV (As := [.int v2_50]) (rest := []) hx hb hml hts hown (c_X12_sumOf l HB D y F n κ σ hN v2_50 G44 e44 q_58 hq_58) cal_X12_sumOf im_X12_sumOf se_X12_sumOf lm_X12_571 ⟨Nat.le_of_ble_eq_true rfl, Nat.le_of_ble_eq_true rfl⟩ hI.nil hKK (r_recv hKK hI (hE12 HB.size y) rfl (lc91 hN) (kc91 hk0)) rfl hl.1 hI.2.2 rfl (Nat.le_of_ble_eq_true rfl) dX12_draws_58 ⟨Nat.le_of_ble_eq_true rfl, Nat.le_of_ble_eq_true rfl⟩ rfl rfl rfl (fun H locs hB hlo => ?_)
        have hI := hB.re hlo
        refine lv_istore (lv' := [(4, .int q_58), (3, .int q_52), (2, .int v2_50), (0, .ref (HB.size + 91)), (1, .int v1)]) hx hb dX12_draws_61 hl (by decide) rfl (fun ls hl => ?_)
        refine lv_aload_n hx hb dX12_draws_63 rfl (lv_at hl 3 rfl) ?_
        refine lv_iconst (v := 0) hx hb dX12_draws_64 (by decide) ?_
        obtain ⟨G44_65, qq, h⟩ := bn_e h
        refine pt_X12_574 hx hb hts hown hKK hI e44 (lc91 hN) (kc91 hk0) dX12_draws_65 (fun σ H locs hI ew ho => ?_)
        have e44 := ew.trans qq.symm
        have fr := frs fr ho (by decide)
        refine lv_aload_n hx hb dX12_draws_68 rfl (lv_at hl 3 rfl) ?_
        refine lv_iconst (v := 0) hx hb dX12_draws_69 (by decide) ?_
        obtain ⟨G44_70, qq, h⟩ := bn_e h
        refine pt_X12_577 hx hb hts hown hKK hI e44 (lc91 hN) (kc91 hk0) dX12_draws_70 (fun σ H locs hI ew ho => ?_)
        have e44 := ew.trans qq.symm
        have fr := frs fr ho (by decide)
        refine lv_iconst (v := 0) hx hb dX12_draws_73 (by decide) ?_
        refine lv_istore (lv' := [(5, .int 0), (4, .int q_58), (3, .int q_52), (2, .int v2_50), (0, .ref (HB.size + 91)), (1, .int v1)]) hx hb dX12_draws_74 hl (by decide) rfl (fun ls hl => ?_)
        exact b76  F σ H locs ls G44_70 v1 q_52 q_58 0  hI e44 fr (lv_sub hl [4, 5, 2, 1, 0] rfl) h
      · replace h := ite_f hc h
        refine lv_aload_n hx hb dX12_draws_10 rfl (lv_at hl 0 rfl) ?_
        refine gt_X12_565 hx hb hts hown hKK hI e44 (lc91 hN) (kc91 hk0) dX12_draws_11 ?_
        refine lv_iload_n hx hb dX12_draws_14 rfl (lv_at hl 2 rfl) ?_
        refine lv_ishr hx hb dX12_draws_15 ?_
        refine lv_iconst (v := 1) hx hb dX12_draws_16 (by decide) ?_
        refine lv_iand hx hb dX12_draws_17 ?_
        refine lv_iconst (v := 1) hx hb dX12_draws_18 (by decide) ?_
        refine lv_icmp_ne (tgt := 38) hx hb dX12_draws_19 (by decide) (fun hc => ?_) (fun hc => ?_)
        · replace h := ite_f hc h
          obtain ⟨v2_38, qq, h⟩ := bn_e h
          refine lv_iinc (v := v2_38) (lv' := [(2, .int v2_38), (0, .ref (HB.size + 91)), (1, .int v1)]) hx hb dX12_draws_38 hl (k := 2) rfl (by rw [qq]; rfl) (by decide) rfl (fun ls hl => ?_)
          refine lv_goto (tgt := 4) hx hb dX12_draws_41 (by decide) ?_
          exact hk4 σ H locs ls G44 v1 v2_38  hI e44 fr (lv_sub hl [1, 2, 0] rfl) h
        · replace h := ite_t hc h
          refine lv_aload_n hx hb dX12_draws_22 rfl (lv_at hl 0 rfl) ?_
          refine gf_X12_257 hx hb hts hown hKK hI hN dX12_draws_23 ?_
          refine lv_iload_n hx hb dX12_draws_26 rfl (lv_at hl 2 rfl) ?_
          obtain ⟨hin_, h⟩ := ck_e h
          refine la_76 hx hb hKK hI e44 (lc173 hN) (kc173 hk0) hin_ dX12_draws_27 ?_
          refine lv_iconst (v := (-1)) hx hb dX12_draws_28 (by decide) ?_
          refine lv_icmp_eq (tgt := 38) hx hb dX12_draws_29 (by decide) (fun hc => ?_) (fun hc => ?_)
          · replace h := ite_t hc h
            obtain ⟨v2_38, qq, h⟩ := bn_e h
            refine lv_iinc (v := v2_38) (lv' := [(2, .int v2_38), (0, .ref (HB.size + 91)), (1, .int v1)]) hx hb dX12_draws_38 hl (k := 2) rfl (by rw [qq]; rfl) (by decide) rfl (fun ls hl => ?_)
            refine lv_goto (tgt := 4) hx hb dX12_draws_41 (by decide) ?_
            exact hk4 σ H locs ls G44 v1 v2_38  hI e44 fr (lv_sub hl [1, 2, 0] rfl) h
          · replace h := ite_f hc h
            refine lv_iload_n hx hb dX12_draws_32 rfl (lv_at hl 1 rfl) ?_
            refine lv_iconst (v := 1) hx hb dX12_draws_33 (by decide) ?_
            refine lv_iload_n hx hb dX12_draws_34 rfl (lv_at hl 2 rfl) ?_
            refine lv_ishl hx hb dX12_draws_35 ?_
            refine lv_ior hx hb dX12_draws_36 ?_
            obtain ⟨v1_37, qq, h⟩ := bn_e h
            refine topi qq ?_
            refine lv_istore_n (lv' := [(1, .int v1_37), (0, .ref (HB.size + 91)), (2, .int v2)]) hx hb dX12_draws_37 rfl hl (by decide) rfl (fun ls hl => ?_)
            obtain ⟨v2_38, qq, h⟩ := bn_e h
            refine lv_iinc (v := v2_38) (lv' := [(2, .int v2_38), (1, .int v1_37), (0, .ref (HB.size + 91))]) hx hb dX12_draws_38 hl (k := 2) rfl (by rw [qq]; rfl) (by decide) rfl (fun ls hl => ?_)
            refine lv_goto (tgt := 4) hx hb dX12_draws_41 (by decide) ?_
            exact hk4 σ H locs ls G44 v1_37 v2_38  hI e44 fr (lv_sub hl [2, 1, 0] rfl) h
  obtain ⟨σ, hI, e44, fr⟩ : ∃ σ : St, IV HB D y n n κ σ [] s.heap ∧ σ 44 = G44 ∧ ∀ j, j ∉ W_X12_draws → σ j = σ0 j := ⟨σ0, hI, e44, fun _ _ => rfl⟩
  show WX RM_X12_draws p l e s m args below meth c HB none (B_X12_draws HB D y n κ σ0 q) s.heap [] (F0 m 0 ls [])
  generalize s.heap = H at hI ⊢
  unfold f_X12_draws at h
  obtain ⟨locs, hlocs⟩ : ∃ x : List Loc, x = [] := ⟨_, rfl⟩
  rw [← hlocs] at hI ⊢
  refine lv_iconst (v := 0) hx hb dX12_draws_0 (by decide) ?_
  refine lv_istore_n (lv' := [(1, .int 0), (0, .ref (HB.size + 91))]) hx hb dX12_draws_1 rfl hl (by decide) rfl (fun ls hl => ?_)
  refine lv_iconst (v := 0) hx hb dX12_draws_2 (by decide) ?_
  refine lv_istore_n (lv' := [(2, .int 0), (1, .int 0), (0, .ref (HB.size + 91))]) hx hb dX12_draws_3 rfl hl (by decide) rfl (fun ls hl => ?_)
  exact b4  F σ H locs ls G44 0 0  hI e44 fr (lv_sub hl [2, 1, 0] rfl) h
noncomputable def f_X12_doubt (F : Nat) (G44 : Grp) (v1 : Int32) : Option (Int32 × Grp) :=
  ob (f_X12_draws F G44) (fun q_1 => if v1 = 0 then some ((q_1.1 91 113), q_1) else if v1 = 1 then some ((q_1.1 91 112), q_1) else if v1 = 2 then if (q_1.1 91 112) < (20 * (q_1.1 91 113)) then some (0, q_1) else some (1, q_1) else some ((-1), q_1))
def RM_X12_doubt : Room := { frames := 2, cells := 0, slots := 0, locals := 48 }
abbrev W_X12_doubt : List Nat := [44]
abbrev B_X12_doubt (HB : Heap) (D : va_G) (y : Nat → ClassId) (n : Nat) (κ : Nat → Nat) (σ0 : St) (q : Int32 × Grp) : Heap → Prop := fun H => ∃ σ : St, IV HB D y n n κ σ [] H ∧ σ 44 = q.2 ∧ ∀ j, j ∉ W_X12_doubt → σ j = σ0 j
set_option maxRecDepth 100000 in
set_option maxHeartbeats 4000000 in
theorem c_X12_doubt (l : Launch) (HB : Heap) (D : va_G) (y : Nat → ClassId) (F n : Nat) (κ : Nat → Nat) (σ0 : St) (hN : N0 ≤ n) (v1 : Int32)  (G44 : Grp) (e44 : σ0 44 = G44) (q : Int32 × Grp) (h : f_X12_doubt F G44 v1 = some q) : MT l HB D y yX12_doubt cX12_doubt 2 (some .int) RM_X12_doubt [.ref (HB.size + 91), .int v1] (IV HB D y n n κ σ0 []) (some (.int q.1)) (B_X12_doubt HB D y n κ σ0 q) := by
  refine Met.ofW (cc := cX12_doubt) (maxL := 2) (ret := (some .int)) (by decide) rfl ?_
  intro p e s m args below meth c s₁ BL hml hv
  obtain ⟨rfl, hI, hKK⟩ := hv
  have hx := BL.exec
  have hb := BL.bytes
  have hr := BL.returns
  have hts : ∀ w ∈ gtb, w.before _ s = true := fun w hw => atoms_spec BL.pre w (List.mem_cons_of_mem _ hw)
  have hml : c.maxLocals = 2 := hml
  have hown : s.vm.findClass RX12 = some m.cls := findClass_of_methodNamed BL.named
  have hlocks := BL.notSynchronized
  have hk0 := hI.1.2.2.2.2
  have hl := lv_entry ([.ref (HB.size + 91), .int v1]) (n := 2) (Nat.le_of_ble_eq_true rfl)
  rw [lg_entry_eq]
  generalize (lg_sl ([.ref (HB.size + 91), .int v1]) ++ List.replicate (2 - (lg_sl ([.ref (HB.size + 91), .int v1])).length) Slot.unset).toArray = ls at hl ⊢
  have hl : lv_has ls 2 [(0, .ref (HB.size + 91)), (1, .int v1)] := hl
  generalize hargs : ([.ref (HB.size + 91), .int v1] : List Value).toArray = args at *
  obtain ⟨σ, hI, e44, fr⟩ : ∃ σ : St, IV HB D y n n κ σ [] s.heap ∧ σ 44 = G44 ∧ ∀ j, j ∉ W_X12_doubt → σ j = σ0 j := ⟨σ0, hI, e44, fun _ _ => rfl⟩
  show WX RM_X12_doubt p l e s m args below meth c HB (some (.int q.1)) (B_X12_doubt HB D y n κ σ0 q) s.heap [] (F0 m 0 ls [])
  generalize s.heap = H at hI ⊢
  unfold f_X12_doubt at h
  obtain ⟨locs, hlocs⟩ : ∃ x : List Loc, x = [] := ⟨_, rfl⟩
  rw [← hlocs] at hI ⊢
  refine lv_aload_n hx hb dX12_doubt_0 rfl (lv_at hl 0 rfl) ?_
  obtain ⟨q_1, hq_1, h⟩ := ob_e h
  refine r_callV (As := []) (rest := []) hx hb hml hts hown (c_X12_draws l HB D y F n κ σ hN  G44 e44 q_1 hq_1) cal_X12_draws im_X12_draws se_X12_draws lm_X12_580 ⟨Nat.le_of_ble_eq_true rfl, Nat.le_of_ble_eq_true rfl⟩ hI.nil hKK (r_recv hKK hI (hE12 HB.size y) rfl (lc91 hN) (kc91 hk0)) rfl hl.1 hI.2.2 rfl (Nat.le_of_ble_eq_true rfl) dX12_doubt_1 ⟨Nat.le_of_ble_eq_true rfl, Nat.le_of_ble_eq_true rfl⟩ rfl rfl rfl (fun H locs hB hlo => ?_)
  obtain ⟨σ, hB, en44, ho⟩ := hB
  have hI := hB.re hlo
  have e44 := en44
  have fr := frc fr ho (by decide)
  refine lv_iload_n hx hb dX12_doubt_4 rfl (lv_at hl 1 rfl) ?_
  by_cases hc0 : v1 = 0
  · replace h := ite_t hc0 h
    refine lv_tableIn (off := 27) (tgt := 32) hx hb dX12_doubt_5 (by rw [hc0]; decide) (by rw [hc0]; decide) (by rw [hc0]; decide) (by decide) ?_
    refine lv_aload_n hx hb dX12_doubt_32 rfl (lv_at hl 0 rfl) ?_
    refine gt_X12_577 hx hb hts hown hKK hI e44 (lc91 hN) (kc91 hk0) dX12_doubt_33 ?_
    have hq := Option.some.inj h
    exact W.iret (v := (q_1.1 91 113)) hx hb hr (fun t ht hW => qc_mk (congrArg (fun z => Outcome.returned (some (Value.int z.1))) hq) (by rw [ht]; exact ⟨σ, hI.nil, e44.trans (congrArg (fun z => z.2) hq), fr⟩)) hI.2.2 dX12_doubt_36 hlocks
  · replace h := ite_f hc0 h
    by_cases hc1 : v1 = 1
    · replace h := ite_t hc1 h
      refine lv_tableIn (off := 32) (tgt := 37) hx hb dX12_doubt_5 (by rw [hc1]; decide) (by rw [hc1]; decide) (by rw [hc1]; decide) (by decide) ?_
      refine lv_aload_n hx hb dX12_doubt_37 rfl (lv_at hl 0 rfl) ?_
      refine gt_X12_574 hx hb hts hown hKK hI e44 (lc91 hN) (kc91 hk0) dX12_doubt_38 ?_
      have hq := Option.some.inj h
      exact W.iret (v := (q_1.1 91 112)) hx hb hr (fun t ht hW => qc_mk (congrArg (fun z => Outcome.returned (some (Value.int z.1))) hq) (by rw [ht]; exact ⟨σ, hI.nil, e44.trans (congrArg (fun z => z.2) hq), fr⟩)) hI.2.2 dX12_doubt_41 hlocks
    · replace h := ite_f hc1 h
      by_cases hc2 : v1 = 2
      · replace h := ite_t hc2 h
        refine lv_tableIn (off := 37) (tgt := 42) hx hb dX12_doubt_5 (by rw [hc2]; decide) (by rw [hc2]; decide) (by rw [hc2]; decide) (by decide) ?_
        refine lv_bipush (v := 20) hx hb dX12_doubt_42 (by decide) ?_
        refine lv_aload_n hx hb dX12_doubt_44 rfl (lv_at hl 0 rfl) ?_
        refine gt_X12_577 hx hb hts hown hKK hI e44 (lc91 hN) (kc91 hk0) dX12_doubt_45 ?_
        refine lv_imul hx hb dX12_doubt_48 ?_
        refine lv_aload_n hx hb dX12_doubt_49 rfl (lv_at hl 0 rfl) ?_
        refine gt_X12_574 hx hb hts hown hKK hI e44 (lc91 hN) (kc91 hk0) dX12_doubt_50 ?_
        refine lv_icmp_gt (tgt := 60) hx hb dX12_doubt_53 (by decide) (fun hc => ?_) (fun hc => ?_)
        · replace h := ite_t hc h
          refine lv_iconst (v := 0) hx hb dX12_doubt_60 (by decide) ?_
          have hq := Option.some.inj h
          exact W.iret (v := 0) hx hb hr (fun t ht hW => qc_mk (congrArg (fun z => Outcome.returned (some (Value.int z.1))) hq) (by rw [ht]; exact ⟨σ, hI.nil, e44.trans (congrArg (fun z => z.2) hq), fr⟩)) hI.2.2 dX12_doubt_61 hlocks
        · replace h := ite_f hc h
          refine lv_iconst (v := 1) hx hb dX12_doubt_56 (by decide) ?_
          refine lv_goto (tgt := 61) hx hb dX12_doubt_57 (by decide) ?_
          have hq := Option.some.inj h
          exact W.iret (v := 1) hx hb hr (fun t ht hW => qc_mk (congrArg (fun z => Outcome.returned (some (Value.int z.1))) hq) (by rw [ht]; exact ⟨σ, hI.nil, e44.trans (congrArg (fun z => z.2) hq), fr⟩)) hI.2.2 dX12_doubt_61 hlocks
      · replace h := ite_f hc2 h
        refine lv_tableOut (tgt := 62) hx hb dX12_doubt_5 (swo (fun j h1 h2 => ?_)) (by decide) ?_
        · have hj : j = 0 ∨ j = 1 ∨ j = 2 := by omega
          rcases hj with rfl | rfl | rfl
          · exact lv_neT hc0 (by decide)
          · exact lv_neT hc1 (by decide)
          · exact lv_neT hc2 (by decide)
        · refine lv_iconst (v := (-1)) hx hb dX12_doubt_62 (by decide) ?_
          have hq := Option.some.inj h
          exact W.iret (v := (-1)) hx hb hr (fun t ht hW => qc_mk (congrArg (fun z => Outcome.returned (some (Value.int z.1))) hq) (by rw [ht]; exact ⟨σ, hI.nil, e44.trans (congrArg (fun z => z.2) hq), fr⟩)) hI.2.2 dX12_doubt_63 hlocks
noncomputable def f_X12_lettersOf_l4b (F : Nat)  (k4 : Grp → Int32 → Int32 → Int32 → Option (Int32)) (G32 : Grp) (v1 : Int32) (v2 : Int32) (v3 : Int32) : Option (Int32) :=
  if (G32.1 91 57) ≤ v3 then some v2 else ck v3 200 (if (G32.1 132 v3.toNatClampNeg) = v1 then bn ((v2 + 1)) (fun v2_29 => bn (v3 + 1) (fun v3_30 => k4 G32 v1 v2_29 v3_30)) else bn ((v2 + 0)) (fun v2_29 => bn (v3 + 1) (fun v3_30 => k4 G32 v1 v2_29 v3_30)))
noncomputable def f_X12_lettersOf_l4 (F : Nat)  (fu : Nat) : Grp → Int32 → Int32 → Int32 → Option (Int32) := Nat.rec (motive := fun _ => Grp → Int32 → Int32 → Int32 → Option (Int32)) (fun _ _ _ _ => none) (fun _ ih => f_X12_lettersOf_l4b F  ih) fu
noncomputable def f_X12_lettersOf (F : Nat) (G32 : Grp) (v1 : Int32) : Option (Int32) :=
  f_X12_lettersOf_l4 F  F G32 v1 0 0
def RM_X12_lettersOf : Room := { frames := 0, cells := 0, slots := 0, locals := 0 }
abbrev B_X12_lettersOf (HB : Heap) (D : va_G) (y : Nat → ClassId) (n : Nat) (κ : Nat → Nat) (σ : St) (q : Int32) : Heap → Prop := fun H => IV HB D y n n κ σ [] H
set_option maxRecDepth 100000 in
set_option maxHeartbeats 4000000 in
theorem c_X12_lettersOf (l : Launch) (HB : Heap) (D : va_G) (y : Nat → ClassId) (F n : Nat) (κ : Nat → Nat) (σ : St) (hN : N0 ≤ n) (v1 : Int32)  (G32 : Grp) (e32 : σ 32 = G32) (q : Int32) (h : f_X12_lettersOf F G32 v1 = some q) : MT l HB D y yX12_lettersOf cX12_lettersOf 4 (some .int) RM_X12_lettersOf [.ref (HB.size + 91), .int v1] (IV HB D y n n κ σ []) (some (.int q)) (B_X12_lettersOf HB D y n κ σ q) := by
  refine Met.ofW (cc := cX12_lettersOf) (maxL := 4) (ret := (some .int)) (by decide) rfl ?_
  intro p e s m args below meth c s₁ BL hml hv
  obtain ⟨rfl, hI, hKK⟩ := hv
  have hx := BL.exec
  have hb := BL.bytes
  have hr := BL.returns
  have hts : ∀ w ∈ gtb, w.before _ s = true := fun w hw => atoms_spec BL.pre w (List.mem_cons_of_mem _ hw)
  have hml : c.maxLocals = 4 := hml
  have hown : s.vm.findClass RX12 = some m.cls := findClass_of_methodNamed BL.named
  have hlocks := BL.notSynchronized
  have hk0 := hI.1.2.2.2.2
  have hl := lv_entry ([.ref (HB.size + 91), .int v1]) (n := 4) (Nat.le_of_ble_eq_true rfl)
  rw [lg_entry_eq]
  generalize (lg_sl ([.ref (HB.size + 91), .int v1]) ++ List.replicate (4 - (lg_sl ([.ref (HB.size + 91), .int v1])).length) Slot.unset).toArray = ls at hl ⊢
  have hl : lv_has ls 4 [(0, .ref (HB.size + 91)), (1, .int v1)] := hl
  generalize hargs : ([.ref (HB.size + 91), .int v1] : List Value).toArray = args at *
  have b4 : ∀ (fu : Nat) (H : Heap) (locs : List Loc) (ls : Array Slot) (G32 : Grp) (v1 : Int32) (v2 : Int32) (v3 : Int32) , IV HB D y n n κ σ locs H → σ 32 = G32 → lv_has ls 4 [(0, .ref (HB.size + 91)), (1, .int v1), (2, .int v2), (3, .int v3)] → f_X12_lettersOf_l4 F  fu G32 v1 v2 v3 = some q → WX RM_X12_lettersOf p l e s m args below meth c HB (some (.int q)) (B_X12_lettersOf HB D y n κ σ q) H locs (F0 m 4 ls []) := by
    intro  fu
    induction fu with
    | zero =>
      intro H locs ls G32 v1 v2 v3 hI e32 hl h
      exact absurd h (by intro h; cases h)
    | succ fu hk4 =>
      intro H locs ls G32 v1 v2 v3 hI e32 hl h
      have h : f_X12_lettersOf_l4b F  (f_X12_lettersOf_l4 F  fu) G32 v1 v2 v3 = some q := h
      generalize f_X12_lettersOf_l4 F  fu = k4 at h hk4
      unfold f_X12_lettersOf_l4b at h
      refine lv_iload_n hx hb dX12_lettersOf_4 rfl (lv_at hl 3 rfl) ?_
      refine lv_aload_n hx hb dX12_lettersOf_5 rfl (lv_at hl 0 rfl) ?_
      refine gt_X12_431 hx hb hts hown hKK hI e32 (lc91 hN) (kc91 hk0) dX12_lettersOf_6 ?_
      refine lv_icmp_ge (tgt := 36) hx hb dX12_lettersOf_9 (by decide) (fun hc => ?_) (fun hc => ?_)
      · replace h := ite_t hc h
        refine lv_iload_n hx hb dX12_lettersOf_36 rfl (lv_at hl 2 rfl) ?_
        have hq := Option.some.inj h
        exact W.iret (v := v2) hx hb hr (fun t ht hW => qc_mk (congrArg (fun z => Outcome.returned (some (Value.int z))) hq) (by rw [ht]; exact hI.nil)) hI.2.2 dX12_lettersOf_37 hlocks
      · replace h := ite_f hc h
        refine lv_iload_n hx hb dX12_lettersOf_12 rfl (lv_at hl 2 rfl) ?_
        refine lv_aload_n hx hb dX12_lettersOf_13 rfl (lv_at hl 0 rfl) ?_
        refine gf_X12_133 hx hb hts hown hKK hI hN dX12_lettersOf_14 ?_
        refine lv_iload_n hx hb dX12_lettersOf_17 rfl (lv_at hl 3 rfl) ?_
        obtain ⟨hin_, h⟩ := ck_e h
        refine la_57 hx hb hKK hI e32 (lc132 hN) (kc132 hk0) hin_ dX12_lettersOf_18 ?_
        refine lv_iload_n hx hb dX12_lettersOf_19 rfl (lv_at hl 1 rfl) ?_
        refine lv_icmp_ne (tgt := 27) hx hb dX12_lettersOf_20 (by decide) (fun hc => ?_) (fun hc => ?_)
        · replace h := ite_f hc h
          refine lv_iconst (v := 0) hx hb dX12_lettersOf_27 (by decide) ?_
          refine lv_iadd hx hb dX12_lettersOf_28 ?_
          obtain ⟨v2_29, qq, h⟩ := bn_e h
          refine topi qq ?_
          refine lv_istore_n (lv' := [(2, .int v2_29), (0, .ref (HB.size + 91)), (1, .int v1), (3, .int v3)]) hx hb dX12_lettersOf_29 rfl hl (by decide) rfl (fun ls hl => ?_)
          obtain ⟨v3_30, qq, h⟩ := bn_e h
          refine lv_iinc (v := v3_30) (lv' := [(3, .int v3_30), (2, .int v2_29), (0, .ref (HB.size + 91)), (1, .int v1)]) hx hb dX12_lettersOf_30 hl (k := 3) rfl (by rw [qq]; rfl) (by decide) rfl (fun ls hl => ?_)
          refine lv_goto (tgt := 4) hx hb dX12_lettersOf_33 (by decide) ?_
          exact hk4 H locs ls G32 v1 v2_29 v3_30  hI e32 (lv_sub hl [2, 3, 1, 0] rfl) h
        · replace h := ite_t hc h
          refine lv_iconst (v := 1) hx hb dX12_lettersOf_23 (by decide) ?_
          refine lv_goto (tgt := 28) hx hb dX12_lettersOf_24 (by decide) ?_
          refine lv_iadd hx hb dX12_lettersOf_28 ?_
          obtain ⟨v2_29, qq, h⟩ := bn_e h
          refine topi qq ?_
          refine lv_istore_n (lv' := [(2, .int v2_29), (0, .ref (HB.size + 91)), (1, .int v1), (3, .int v3)]) hx hb dX12_lettersOf_29 rfl hl (by decide) rfl (fun ls hl => ?_)
          obtain ⟨v3_30, qq, h⟩ := bn_e h
          refine lv_iinc (v := v3_30) (lv' := [(3, .int v3_30), (2, .int v2_29), (0, .ref (HB.size + 91)), (1, .int v1)]) hx hb dX12_lettersOf_30 hl (k := 3) rfl (by rw [qq]; rfl) (by decide) rfl (fun ls hl => ?_)
          refine lv_goto (tgt := 4) hx hb dX12_lettersOf_33 (by decide) ?_
          exact hk4 H locs ls G32 v1 v2_29 v3_30  hI e32 (lv_sub hl [2, 3, 1, 0] rfl) h
  show WX RM_X12_lettersOf p l e s m args below meth c HB (some (.int q)) (B_X12_lettersOf HB D y n κ σ q) s.heap [] (F0 m 0 ls [])
  generalize s.heap = H at hI ⊢
  unfold f_X12_lettersOf at h
  obtain ⟨locs, hlocs⟩ : ∃ x : List Loc, x = [] := ⟨_, rfl⟩
  rw [← hlocs] at hI ⊢
  refine lv_iconst (v := 0) hx hb dX12_lettersOf_0 (by decide) ?_
  refine lv_istore_n (lv' := [(2, .int 0), (0, .ref (HB.size + 91)), (1, .int v1)]) hx hb dX12_lettersOf_1 rfl hl (by decide) rfl (fun ls hl => ?_)
  refine lv_iconst (v := 0) hx hb dX12_lettersOf_2 (by decide) ?_
  refine lv_istore_n (lv' := [(3, .int 0), (2, .int 0), (0, .ref (HB.size + 91)), (1, .int v1)]) hx hb dX12_lettersOf_3 rfl hl (by decide) rfl (fun ls hl => ?_)
  exact b4  F H locs ls G32 v1 0 0  hI e32 (lv_sub hl [2, 3, 1, 0] rfl) h
