theorem nb1 {x : Int32} (h : vp_in x 241) : x.toNatClampNeg * componentBytes .char ≤ 536870912 := by
  have h1 : x.toNatClampNeg < 241 := Nat.not_le.mp fun q => h (Or.inr q)
  show x.toNatClampNeg * 2 ≤ _
  omega
theorem nb2 {x : Int32} (h : vp_in x 241) : 0 + 4 + 6 + x.toNatClampNeg ≤ 250 := by
  have h1 : x.toNatClampNeg < 241 := Nat.not_le.mp fun q => h (Or.inr q)
  omega
theorem nb3 {x : Int32} (h : vp_in x 241) : 0 + 4 + 6 + x.toNatClampNeg ≤ 250 := nb2 h
def cyc {α : Type} (sp dp n : Int32) (L0 L1 : Nat) (f : Nat → Int32) (x : Option α) : Option α := if sp < 0 ∨ dp < 0 ∨ n < 0 ∨ L0 < sp.toNatClampNeg + n.toNatClampNeg ∨ L1 < dp.toNatClampNeg + n.toNatClampNeg then none else if ∀ i, i < n.toNatClampNeg → fits .char (.int (f (sp.toNatClampNeg + i))) = true then x else none
theorem cyc_e {α : Type} {sp dp n : Int32} {L0 L1 : Nat} {f : Nat → Int32} {x : Option α} {r : α} (h : cyc sp dp n L0 L1 f x = some r) : (¬ sp < 0 ∧ ¬ dp < 0 ∧ ¬ n < 0 ∧ sp.toNatClampNeg + n.toNatClampNeg ≤ L0 ∧ dp.toNatClampNeg + n.toNatClampNeg ≤ L1) ∧ (∀ i, i < n.toNatClampNeg → fits .char (.int (f (sp.toNatClampNeg + i))) = true) ∧ x = some r := by
  unfold cyc at h
  split at h
  · cases h
  · rename_i q
    split at h
    · rename_i q2
      refine ⟨⟨fun z => q (Or.inl z), fun z => q (Or.inr (Or.inl z)), fun z => q (Or.inr (Or.inr (Or.inl z))), ?_, ?_⟩, q2, h⟩
      · exact Nat.not_lt.mp fun z => q (Or.inr (Or.inr (Or.inr (Or.inl z))))
      · exact Nat.not_lt.mp fun z => q (Or.inr (Or.inr (Or.inr (Or.inr z))))
    · cases h
theorem finl_lt : ∀ q ∈ FINL, q.1 < N0 := by decide +kernel
theorem TF.setF {n : Nat} {κ : Nat → Nat} {σ : St} {k : Nat} {x : Option Nat} (h : TF n κ σ) (hN : N0 ≤ n) : TF n κ (sg σ 0 (gR (σ 0) n k x)) := by
  have h1 : ∀ j b, b < n → ((sg σ 0 (gR (σ 0) n k x)) j).2.2 b = (σ j).2.2 b := by
    intro j b hb
    by_cases e : j = 0
    · subst e; rw [sg_same]; exact gR_off _ k x (by omega)
    · rw [sg_ne _ _ e]
  refine ⟨fun hn q hq => ?_, fun b hb => ⟨fun q hq => ?_, fun q hq t ht => ?_, fun q hq j t ht => ?_⟩⟩
  · rw [h1 0 q.1 (Nat.lt_of_lt_of_le (finl_lt q hq) hN)]
    exact h.1 hn q hq
  · rw [h1 0 b hb]
    exact (h.2 b hb).1 q hq
  · rw [h1 _ b hb] at ht
    exact (h.2 b hb).2.1 q hq t ht
  · rw [h1 _ b hb] at ht
    exact (h.2 b hb).2.2 q hq j t ht
theorem IV.bump4 {HB : Heap} {D : va_G} {y : Nat → ClassId} {n v1 : Nat} {κ : Nat → Nat} {σ : St} {locs : List Loc} {H : Heap} {G0 G13 : Grp} (h : IV HB D y n (n + 4) κ σ locs H) (hN : N0 ≤ n) (hk : κ n = 4) (hk1 : κ (n + 1) = 77) (hk2 : κ (n + 1 + 1) = 78) (hk3 : κ (n + 1 + 1 + 1) = 13) (e0 : σ 0 = G0) (e13 : σ 13 = G13) (ho : G0.2.2 n 4 = some (n + 1) ∧ G0.2.2 n 5 = some (n + 1 + 1) ∧ G0.2.2 n 3 = some (n + 1 + 1 + 1) ∧ G13.2.2 n 0 = some v1) (hv : v1 < n) (hkv : κ v1 = 5) : IV HB D y (n + 4) (n + 4) κ σ locs H := by
  obtain ⟨hV, ⟨h6, h7, h8⟩, h9⟩ := h
  obtain ⟨o1, o2, o3, o4⟩ := ho
  refine ⟨hV, ⟨Nat.le_refl _, fun _ => h7 hN, fun a ha => ?_⟩, h9⟩
  by_cases c0 : a < n
  · refine ⟨fun q hq => ?_, fun q hq t ht => ?_, fun q hq j t ht => ?_⟩
    · obtain ⟨g1, g2, g3⟩ := (h8 a c0).1 q hq
      exact ⟨g1, by omega, g3⟩
    · obtain ⟨g1, g2⟩ := (h8 a c0).2.1 q hq t ht
      exact ⟨by omega, g2⟩
    · obtain ⟨g1, g2⟩ := (h8 a c0).2.2 q hq j t ht
      exact ⟨by omega, g2⟩
  · have c1 : a = n ∨ a = n + 1 ∨ a = n + 1 + 1 ∨ a = n + 1 + 1 + 1 := by omega
    rcases c1 with rfl | rfl | rfl | rfl
    · rw [hk]
      refine ⟨fun q hq => ?_, fun q hq t ht => ?_, fun q hq j t ht => absurd hq List.not_mem_nil⟩
      · simp only [ownL, List.mem_cons, List.not_mem_nil, or_false] at hq
        rcases hq with rfl | rfl | rfl
        · exact ⟨by rw [e0]; exact o3, by show a + 3 < a + 4; omega, hk3⟩
        · exact ⟨by rw [e0]; exact o1, by show a + 1 < a + 4; omega, hk1⟩
        · exact ⟨by rw [e0]; exact o2, by show a + 2 < a + 4; omega, hk2⟩
      · simp only [typL, List.mem_cons, List.not_mem_nil, or_false] at hq
        subst hq
        rw [show σ 13 = G13 from e13, o4] at ht
        cases ht
        exact ⟨by omega, hkv⟩
    · rw [hk1]
      exact ⟨fun q hq => absurd hq List.not_mem_nil, fun q hq => absurd hq List.not_mem_nil, fun q hq => absurd hq List.not_mem_nil⟩
    · rw [hk2]
      exact ⟨fun q hq => absurd hq List.not_mem_nil, fun q hq => absurd hq List.not_mem_nil, fun q hq => absurd hq List.not_mem_nil⟩
    · rw [hk3]
      exact ⟨fun q hq => absurd hq List.not_mem_nil, fun q hq => absurd hq List.not_mem_nil, fun q hq => absurd hq List.not_mem_nil⟩
section W21
variable {p : Program} {l : Launch} {e : Env} {R : Room} {s : State} {m : MethodId} {args : Array Value} {below : List Frame} {meth : Method} {c : Code} {H : Heap} {locs : List Loc} {cells slots : Nat} {Q : State → Prop}
variable {cc : ByteArray} {pc : Nat} {ls : Array Slot} {rest : List Value} {HB : Heap} {D : va_G} {y : Nat → ClassId} {n0 n : Nat} {κ : Nat → Nat} {σ : St} {a b : Nat}
theorem r_newLetter (hx : p.tables.exec = Jvm.exec) (hb : c.code = cc) (hts : ∀ w ∈ gtb, w.before args s = true) (hown : s.vm.findClass RX11 = some m.cls) (hKK : KK HB D y s) (hI : IV HB D y n n κ σ locs H) (hN : N0 ≤ n) (hcells : cells + 1 ≤ R.cells) (hslots : slots + 12 ≤ R.slots) (hdg : decode cc pc = .ok (.new 173, 3))
    (kk : ∀ (κ' : Nat → Nat) (H1 : Heap), (∀ a, a < n → κ' a = κ a) → κ' n = 4 → κ' (n + 1) = 77 → κ' (n + 1 + 1) = 78 → κ' (n + 1 + 1 + 1) = 13 → IV HB D y n (n + 1) κ' σ locs H1 → W p l e R s m args below meth c H1 locs (cells + 1) (slots + 12) Q (F0 m (pc + 3) ls (.ref (HB.size + n) :: rest))) : W p l e R s m args below meth c H locs cells slots Q (F0 m pc ls rest) := by
  obtain ⟨κ', hκ⟩ : ∃ z : Nat → Nat, z = fun j => if j < n then κ j else if j = n then 4 else if j = n + 1 then 77 else if j = n + 1 + 1 then 78 else 13 := ⟨_, rfl⟩
  have hka : ∀ a, a < n → κ' a = κ a := fun a ha => by rw [hκ]; exact if_pos ha
  have hkn : κ' n = 4 := by rw [hκ]; simp
  have hk1 : κ' (n + 1) = 77 := by rw [hκ]; simp only []; rw [if_neg (by omega), if_neg (by omega), if_pos trivial]
  have hk2 : κ' (n + 1 + 1) = 78 := by rw [hκ]; simp only []; rw [if_neg (by omega), if_neg (by omega), if_neg (by omega), if_pos trivial]
  have hk3 : κ' (n + 1 + 1 + 1) = 13 := by rw [hκ]; simp only []; rw [if_neg (by omega), if_neg (by omega), if_neg (by omega), if_neg (by omega)]
  have hI2 := hI.kap hN hka
  refine r_new hx hb hts hown hKK hI2 (kd := 4) (T := TX4) (ty := tyX4) (ci := 4) rfl rfl in_X4 tyX4_ok (hz4 HB.size) lx_X11_173 (gtb_t 731 (by decide +kernel) (by decide +kernel)) (gtb_t 14 (by decide +kernel) (by decide +kernel)) hkn hcells hslots hdg (fun H1 hI3 => ?_)
  exact kk _ H1 hka hkn hk1 hk2 hk3 hI3
theorem r_acopy13 (hx : p.tables.exec = Jvm.exec) (hb : c.code = cc) (hml : c.maxLocals = ls.size) (hts : ∀ w ∈ gtb, w.before args s = true) {own : String} (hown : s.vm.findClass own = some m.cls) (hKK : KK HB D y s) (hI : IV HB D y n0 n κ σ locs H) {index : Nat} {G : Grp} (hG : σ 3 = G) (ha : a < n) (hka : κ a = 13) (hbn : b < n) (hkb : κ b = 13) {sp dp k : Int32} (hcy : ¬ sp < 0 ∧ ¬ dp < 0 ∧ ¬ k < 0 ∧ sp.toNatClampNeg + k.toNatClampNeg ≤ (G.2.2 a 0).getD 0 ∧ dp.toNatClampNeg + k.toNatClampNeg ≤ (G.2.2 b 0).getD 0) (hfit : ∀ i, i < k.toNatClampNeg → fits .char (.int (G.1 a (sp.toNatClampNeg + i))) = true) (hlk : Cond.methodLink own index arraycopyName ∈ gtb) (hframes : 1 ≤ R.frames) (hlocals : (rest.map fun v => v.category).sum + (nativeFrameWords "java/lang/System" "arraycopy" 5 + 11) ≤ R.locals) (hdg : decode cc pc = .ok (.invokestatic index, 3))
    (kk : ∀ (σ' : St) (H' : Heap) (locs' : List Loc), IV HB D y n0 n κ σ' locs' H' → σ' 3 = gC G b (va_cpy (G.1 a) (G.1 b) sp.toNatClampNeg dp.toNatClampNeg k.toNatClampNeg) → (∀ j, j ≠ 3 → σ' j = σ j) → W p l e R s m args below meth c H' locs' cells slots Q (F0 m (pc + 3) ls rest)) : W p l e R s m args below meth c H locs cells slots Q (F0 m pc ls (.int k :: .int dp :: .ref (HB.size + b) :: .int sp :: .ref (HB.size + a) :: rest)) := by
  subst hG
  obtain ⟨h1, h2, h3, h4, h5⟩ := hcy
  have hc0 : H[HB.size + a]? = some (vp_cell (y 2) (((σ 3).2.2 a 0).getD 0, .inl (slI σ a 3))) := hI.at ha hka
  have hc1 : H[HB.size + b]? = some (vp_cell (y 2) (((σ 3).2.2 b 0).getD 0, .inl (slI σ b 3))) := hI.at hbn hkb
  generalize hL0 : ((σ 3).2.2 a 0).getD 0 = L0 at hc0 h4
  generalize hL1 : ((σ 3).2.2 b 0).getD 0 = L1 at hc1 h5
  have hnat : (Cond.native arraycopyName).before args s = true := hts _ (gtb_t 740 (by decide +kernel) (by decide +kernel))
  have hstat : (Cond.static arraycopyName).before args s = true := hts _ (gtb_t 739 (by decide +kernel) (by decide +kernel))
  have hini : (Cond.initialized "java/lang/System").before args s = true := hts _ (gtb_t 15 (by decide +kernel) (by decide +kernel))
  intro T hT X
  obtain ⟨-, k0, hk0, cm0, hkk0⟩ := (hKK.1.2 2 _ rfl).1 L0 (fun j => .int (slI σ a 3 j))
  obtain ⟨vm', X', step⟩ := X.arraycopy hx hown (hts _ hlk) hnat hstat hini (src := HB.size + a) (dst := HB.size + b) (cs := vp_cell (y 2) (L0, .inl (slI σ a 3))) (cd := vp_cell (y 2) (L1, .inl (slI σ b 3))) (srcPos := sp) (destPos := dp) (n := k) (by rw [hT]; exact hc0) (by rw [hT]; exact hc1)
    (fun _ h => by cases h) (fun _ h => by cases h) (fun h => by cases h) (fun h => by cases h) hk0 hk0 hkk0 hkk0 (by simp [refKind]) h1 h2 h3
    (by rw [nnI sp h1, nnI k h3]; show ¬ _ > ((arrV (y 2) L0 (fun j => .int (slI σ a 3 j))).slots.size : Int); rw [arrV_size]; omega)
    (by rw [nnI dp h2, nnI k h3]; show ¬ _ > ((arrV (y 2) L1 (fun j => .int (slI σ b 3 j))).slots.size : Int); rw [arrV_size]; omega)
    (fun vm₁ _ i hi => by
      have e : (vp_cell (y 2) (L0, .inl (slI σ a 3))).slots.getD (sp.toNatClampNeg + i) .null = .int (slI σ a 3 (sp.toNatClampNeg + i)) := by
        show (arrV (y 2) L0 (fun j => .int (slI σ a 3 j))).slots.getD _ _ = _
        rw [Array.getD_eq_getD_getElem?, arrV_read _ _ (by omega)]
        rfl
      refine ⟨?_, ?_⟩
      · rw [e]; exact hfit i hi
      · rw [e]; exact trivial)
    (g := F0 m pc ls (.int k :: .int dp :: .ref (HB.size + b) :: .int sp :: .ref (HB.size + a) :: rest)) rfl (by rw [hml]) (rest := rest) rfl (by rw [hb]; exact hdg) hframes (by show 2 * 0 + _ + _ ≤ _; omega)
  have e1 : copied (vp_cell (y 2) (L0, .inl (slI σ a 3))) (vp_cell (y 2) (L1, .inl (slI σ b 3))) sp dp k = vp_cell (y 2) (L1, .inl (va_cpy (slI σ a 3) (slI σ b 3) sp.toNatClampNeg dp.toNatClampNeg k.toNatClampNeg)) := va_copied (fun z => .int z) (y 2) (y 2) (slI σ a 3) (slI σ b 3) h4
  rw [e1] at X' step
  have hl : HB.size + b < H.size := by have := hI.1.1; omega
  have hat : va_at D vwCl (HB.size + b, ent HB.size y (sg σ 3 (gC (σ 3) b (va_cpy (slI σ a 3) (slI σ b 3) sp.toNatClampNeg dp.toNatClampNeg k.toNatClampNeg))) (κ b) b) (H.setIfInBounds (HB.size + b) (vp_cell (y 2) (L1, .inl (va_cpy (slI σ a 3) (slI σ b 3) sp.toNatClampNeg dp.toNatClampNeg k.toNatClampNeg)))) := by
    unfold ent
    rw [slI_C, slJ_C, slR_C, hkb]
    show (H.setIfInBounds (HB.size + b) _)[HB.size + b]? = some (vp_cell (y 2) ((slR σ b 3 0).getD 0, .inl _))
    rw [show (slR σ b 3 0).getD 0 = L1 from hL1]
    simp [Array.getElem?_setIfInBounds, hl]
  have oq : ∀ q : Nat, q ≠ HB.size + b → (H.setIfInBounds (HB.size + b) (vp_cell (y 2) (L1, .inl (va_cpy (slI σ a 3) (slI σ b 3) sp.toNatClampNeg dp.toNatClampNeg k.toNatClampNeg))))[q]? = H[q]? := fun q hq => by simp [Array.getElem?_setIfInBounds, Ne.symm hq]
  obtain ⟨t, a1, b1⟩ := kk _ _ _ ⟨hI.1.put hbn (by simp) oq (offS_C σ 3 b _) hat, ⟨hI.2.1.1, hI.2.1.2.to (sgC_R σ 3 b _)⟩, fun q hq => by
      rcases List.mem_append.mp hq with h | h
      · exact hI.2.2 q h
      · obtain ⟨z, -, hz⟩ := List.mem_map.mp h
        rw [← hz]
        exact Nat.le_add_right _ _⟩ (sg_same _ _ _) (fun j hj => sg_ne _ _ hj) _ (show ((T.setVm vm').setCell _ _).heap = _ by rw [← hT]; rfl) X'
  exact ⟨t, step t a1, b1⟩
end W21

noncomputable def f_X4_init (F : Nat) (G0 G3 G13 : Grp) (v0 v1 : Nat) (v2 v3 v5 : Int32) : Option (Grp × Grp × Grp) :=
  bn (gR G0 v0 4 (some (v0 + 1))) (fun G0_8 => bn (gR G0_8 v0 5 (some (v0 + 1 + 1))) (fun G0_16 => bn (gR G13 v0 0 (some v1)) (fun G13_21 => bn (gI G13_21 v0 1 v2) (fun G13_26 => bn (gI G13_26 v0 6 (if 0 < (if (nI ((G3.2.2 1 0).getD 0)) < v5 then (nI ((G3.2.2 1 0).getD 0)) else v5) then (if (nI ((G3.2.2 1 0).getD 0)) < v5 then (nI ((G3.2.2 1 0).getD 0)) else v5) else 0)) (fun G13_42 => ck (G13_42.1 v0 6) 241 (bn (gR G3 (v0 + 1 + 1 + 1) 0 (some (G13_42.1 v0 6).toNatClampNeg)) (fun G3_50 => bn (gR G0_16 v0 3 (some (v0 + 1 + 1 + 1))) (fun G0_52 => cyc 0 0 (G13_42.1 v0 6) ((G3_50.2.2 1 0).getD 0) ((G3_50.2.2 (v0 + 1 + 1 + 1) 0).getD 0) (G3_50.1 1) (bn (gC G3_50 (v0 + 1 + 1 + 1) (va_cpy (G3_50.1 1) (G3_50.1 (v0 + 1 + 1 + 1)) (0 : Int32).toNatClampNeg (0 : Int32).toNatClampNeg (G13_42.1 v0 6).toNatClampNeg)) (fun G3_67 => bn (gI G13_42 v0 2 v3) (fun G13_72 => bn (gI G13_72 v0 8 0) (fun G13_77 => bn (gI G13_77 v0 9 v3) (fun G13_82 => bn (gI G13_82 v0 10 (-1)) (fun G13_87 => bn (gI G13_87 v0 11 (-1)) (fun G13_92 => some (G0_52, G3_67, G13_92))))))))))))))))
theorem X4_own {F : Nat} {G0 G3 G13 : Grp} {v0 v1 : Nat} {v2 v3 v5 : Int32} {q : Grp × Grp × Grp} (h : f_X4_init F G0 G3 G13 v0 v1 v2 v3 v5 = some q) : q.1.2.2 v0 4 = some (v0 + 1) ∧ q.1.2.2 v0 5 = some (v0 + 1 + 1) ∧ q.1.2.2 v0 3 = some (v0 + 1 + 1 + 1) ∧ q.2.2.2.2 v0 0 = some v1 := by
  unfold f_X4_init bn at h
  obtain ⟨-, h⟩ := ck_e h
  obtain ⟨-, -, h⟩ := cyc_e h
  have hq := Option.some.inj h
  rw [← hq]
  simp [gR, gI]

def RM_X4_init : Room := { frames := 1, cells := 3, slots := 250, locals := 60 }
abbrev W_X4_init : List Nat := [0, 3, 13]
abbrev B_X4_init (HB : Heap) (D : va_G) (y : Nat → ClassId) (κ : Nat → Nat) (v0 : Nat) (σ0 : St) (q : Grp × Grp × Grp) : Heap → Prop := fun H => ∃ σ : St, IV HB D y v0 (v0 + 4) κ σ [] H ∧ σ 0 = q.1 ∧ σ 3 = q.2.1 ∧ σ 13 = q.2.2 ∧ ∀ j, j ∉ W_X4_init → σ j = σ0 j
set_option maxRecDepth 100000 in
set_option maxHeartbeats 4000000 in
theorem k_X4_init (l : Launch) (HB : Heap) (D : va_G) (y : Nat → ClassId) (F : Nat) (κ : Nat → Nat) (σ0 : St) (v0 : Nat) (hN : N0 ≤ v0) (hk_v0 : κ v0 = 4) (hk1 : κ (v0 + 1) = 77) (hk2 : κ (v0 + 1 + 1) = 78) (hk3 : κ (v0 + 1 + 1 + 1) = 13) (v1 : Nat) (ha_v1 : v1 < v0) (hk_v1 : κ v1 = 5) (v2 v3 v5 : Int32) (G0 : Grp) (e0 : σ0 0 = G0) (G3 : Grp) (e3 : σ0 3 = G3) (G13 : Grp) (e13 : σ0 13 = G13) (q : Grp × Grp × Grp) (h : f_X4_init F G0 G3 G13 v0 v1 v2 v3 v5 = some q) : MT l HB D y yX4_init cX4_init 6 none RM_X4_init [.ref (HB.size + v0), .ref (HB.size + v1), .int v2, .int v3, .ref (HB.size + 1), .int v5] (IV HB D y v0 (v0 + 1) κ σ0 []) none (B_X4_init HB D y κ v0 σ0 q) := by
  refine Met.ofW (cc := cX4_init) (maxL := 6) (ret := none) (by decide) rfl ?_
  intro p e s m args below meth c s₁ BL hml hv
  obtain ⟨rfl, hI, hKK⟩ := hv
  have hx := BL.exec
  have hb := BL.bytes
  have hr := BL.returns
  have hts : ∀ w ∈ gtb, w.before _ s = true := fun w hw => atoms_spec BL.pre w (List.mem_cons_of_mem _ hw)
  have hml : c.maxLocals = 6 := hml
  have hown : s.vm.findClass RX4 = some m.cls := findClass_of_methodNamed BL.named
  have hlocks := BL.notSynchronized
  have hin : meth.name = "<init>" := (name_of_methodNamed BL.named BL.method).1
  have hk0 := hI.1.2.2.2.2
  have hl := lv_entry ([.ref (HB.size + v0), .ref (HB.size + v1), .int v2, .int v3, .ref (HB.size + 1), .int v5]) (n := 6) (Nat.le_of_ble_eq_true rfl)
  rw [lg_entry_eq]
  generalize (lg_sl ([.ref (HB.size + v0), .ref (HB.size + v1), .int v2, .int v3, .ref (HB.size + 1), .int v5]) ++ List.replicate (6 - (lg_sl ([.ref (HB.size + v0), .ref (HB.size + v1), .int v2, .int v3, .ref (HB.size + 1), .int v5])).length) Slot.unset).toArray = ls at hl ⊢
  have hl : lv_has ls 6 [(0, .ref (HB.size + v0)), (1, .ref (HB.size + v1)), (2, .int v2), (3, .int v3), (4, .ref (HB.size + 1)), (5, .int v5)] := hl
  generalize hargs : ([.ref (HB.size + v0), .ref (HB.size + v1), .int v2, .int v3, .ref (HB.size + 1), .int v5] : List Value).toArray = args at *
  obtain ⟨σ, hI, e0, e3, e13, fr⟩ : ∃ σ : St, IV HB D y v0 (v0 + 1) κ σ [] s.heap ∧ σ 0 = G0 ∧ σ 3 = G3 ∧ σ 13 = G13 ∧ ∀ j, j ∉ W_X4_init → σ j = σ0 j := ⟨σ0, hI, e0, e3, e13, fun _ _ => rfl⟩
  show W p l e RM_X4_init s m args below meth c s.heap [] 0 0 (MQ below (QCg none (B_X4_init HB D y κ v0 σ0 q)) args s 3 250 (fun x => HB.size ≤ x)) (F0 m 0 ls [])
  generalize s.heap = H at hI ⊢
  unfold f_X4_init at h
  obtain ⟨locs, hlocs⟩ : ∃ x : List Loc, x = [] := ⟨_, rfl⟩
  rw [← hlocs] at hI ⊢
  refine lv_aload_n hx hb dX4_init_0 rfl (lv_at hl 0 rfl) ?_
  refine W.objInit hx hb hown (hts _ (gtb_t 735 (by decide +kernel) (by decide +kernel))) (hts _ obI.1) (hts _ obI.2) rfl (by rw [hml]; exact hl.1) rfl dX4_init_1 (Nat.le_of_ble_eq_true rfl) (Nat.le_of_ble_eq_true rfl) ?_
  refine W.eq (g2 := F0 m 4 ls []) rfl ?_
  refine lv_aload_n hx hb dX4_init_4 rfl (lv_at hl 0 rfl) ?_
  refine lv_iconst (v := 4) hx hb dX4_init_5 (by decide) ?_
  refine r_newa hx hb hts hKK hI (kd := 77) (N := 4) (t0 := 0) (a0 := (4, .inl (fun _ => 0))) (ty := .int) rfl rfl (gtb_t 100 (by decide +kernel) (by decide +kernel)) (fun C h => by cases h) rfl (fun _ => rfl) (by decide) (by decide) (by decide) hk1 (Nat.le_of_ble_eq_true rfl) (Nat.le_of_ble_eq_true rfl) dX4_init_6 (fun H hI => ?_)
  obtain ⟨G0_8, qq, h⟩ := bn_e h
  refine pt_X4_9 hx hb hts hown hKK hin hI e0 (by omega) hk_v0 (x := some (v0 + 1)) (fun hT => hT.setF hN) dX4_init_8 (fun σ H locs hI ew ho => ?_)
  have e0 := ew.trans qq.symm
  have e3 := (ho 3 (nn rfl)).trans e3
  have e13 := (ho 13 (nn rfl)).trans e13
  have fr := frs fr ho (by decide)
  refine lv_aload_n hx hb dX4_init_11 rfl (lv_at hl 0 rfl) ?_
  refine lv_bipush (v := 6) hx hb dX4_init_12 (by decide) ?_
  refine r_newa hx hb hts hKK hI (kd := 78) (N := 6) (t0 := 0) (a0 := (6, .inl (fun _ => 0))) (ty := .int) rfl rfl (gtb_t 100 (by decide +kernel) (by decide +kernel)) (fun C h => by cases h) rfl (fun _ => rfl) (by decide) (by decide) (by decide) hk2 (Nat.le_of_ble_eq_true rfl) (Nat.le_of_ble_eq_true rfl) dX4_init_14 (fun H hI => ?_)
  obtain ⟨G0_16, qq, h⟩ := bn_e h
  refine pt_X4_15 hx hb hts hown hKK hin hI e0 (by omega) hk_v0 (x := some (v0 + 1 + 1)) (fun hT => hT.setF hN) dX4_init_16 (fun σ H locs hI ew ho => ?_)
  have e0 := ew.trans qq.symm
  have e3 := (ho 3 (nn rfl)).trans e3
  have e13 := (ho 13 (nn rfl)).trans e13
  have fr := frs fr ho (by decide)
  refine lv_aload_n hx hb dX4_init_19 rfl (lv_at hl 0 rfl) ?_
  refine lv_aload_n hx hb dX4_init_20 rfl (lv_at hl 1 rfl) ?_
  obtain ⟨G13_21, qq, h⟩ := bn_e h
  refine pt_X4_18 hx hb hts hown hKK hin hI e13 (by omega) hk_v0 (x := some v1) (fun hT => hT.setT' (nn rfl) (fun b hb => by omega)) dX4_init_21 (fun σ H locs hI ew ho => ?_)
  have e13 := ew.trans qq.symm
  have e0 := (ho 0 (nn rfl)).trans e0
  have e3 := (ho 3 (nn rfl)).trans e3
  have fr := frs fr ho (by decide)
  refine lv_aload_n hx hb dX4_init_24 rfl (lv_at hl 0 rfl) ?_
  refine lv_iload_n hx hb dX4_init_25 rfl (lv_at hl 2 rfl) ?_
  obtain ⟨G13_26, qq, h⟩ := bn_e h
  refine pt_X4_22 hx hb hts hown hKK hin hI e13 (by omega) hk_v0 dX4_init_26 (fun σ H locs hI ew ho => ?_)
  have e13 := ew.trans qq.symm
  have e0 := (ho 0 (nn rfl)).trans e0
  have e3 := (ho 3 (nn rfl)).trans e3
  have fr := frs fr ho (by decide)
  refine lv_aload_n hx hb dX4_init_29 rfl (lv_at hl 0 rfl) ?_
  refine lv_iconst (v := 0) hx hb dX4_init_30 (by decide) ?_
  refine lv_iload hx hb dX4_init_31 (lv_at hl 5 rfl) ?_
  refine lv_aload hx hb dX4_init_33 (lv_at hl 4 rfl) ?_
  refine r_alen13 hx hb hKK hI e3 (by have := hN; omega) (kc1 hk0) dX4_init_35 ?_
  refine va_mmin hx hb (by rw [hl.1]; exact hml) hown (hts _ lm_X4_26) (hts _ mw_min.1) (hts _ mw_ini) (hts _ mw_min.2) (Nat.le_of_ble_eq_true rfl) (Nat.le_of_ble_eq_true rfl) (Nat.le_of_ble_eq_true rfl) (Nat.le_of_ble_eq_true rfl) dX4_init_36 ?_
  refine va_mmax hx hb (by rw [hl.1]; exact hml) hown (hts _ lm_X4_32) (hts _ mw_max.1) (hts _ mw_ini) (hts _ mw_max.2) (Nat.le_of_ble_eq_true rfl) (Nat.le_of_ble_eq_true rfl) (Nat.le_of_ble_eq_true rfl) (Nat.le_of_ble_eq_true rfl) dX4_init_39 ?_
  obtain ⟨G13_42, qq, h⟩ := bn_e h
  refine pt_X4_35 hx hb hts hown hKK hI e13 (by omega) hk_v0 dX4_init_42 (fun σ H locs hI ew ho => ?_)
  have e13 := ew.trans qq.symm
  have e0 := (ho 0 (nn rfl)).trans e0
  have e3 := (ho 3 (nn rfl)).trans e3
  have fr := frs fr ho (by decide)
  refine lv_aload_n hx hb dX4_init_45 rfl (lv_at hl 0 rfl) ?_
  refine lv_aload_n hx hb dX4_init_46 rfl (lv_at hl 0 rfl) ?_
  refine gt_X4_35 hx hb hts hown hKK hI e13 (by omega) hk_v0 dX4_init_47 ?_
  obtain ⟨h241, h⟩ := ck_e h
  obtain ⟨G3_50, qq, h⟩ := bn_e h
  refine r_newc hx hb hts hKK hI (N := (G13_42.1 v0 6).toNatClampNeg) (gtb_t 99 (by decide +kernel) (by decide +kernel)) e3 (fun q => h241 (Or.inl q)) rfl (nb1 h241) hk3 (Nat.le_of_ble_eq_true rfl) (nb2 h241) dX4_init_50 (fun σ H hI ew ho => ?_)
  have e3 := ew.trans qq.symm
  have e0 := (ho 0 (nn rfl)).trans e0
  have e13 := (ho 13 (nn rfl)).trans e13
  have fr := frs fr ho (by decide)
  obtain ⟨G0_52, qq, h⟩ := bn_e h
  refine pt_X4_38 hx hb hts hown hKK hin hI e0 (by omega) hk_v0 (x := some (v0 + 1 + 1 + 1)) (fun hT => hT.setF hN) dX4_init_52 (fun σ H locs hI ew ho => ?_)
  have e0 := ew.trans qq.symm
  have e3 := (ho 3 (nn rfl)).trans e3
  have e13 := (ho 13 (nn rfl)).trans e13
  have fr := frs fr ho (by decide)
  have htx : G0_52.2.2 v0 3 = some (v0 + 1 + 1 + 1) := by rw [qq]; exact if_pos ⟨rfl, rfl⟩
  refine lv_aload hx hb dX4_init_55 (lv_at hl 4 rfl) ?_
  refine lv_iconst (v := 0) hx hb dX4_init_57 (by decide) ?_
  refine lv_aload_n hx hb dX4_init_58 rfl (lv_at hl 0 rfl) ?_
  refine gt_X4_38 hx hb hts hown hKK hI e0 (by omega) hk_v0 dX4_init_59 ?_
  refine topr htx ?_
  refine lv_iconst (v := 0) hx hb dX4_init_62 (by decide) ?_
  refine lv_aload_n hx hb dX4_init_63 rfl (lv_at hl 0 rfl) ?_
  refine gt_X4_35 hx hb hts hown hKK hI e13 (by omega) hk_v0 dX4_init_64 ?_
  obtain ⟨hcy, hfit, h⟩ := cyc_e h
  obtain ⟨G3_67, qq, h⟩ := bn_e h
  refine r_acopy13 hx hb (by rw [hl.1]; exact hml) hts hown hKK hI e3 (a := 1) (b := v0 + 1 + 1 + 1) (by have := hN; omega) (kc1 hk0) (by omega) hk3 hcy hfit (gtb_t 738 (by decide +kernel) (by decide +kernel)) (Nat.le_of_ble_eq_true rfl) (Nat.le_of_ble_eq_true rfl) dX4_init_67 (fun σ H locs hI ew ho => ?_)
  have e3 := ew.trans qq.symm
  have e0 := (ho 0 (nn rfl)).trans e0
  have e13 := (ho 13 (nn rfl)).trans e13
  have fr := frs fr ho (by decide)
  refine lv_aload_n hx hb dX4_init_70 rfl (lv_at hl 0 rfl) ?_
  refine lv_iload_n hx hb dX4_init_71 rfl (lv_at hl 3 rfl) ?_
  obtain ⟨G13_72, qq, h⟩ := bn_e h
  refine pt_X4_48 hx hb hts hown hKK hin hI e13 (by omega) hk_v0 dX4_init_72 (fun σ H locs hI ew ho => ?_)
  have e13 := ew.trans qq.symm
  have e0 := (ho 0 (nn rfl)).trans e0
  have e3 := (ho 3 (nn rfl)).trans e3
  have fr := frs fr ho (by decide)
  refine lv_aload_n hx hb dX4_init_75 rfl (lv_at hl 0 rfl) ?_
  refine lv_iconst (v := 0) hx hb dX4_init_76 (by decide) ?_
  obtain ⟨G13_77, qq, h⟩ := bn_e h
  refine pt_X4_51 hx hb hts hown hKK hI e13 (by omega) hk_v0 dX4_init_77 (fun σ H locs hI ew ho => ?_)
  have e13 := ew.trans qq.symm
  have e0 := (ho 0 (nn rfl)).trans e0
  have e3 := (ho 3 (nn rfl)).trans e3
  have fr := frs fr ho (by decide)
  refine lv_aload_n hx hb dX4_init_80 rfl (lv_at hl 0 rfl) ?_
  refine lv_iload_n hx hb dX4_init_81 rfl (lv_at hl 3 rfl) ?_
  obtain ⟨G13_82, qq, h⟩ := bn_e h
  refine pt_X4_54 hx hb hts hown hKK hI e13 (by omega) hk_v0 dX4_init_82 (fun σ H locs hI ew ho => ?_)
  have e13 := ew.trans qq.symm
  have e0 := (ho 0 (nn rfl)).trans e0
  have e3 := (ho 3 (nn rfl)).trans e3
  have fr := frs fr ho (by decide)
  refine lv_aload_n hx hb dX4_init_85 rfl (lv_at hl 0 rfl) ?_
  refine lv_iconst (v := (-1)) hx hb dX4_init_86 (by decide) ?_
  obtain ⟨G13_87, qq, h⟩ := bn_e h
  refine pt_X4_57 hx hb hts hown hKK hI e13 (by omega) hk_v0 dX4_init_87 (fun σ H locs hI ew ho => ?_)
  have e13 := ew.trans qq.symm
  have e0 := (ho 0 (nn rfl)).trans e0
  have e3 := (ho 3 (nn rfl)).trans e3
  have fr := frs fr ho (by decide)
  refine lv_aload_n hx hb dX4_init_90 rfl (lv_at hl 0 rfl) ?_
  refine lv_iconst (v := (-1)) hx hb dX4_init_91 (by decide) ?_
  obtain ⟨G13_92, qq, h⟩ := bn_e h
  refine pt_X4_60 hx hb hts hown hKK hI e13 (by omega) hk_v0 dX4_init_92 (fun σ H locs hI ew ho => ?_)
  have e13 := ew.trans qq.symm
  have e0 := (ho 0 (nn rfl)).trans e0
  have e3 := (ho 3 (nn rfl)).trans e3
  have fr := frs fr ho (by decide)
  have hq := Option.some.inj h
  refine W.widen (k := 3) (n := 250) (Nat.le_of_ble_eq_true rfl) (nb3 h241) ?_
  exact W.vret hx hb hr (fun t ht hW => qc_mk rfl (by rw [ht, ← hq]; exact ⟨σ, hI.nil, e0, e3, e13, fr⟩)) hI.2.2 dX4_init_95 hlocks
noncomputable def f_X11_letter (F ns : Nat) (G0 : Grp) (G1 : Grp) (G3 : Grp) (G7 : Grp) (G9 : Grp) (G10 : Grp) (G13 : Grp) (G14 : Grp) (v1 : Int32) (v2 : Int32) (v3 : Int32) (v4 : Int32) (v5 : Int32) (v6 : Int32) (v7 : Int32) : Option (Int32 × Nat × Grp × Grp × Grp × Grp × Grp × Grp × Grp) :=
  ob (f_X3_openPairAt F G7 G9 v1) (fun q_5 => om q_5 (some ((-1), ns, G0, G1, G3, G9, G10, G13, G14)) (fun t_5 => ob (f_X11_within F v2 0 1) (fun q_18 => if q_18 = 0 then some ((-1), ns, G0, G1, G3, G9, G10, G13, G14) else if (G10.1 44 1) < 200 then ob (f_X11_isMark F v3) (fun q_40 => if q_40 = 0 then some ((-1), ns, G0, G1, G3, G9, G10, G13, G14) else ob (f_X11_isMark F v4) (fun q_48 => if q_48 = 0 then some ((-1), ns, G0, G1, G3, G9, G10, G13, G14) else ob (f_X11_isMark F v5) (fun q_56 => if q_56 = 0 then some ((-1), ns, G0, G1, G3, G9, G10, G13, G14) else ob (f_X11_isMark F v6) (fun q_64 => if q_64 = 0 then some ((-1), ns, G0, G1, G3, G9, G10, G13, G14) else ob (f_X11_tapeHasText F G1 G3 v7) (fun q_73 => if q_73 = 0 then some ((-1), ns, G0, G1, G3, G9, G10, G13, G14) else ob (f_X4_init F G0 G3 G13 ns t_5 v2 (G1.1 0 0) v7) (fun q_98 => ck 0 4 (bn (gI G14 (ns + 1) (0 : Int32).toNatClampNeg v3) (fun G14_110 => ck 1 4 (bn (gI G14_110 (ns + 1) (1 : Int32).toNatClampNeg v4) (fun G14_119 => ck 2 4 (bn (gI G14_119 (ns + 1) (2 : Int32).toNatClampNeg v5) (fun G14_128 => ck 3 4 (bn (gI G14_128 (ns + 1) (3 : Int32).toNatClampNeg v6) (fun G14_137 => bn (gI G1 0 2 0) (fun G1_140 => ob (f_X6_add F G9 G10 (q_98.2.2) ns) (fun q_149 => some (q_149.1, (ns + 4), q_98.1, G1_140, q_98.2.1, q_149.2.1, q_149.2.2, q_98.2.2, G14_137))))))))))))))))) else some ((-1), ns, G0, G1, G3, G9, G10, G13, G14))))
def RM_X11_letter : Room := { frames := 3, cells := 4, slots := 262, locals := 85 }
abbrev W_X11_letter : List Nat := [0, 1, 3, 9, 10, 13, 14]
abbrev B_X11_letter (HB : Heap) (D : va_G) (y : Nat → ClassId) (ns : Nat) (σ0 : St) (q : Int32 × Nat × Grp × Grp × Grp × Grp × Grp × Grp × Grp) : Heap → Prop := fun H => ∃ (κ : Nat → Nat) (σ : St), IV HB D y q.2.1 q.2.1 κ σ [] H ∧ ns ≤ q.2.1 ∧ σ 0 = q.2.2.1 ∧ σ 1 = q.2.2.2.1 ∧ σ 3 = q.2.2.2.2.1 ∧ σ 9 = q.2.2.2.2.2.1 ∧ σ 10 = q.2.2.2.2.2.2.1 ∧ σ 13 = q.2.2.2.2.2.2.2.1 ∧ σ 14 = q.2.2.2.2.2.2.2.2 ∧ ∀ j, j ∉ W_X11_letter → σ j = σ0 j
set_option maxRecDepth 100000 in
set_option maxHeartbeats 4000000 in
theorem c_X11_letter (l : Launch) (HB : Heap) (D : va_G) (y : Nat → ClassId) (F ns : Nat) (κs : Nat → Nat) (σ0 : St) (hN : N0 ≤ ns) (v1 : Int32) (v2 : Int32) (v3 : Int32) (v4 : Int32) (v5 : Int32) (v6 : Int32) (v7 : Int32) (G0 : Grp) (e0 : σ0 0 = G0) (G1 : Grp) (e1 : σ0 1 = G1) (G3 : Grp) (e3 : σ0 3 = G3) (G7 : Grp) (e7 : σ0 7 = G7) (G9 : Grp) (e9 : σ0 9 = G9) (G10 : Grp) (e10 : σ0 10 = G10) (G13 : Grp) (e13 : σ0 13 = G13) (G14 : Grp) (e14 : σ0 14 = G14) (q : Int32 × Nat × Grp × Grp × Grp × Grp × Grp × Grp × Grp) (h : f_X11_letter F ns G0 G1 G3 G7 G9 G10 G13 G14 v1 v2 v3 v4 v5 v6 v7 = some q) : MT l HB D y yX11_letter cX11_letter 10 (some .int) RM_X11_letter [.ref (HB.size + 0), .int v1, .int v2, .int v3, .int v4, .int v5, .int v6, .int v7] (IV HB D y ns ns κs σ0 []) (some (.int q.1)) (B_X11_letter HB D y ns σ0 q) := by
  refine Met.ofW (cc := cX11_letter) (maxL := 10) (ret := some .int) (by decide) rfl ?_
  intro p e s m args below meth c s₁ BL hml hv
  obtain ⟨rfl, hI, hKK⟩ := hv
  have hx := BL.exec
  have hb := BL.bytes
  have hr := BL.returns
  have hts : ∀ w ∈ gtb, w.before _ s = true := fun w hw => atoms_spec BL.pre w (List.mem_cons_of_mem _ hw)
  have hml : c.maxLocals = 10 := hml
  have hown : s.vm.findClass RX11 = some m.cls := findClass_of_methodNamed BL.named
  have hlocks := BL.notSynchronized
  have hk0 := hI.1.2.2.2.2
  have hnn : ns ≤ ns := Nat.le_refl _
  have hl := lv_entry ([.ref (HB.size + 0), .int v1, .int v2, .int v3, .int v4, .int v5, .int v6, .int v7]) (n := 10) (Nat.le_of_ble_eq_true rfl)
  rw [lg_entry_eq]
  generalize (lg_sl ([.ref (HB.size + 0), .int v1, .int v2, .int v3, .int v4, .int v5, .int v6, .int v7]) ++ List.replicate (10 - (lg_sl ([.ref (HB.size + 0), .int v1, .int v2, .int v3, .int v4, .int v5, .int v6, .int v7])).length) Slot.unset).toArray = ls at hl ⊢
  have hl : lv_has ls 10 [(0, .ref (HB.size + 0)), (1, .int v1), (2, .int v2), (3, .int v3), (4, .int v4), (5, .int v5), (6, .int v6), (7, .int v7)] := hl
  generalize hargs : ([.ref (HB.size + 0), .int v1, .int v2, .int v3, .int v4, .int v5, .int v6, .int v7] : List Value).toArray = args at *
  obtain ⟨σ, hI, e0, e1, e3, e7, e9, e10, e13, e14, fr⟩ : ∃ σ : St, IV HB D y ns ns κs σ [] s.heap ∧ σ 0 = G0 ∧ σ 1 = G1 ∧ σ 3 = G3 ∧ σ 7 = G7 ∧ σ 9 = G9 ∧ σ 10 = G10 ∧ σ 13 = G13 ∧ σ 14 = G14 ∧ ∀ j, j ∉ W_X11_letter → σ j = σ0 j := ⟨σ0, hI, e0, e1, e3, e7, e9, e10, e13, e14, fun _ _ => rfl⟩
  show W p l e RM_X11_letter s m args below meth c s.heap [] 0 0 (MQ below (QCg (some (.int q.1)) (B_X11_letter HB D y ns σ0 q)) args s 4 262 (fun x => HB.size ≤ x)) (F0 m 0 ls [])
  generalize s.heap = H at hI ⊢
  unfold f_X11_letter at h
  obtain ⟨locs, hlocs⟩ : ∃ x : List Loc, x = [] := ⟨_, rfl⟩
  rw [← hlocs] at hI ⊢
  refine lv_aload_n hx hb dX11_letter_0 rfl (lv_at hl 0 rfl) ?_
  refine gf_X11_37 hx hb hts hown hKK hI hN dX11_letter_1 ?_
  refine lv_iload_n hx hb dX11_letter_4 rfl (lv_at hl 1 rfl) ?_
  obtain ⟨q_5, hq_5, h⟩ := ob_e h
  refine r_callV (As := [.int v1]) (rest := []) hx hb hml hts hown (c_X3_openPairAt l HB D y F ns κs σ hN v1 G7 e7 G9 e9 q_5 hq_5) cal_X3_openPairAt im_X3_openPairAt se_X3_openPairAt lm_X11_121 ⟨Nat.le_of_ble_eq_true rfl, Nat.le_of_ble_eq_true rfl⟩ hI.nil hKK (r_recv hKK hI (hE3 HB.size y) rfl (lc32 hN) (kc32 hk0)) rfl hl.1 hI.2.2 rfl (Nat.le_of_ble_eq_true rfl) dX11_letter_5 ⟨Nat.le_of_ble_eq_true rfl, Nat.le_of_ble_eq_true rfl⟩ rfl rfl rfl (fun H locs hB hlo => ?_)
  obtain ⟨hB, hf_5⟩ := hB
  have hI := hB.re hlo
  rcases om_e h with ⟨eo, h⟩ | ⟨t_5, eo, h⟩
  · refine topn eo ?_
    refine lv_astoreN (lv' := [(8, .null), (0, .ref (HB.size + 0)), (1, .int v1), (2, .int v2), (3, .int v3), (4, .int v4), (5, .int v5), (6, .int v6), (7, .int v7)]) hx hb dX11_letter_8 hl (by decide) rfl (fun ls hl => ?_)
    refine lv_aloadN hx hb dX11_letter_10 (lv_at hl 0 rfl) ?_
    refine lv_ifnullN (tgt := 37) hx hb dX11_letter_12 (by decide) ?_
    refine lv_iconst (v := (-1)) hx hb dX11_letter_37 (by decide) ?_
    have hq := Option.some.inj h
    refine W.widen (k := 4) (n := 262) (Nat.le_of_ble_eq_true rfl) (Nat.le_of_ble_eq_true rfl) ?_
    exact W.iret (v := (-1)) hx hb hr (fun t ht hW => qc_mk (congrArg (fun z => Outcome.returned (some (Value.int z.1))) hq) (by rw [ht, ← hq]; exact ⟨κs, σ, hI.nil, hnn, e0, e1, e3, e9, e10, e13, e14, fr⟩)) hI.2.2 dX11_letter_38 hlocks
  · refine topr eo ?_
    obtain ⟨ha_5, hk_5⟩ := hf_5 _ eo
    refine lv_astore (lv' := [(8, .ref (HB.size + t_5)), (0, .ref (HB.size + 0)), (1, .int v1), (2, .int v2), (3, .int v3), (4, .int v4), (5, .int v5), (6, .int v6), (7, .int v7)]) hx hb dX11_letter_8 hl (by decide) rfl (fun ls hl => ?_)
    refine lv_aload hx hb dX11_letter_10 (lv_at hl 0 rfl) ?_
    refine lv_ifnull hx hb dX11_letter_12 ?_
    refine lv_iload_n hx hb dX11_letter_15 rfl (lv_at hl 3 rfl) ?_
    refine lv_iconst (v := 0) hx hb dX11_letter_16 (by decide) ?_
    refine lv_iconst (v := 1) hx hb dX11_letter_17 (by decide) ?_
    obtain ⟨q_18, hq_18, h⟩ := ob_e h
    refine r_callS (As := [.int v2, .int 0, .int 1]) (rest := []) hx hb hml hts hown (c_X11_within l HB D y F ns κs σ hN v2 0 1  q_18 hq_18) cal_X11_within st_X11_within lm_X11_80 ⟨Nat.le_of_ble_eq_true rfl, Nat.le_of_ble_eq_true rfl⟩ hI.nil hKK rfl hl.1 hI.2.2 rfl (Nat.le_of_ble_eq_true rfl) dX11_letter_18 ⟨Nat.le_of_ble_eq_true rfl, Nat.le_of_ble_eq_true rfl⟩ rfl rfl rfl (fun H locs hB hlo => ?_)
    have hI := hB.re hlo
    refine lv_if_eq (tgt := 37) hx hb dX11_letter_21 (by decide) (fun hc => ?_) (fun hc => ?_)
    · replace h := ite_t hc h
      refine lv_iconst (v := (-1)) hx hb dX11_letter_37 (by decide) ?_
      have hq := Option.some.inj h
      refine W.widen (k := 4) (n := 262) (Nat.le_of_ble_eq_true rfl) (Nat.le_of_ble_eq_true rfl) ?_
      exact W.iret (v := (-1)) hx hb hr (fun t ht hW => qc_mk (congrArg (fun z => Outcome.returned (some (Value.int z.1))) hq) (by rw [ht, ← hq]; exact ⟨κs, σ, hI.nil, hnn, e0, e1, e3, e9, e10, e13, e14, fr⟩)) hI.2.2 dX11_letter_38 hlocks
    · replace h := ite_f hc h
      refine lv_aload_n hx hb dX11_letter_24 rfl (lv_at hl 1 rfl) ?_
      refine gf_X11_46 hx hb hts hown hKK hI hN dX11_letter_25 ?_
      refine gt_X11_169 hx hb hts hown hKK hI e10 (lc44 hN) (kc44 hk0) dX11_letter_28 ?_
      refine lv_sipush (v := 200) hx hb dX11_letter_31 (by decide) ?_
      refine lv_icmp_lt (tgt := 39) hx hb dX11_letter_34 (by decide) (fun hc => ?_) (fun hc => ?_)
      · replace h := ite_t hc h
        refine lv_iload_n hx hb dX11_letter_39 rfl (lv_at hl 4 rfl) ?_
        obtain ⟨q_40, hq_40, h⟩ := ob_e h
        refine r_callS (As := [.int v3]) (rest := []) hx hb hml hts hown (c_X11_isMark l HB D y F ns κs σ hN v3  q_40 hq_40) cal_X11_isMark st_X11_isMark lm_X11_170 ⟨Nat.le_of_ble_eq_true rfl, Nat.le_of_ble_eq_true rfl⟩ hI.nil hKK rfl hl.1 hI.2.2 rfl (Nat.le_of_ble_eq_true rfl) dX11_letter_40 ⟨Nat.le_of_ble_eq_true rfl, Nat.le_of_ble_eq_true rfl⟩ rfl rfl rfl (fun H locs hB hlo => ?_)
        have hI := hB.re hlo
        refine lv_if_eq (tgt := 79) hx hb dX11_letter_43 (by decide) (fun hc => ?_) (fun hc => ?_)
        · replace h := ite_t hc h
          refine lv_iconst (v := (-1)) hx hb dX11_letter_79 (by decide) ?_
          have hq := Option.some.inj h
          refine W.widen (k := 4) (n := 262) (Nat.le_of_ble_eq_true rfl) (Nat.le_of_ble_eq_true rfl) ?_
          exact W.iret (v := (-1)) hx hb hr (fun t ht hW => qc_mk (congrArg (fun z => Outcome.returned (some (Value.int z.1))) hq) (by rw [ht, ← hq]; exact ⟨κs, σ, hI.nil, hnn, e0, e1, e3, e9, e10, e13, e14, fr⟩)) hI.2.2 dX11_letter_80 hlocks
        · replace h := ite_f hc h
          refine lv_iload hx hb dX11_letter_46 (lv_at hl 5 rfl) ?_
          obtain ⟨q_48, hq_48, h⟩ := ob_e h
          refine r_callS (As := [.int v4]) (rest := []) hx hb hml hts hown (c_X11_isMark l HB D y F ns κs σ hN v4  q_48 hq_48) cal_X11_isMark st_X11_isMark lm_X11_170 ⟨Nat.le_of_ble_eq_true rfl, Nat.le_of_ble_eq_true rfl⟩ hI.nil hKK rfl hl.1 hI.2.2 rfl (Nat.le_of_ble_eq_true rfl) dX11_letter_48 ⟨Nat.le_of_ble_eq_true rfl, Nat.le_of_ble_eq_true rfl⟩ rfl rfl rfl (fun H locs hB hlo => ?_)
          have hI := hB.re hlo
          refine lv_if_eq (tgt := 79) hx hb dX11_letter_51 (by decide) (fun hc => ?_) (fun hc => ?_)
          · replace h := ite_t hc h
            refine lv_iconst (v := (-1)) hx hb dX11_letter_79 (by decide) ?_
            have hq := Option.some.inj h
            refine W.widen (k := 4) (n := 262) (Nat.le_of_ble_eq_true rfl) (Nat.le_of_ble_eq_true rfl) ?_
            exact W.iret (v := (-1)) hx hb hr (fun t ht hW => qc_mk (congrArg (fun z => Outcome.returned (some (Value.int z.1))) hq) (by rw [ht, ← hq]; exact ⟨κs, σ, hI.nil, hnn, e0, e1, e3, e9, e10, e13, e14, fr⟩)) hI.2.2 dX11_letter_80 hlocks
          · replace h := ite_f hc h
            refine lv_iload hx hb dX11_letter_54 (lv_at hl 6 rfl) ?_
            obtain ⟨q_56, hq_56, h⟩ := ob_e h
            refine r_callS (As := [.int v5]) (rest := []) hx hb hml hts hown (c_X11_isMark l HB D y F ns κs σ hN v5  q_56 hq_56) cal_X11_isMark st_X11_isMark lm_X11_170 ⟨Nat.le_of_ble_eq_true rfl, Nat.le_of_ble_eq_true rfl⟩ hI.nil hKK rfl hl.1 hI.2.2 rfl (Nat.le_of_ble_eq_true rfl) dX11_letter_56 ⟨Nat.le_of_ble_eq_true rfl, Nat.le_of_ble_eq_true rfl⟩ rfl rfl rfl (fun H locs hB hlo => ?_)
            have hI := hB.re hlo
            refine lv_if_eq (tgt := 79) hx hb dX11_letter_59 (by decide) (fun hc => ?_) (fun hc => ?_)
            · replace h := ite_t hc h
              refine lv_iconst (v := (-1)) hx hb dX11_letter_79 (by decide) ?_
              have hq := Option.some.inj h
              refine W.widen (k := 4) (n := 262) (Nat.le_of_ble_eq_true rfl) (Nat.le_of_ble_eq_true rfl) ?_
              exact W.iret (v := (-1)) hx hb hr (fun t ht hW => qc_mk (congrArg (fun z => Outcome.returned (some (Value.int z.1))) hq) (by rw [ht, ← hq]; exact ⟨κs, σ, hI.nil, hnn, e0, e1, e3, e9, e10, e13, e14, fr⟩)) hI.2.2 dX11_letter_80 hlocks
            · replace h := ite_f hc h
              refine lv_iload hx hb dX11_letter_62 (lv_at hl 7 rfl) ?_
              obtain ⟨q_64, hq_64, h⟩ := ob_e h
              refine r_callS (As := [.int v6]) (rest := []) hx hb hml hts hown (c_X11_isMark l HB D y F ns κs σ hN v6  q_64 hq_64) cal_X11_isMark st_X11_isMark lm_X11_170 ⟨Nat.le_of_ble_eq_true rfl, Nat.le_of_ble_eq_true rfl⟩ hI.nil hKK rfl hl.1 hI.2.2 rfl (Nat.le_of_ble_eq_true rfl) dX11_letter_64 ⟨Nat.le_of_ble_eq_true rfl, Nat.le_of_ble_eq_true rfl⟩ rfl rfl rfl (fun H locs hB hlo => ?_)
              have hI := hB.re hlo
              refine lv_if_eq (tgt := 79) hx hb dX11_letter_67 (by decide) (fun hc => ?_) (fun hc => ?_)
              · replace h := ite_t hc h
                refine lv_iconst (v := (-1)) hx hb dX11_letter_79 (by decide) ?_
                have hq := Option.some.inj h
                refine W.widen (k := 4) (n := 262) (Nat.le_of_ble_eq_true rfl) (Nat.le_of_ble_eq_true rfl) ?_
                exact W.iret (v := (-1)) hx hb hr (fun t ht hW => qc_mk (congrArg (fun z => Outcome.returned (some (Value.int z.1))) hq) (by rw [ht, ← hq]; exact ⟨κs, σ, hI.nil, hnn, e0, e1, e3, e9, e10, e13, e14, fr⟩)) hI.2.2 dX11_letter_80 hlocks
              · replace h := ite_f hc h
                refine lv_aload_n hx hb dX11_letter_70 rfl (lv_at hl 1 rfl) ?_
                refine lv_iload hx hb dX11_letter_71 (lv_at hl 8 rfl) ?_
                obtain ⟨q_73, hq_73, h⟩ := ob_e h
                refine r_callV (As := [.int v7]) (rest := []) hx hb hml hts hown (c_X11_tapeHasText l HB D y F ns κs σ hN v7 G1 e1 G3 e3 q_73 hq_73) cal_X11_tapeHasText im_X11_tapeHasText se_X11_tapeHasText lm_X11_147 ⟨Nat.le_of_ble_eq_true rfl, Nat.le_of_ble_eq_true rfl⟩ hI.nil hKK (r_recv hKK hI (hE11 HB.size y) rfl (lc0 hN) (kc0 hk0)) rfl hl.1 hI.2.2 rfl (Nat.le_of_ble_eq_true rfl) dX11_letter_73 ⟨Nat.le_of_ble_eq_true rfl, Nat.le_of_ble_eq_true rfl⟩ rfl rfl rfl (fun H locs hB hlo => ?_)
                have hI := hB.re hlo
                refine lv_if_ne (tgt := 81) hx hb dX11_letter_76 (by decide) (fun hc => ?_) (fun hc => ?_)
                · replace h := ite_f hc h
                  refine r_newLetter hx hb hts hown hKK hI hN (Nat.le_of_ble_eq_true rfl) (Nat.le_of_ble_eq_true rfl) dX11_letter_81 (fun κ H hka hkn hk1 hk2 hk3 hI => ?_)
                  have hNt : N0 ≤ ns := hN
                  have hN0 := hN
                  have hk0 := hI.1.2.2.2.2
                  have hlt_8 : t_5 < ns := by omega
                  refine lv_dup hx hb dX11_letter_84 rfl ?_
                  refine lv_aload hx hb dX11_letter_85 (lv_at hl 0 rfl) ?_
                  refine lv_iload_n hx hb dX11_letter_87 rfl (lv_at hl 3 rfl) ?_
                  refine lv_aload_n hx hb dX11_letter_88 rfl (lv_at hl 1 rfl) ?_
                  refine gt_X11_106 hx hb hts hown hKK hI e1 (Nat.lt_succ_of_lt (lc0 hNt)) (kc0 hk0) dX11_letter_89 ?_
                  refine lv_aload_n hx hb dX11_letter_92 rfl (lv_at hl 1 rfl) ?_
                  refine gf_X11_9 hx hb hts hown hKK hI hNt dX11_letter_93 ?_
                  refine lv_iload hx hb dX11_letter_96 (lv_at hl 8 rfl) ?_
                  obtain ⟨q_98, hq_98, h⟩ := ob_e h
                  refine r_callI (As := [.ref (HB.size + t_5), .int v2, .int (G1.1 0 0), .ref (HB.size + 1), .int v7]) (rest := [.ref (HB.size + ns)]) hx hb hml hts hown (k_X4_init l HB D y F κ σ ns hNt hkn hk1 hk2 hk3 t_5 (by omega) ((hka _ (by omega)).trans hk_5) v2 (G1.1 0 0) v7 G0 e0 G3 e3 G13 e13  q_98 hq_98) cal_X4_init rfl im_X4_init lm_X11_175 ⟨Nat.le_of_ble_eq_true rfl, Nat.le_of_ble_eq_true rfl⟩ hI.nil hKK rfl hl.1 hI.2.2 rfl (Nat.le_of_ble_eq_true rfl) dX11_letter_98 ⟨Nat.le_of_ble_eq_true rfl, Nat.le_of_ble_eq_true rfl⟩ rfl rfl rfl (fun H locs hB hlo => ?_)
                  obtain ⟨σ, hB, en0, en3, en13, ho⟩ := hB
                  have hI := hB.re hlo
                  have hoq := X4_own hq_98
                  have e0 := en0
                  have e3 := en3
                  have e13 := en13
                  have e1 := (ho 1 (ni rfl)).trans e1
                  have e7 := (ho 7 (ni rfl)).trans e7
                  have e9 := (ho 9 (ni rfl)).trans e9
                  have e10 := (ho 10 (ni rfl)).trans e10
                  have e14 := (ho 14 (ni rfl)).trans e14
                  have fr := frc fr ho (by decide)
                  have hI := hI.bump4 hNt hkn hk1 hk2 hk3 e0 e13 hoq (by omega) ((hka _ (by omega)).trans hk_5)
                  have hN : N0 ≤ ns + 4 := by omega
                  have hnn : ns ≤ ns + 4 := by omega
                  have hk0 := hI.1.2.2.2.2
                  refine lv_astore (lv' := [(9, .ref (HB.size + ns)), (8, .ref (HB.size + t_5)), (0, .ref (HB.size + 0)), (1, .int v1), (2, .int v2), (3, .int v3), (4, .int v4), (5, .int v5), (6, .int v6), (7, .int v7)]) hx hb dX11_letter_101 hl (by decide) rfl (fun ls hl => ?_)
                  refine lv_aload hx hb dX11_letter_103 (lv_at hl 0 rfl) ?_
                  refine gf_X11_178 hx hb hts hown hKK hI (by omega) hkn dX11_letter_105 ?_
                  refine lv_iconst (v := 0) hx hb dX11_letter_108 (by decide) ?_
                  refine lv_iload_n hx hb dX11_letter_109 rfl (lv_at hl 5 rfl) ?_
                  obtain ⟨hin_, h⟩ := ck_e h
                  obtain ⟨G14_110, qq, h⟩ := bn_e h
                  refine sa_77 hx hb hKK hI e14 (ownF hI (by omega) hkn 1 rfl).2.1 (ownF hI (by omega) hkn 1 rfl).2.2 hin_ dX11_letter_110 (fun σ H locs hI ew ho => ?_)
                  have e14 := ew.trans qq.symm
                  have e0 := (ho 0 (nn rfl)).trans e0
                  have e1 := (ho 1 (nn rfl)).trans e1
                  have e3 := (ho 3 (nn rfl)).trans e3
                  have e7 := (ho 7 (nn rfl)).trans e7
                  have e9 := (ho 9 (nn rfl)).trans e9
                  have e10 := (ho 10 (nn rfl)).trans e10
                  have e13 := (ho 13 (nn rfl)).trans e13
                  have fr := frs fr ho (by decide)
                  refine lv_aload hx hb dX11_letter_111 (lv_at hl 0 rfl) ?_
                  refine gf_X11_178 hx hb hts hown hKK hI (by omega) hkn dX11_letter_113 ?_
                  refine lv_iconst (v := 1) hx hb dX11_letter_116 (by decide) ?_
                  refine lv_iload hx hb dX11_letter_117 (lv_at hl 6 rfl) ?_
                  obtain ⟨hin_, h⟩ := ck_e h
                  obtain ⟨G14_119, qq, h⟩ := bn_e h
                  refine sa_77 hx hb hKK hI e14 (ownF hI (by omega) hkn 1 rfl).2.1 (ownF hI (by omega) hkn 1 rfl).2.2 hin_ dX11_letter_119 (fun σ H locs hI ew ho => ?_)
                  have e14 := ew.trans qq.symm
                  have e0 := (ho 0 (nn rfl)).trans e0
                  have e1 := (ho 1 (nn rfl)).trans e1
                  have e3 := (ho 3 (nn rfl)).trans e3
                  have e7 := (ho 7 (nn rfl)).trans e7
                  have e9 := (ho 9 (nn rfl)).trans e9
                  have e10 := (ho 10 (nn rfl)).trans e10
                  have e13 := (ho 13 (nn rfl)).trans e13
                  have fr := frs fr ho (by decide)
                  refine lv_aload hx hb dX11_letter_120 (lv_at hl 0 rfl) ?_
                  refine gf_X11_178 hx hb hts hown hKK hI (by omega) hkn dX11_letter_122 ?_
                  refine lv_iconst (v := 2) hx hb dX11_letter_125 (by decide) ?_
                  refine lv_iload hx hb dX11_letter_126 (lv_at hl 7 rfl) ?_
                  obtain ⟨hin_, h⟩ := ck_e h
                  obtain ⟨G14_128, qq, h⟩ := bn_e h
                  refine sa_77 hx hb hKK hI e14 (ownF hI (by omega) hkn 1 rfl).2.1 (ownF hI (by omega) hkn 1 rfl).2.2 hin_ dX11_letter_128 (fun σ H locs hI ew ho => ?_)
                  have e14 := ew.trans qq.symm
                  have e0 := (ho 0 (nn rfl)).trans e0
                  have e1 := (ho 1 (nn rfl)).trans e1
                  have e3 := (ho 3 (nn rfl)).trans e3
                  have e7 := (ho 7 (nn rfl)).trans e7
                  have e9 := (ho 9 (nn rfl)).trans e9
                  have e10 := (ho 10 (nn rfl)).trans e10
                  have e13 := (ho 13 (nn rfl)).trans e13
                  have fr := frs fr ho (by decide)
                  refine lv_aload hx hb dX11_letter_129 (lv_at hl 0 rfl) ?_
                  refine gf_X11_178 hx hb hts hown hKK hI (by omega) hkn dX11_letter_131 ?_
                  refine lv_iconst (v := 3) hx hb dX11_letter_134 (by decide) ?_
                  refine lv_iload hx hb dX11_letter_135 (lv_at hl 8 rfl) ?_
                  obtain ⟨hin_, h⟩ := ck_e h
                  obtain ⟨G14_137, qq, h⟩ := bn_e h
                  refine sa_77 hx hb hKK hI e14 (ownF hI (by omega) hkn 1 rfl).2.1 (ownF hI (by omega) hkn 1 rfl).2.2 hin_ dX11_letter_137 (fun σ H locs hI ew ho => ?_)
                  have e14 := ew.trans qq.symm
                  have e0 := (ho 0 (nn rfl)).trans e0
                  have e1 := (ho 1 (nn rfl)).trans e1
                  have e3 := (ho 3 (nn rfl)).trans e3
                  have e7 := (ho 7 (nn rfl)).trans e7
                  have e9 := (ho 9 (nn rfl)).trans e9
                  have e10 := (ho 10 (nn rfl)).trans e10
                  have e13 := (ho 13 (nn rfl)).trans e13
                  have fr := frs fr ho (by decide)
                  refine lv_aload_n hx hb dX11_letter_138 rfl (lv_at hl 2 rfl) ?_
                  refine lv_iconst (v := 0) hx hb dX11_letter_139 (by decide) ?_
                  obtain ⟨G1_140, qq, h⟩ := bn_e h
                  refine pt_X11_136 hx hb hts hown hKK hI e1 (lc0 hN) (kc0 hk0) dX11_letter_140 (fun σ H locs hI ew ho => ?_)
                  have e1 := ew.trans qq.symm
                  have e0 := (ho 0 (nn rfl)).trans e0
                  have e3 := (ho 3 (nn rfl)).trans e3
                  have e7 := (ho 7 (nn rfl)).trans e7
                  have e9 := (ho 9 (nn rfl)).trans e9
                  have e10 := (ho 10 (nn rfl)).trans e10
                  have e13 := (ho 13 (nn rfl)).trans e13
                  have e14 := (ho 14 (nn rfl)).trans e14
                  have fr := frs fr ho (by decide)
                  refine lv_aload_n hx hb dX11_letter_143 rfl (lv_at hl 2 rfl) ?_
                  refine gf_X11_46 hx hb hts hown hKK hI hN dX11_letter_144 ?_
                  refine lv_aload hx hb dX11_letter_147 (lv_at hl 0 rfl) ?_
                  obtain ⟨q_149, hq_149, h⟩ := ob_e h
                  refine r_callV (As := [.ref (HB.size + ns)]) (rest := []) hx hb hml hts hown (c_X6_add l HB D y F (ns + 4) κ σ hN ns (by omega) hkn G9 e9 G10 e10 (q_98.2.2) e13 q_149 hq_149) cal_X6_add im_X6_add se_X6_add lm_X11_181 ⟨Nat.le_of_ble_eq_true rfl, Nat.le_of_ble_eq_true rfl⟩ hI.nil hKK (r_recv hKK hI (hE6 HB.size y) rfl (lc44 hN) (kc44 hk0)) rfl hl.1 hI.2.2 rfl (Nat.le_of_ble_eq_true rfl) dX11_letter_149 ⟨Nat.le_of_ble_eq_true rfl, Nat.le_of_ble_eq_true rfl⟩ rfl rfl rfl (fun H locs hB hlo => ?_)
                  obtain ⟨σ, hB, en9, en10, ho⟩ := hB
                  have hI := hB.re hlo
                  have e9 := en9
                  have e10 := en10
                  have e0 := (ho 0 (ni rfl)).trans e0
                  have e1 := (ho 1 (ni rfl)).trans e1
                  have e3 := (ho 3 (ni rfl)).trans e3
                  have e7 := (ho 7 (ni rfl)).trans e7
                  have e13 := (ho 13 (ni rfl)).trans e13
                  have e14 := (ho 14 (ni rfl)).trans e14
                  have fr := frc fr ho (by decide)
                  have hq := Option.some.inj h
                  refine W.widen (k := 4) (n := 262) (Nat.le_of_ble_eq_true rfl) (Nat.le_of_ble_eq_true rfl) ?_
                  exact W.iret (v := q_149.1) hx hb hr (fun t ht hW => qc_mk (congrArg (fun z => Outcome.returned (some (Value.int z.1))) hq) (by rw [ht, ← hq]; exact ⟨κ, σ, hI.nil, hnn, e0, e1, e3, e9, e10, e13, e14, fr⟩)) hI.2.2 dX11_letter_152 hlocks
                · replace h := ite_t hc h
                  refine lv_iconst (v := (-1)) hx hb dX11_letter_79 (by decide) ?_
                  have hq := Option.some.inj h
                  refine W.widen (k := 4) (n := 262) (Nat.le_of_ble_eq_true rfl) (Nat.le_of_ble_eq_true rfl) ?_
                  exact W.iret (v := (-1)) hx hb hr (fun t ht hW => qc_mk (congrArg (fun z => Outcome.returned (some (Value.int z.1))) hq) (by rw [ht, ← hq]; exact ⟨κs, σ, hI.nil, hnn, e0, e1, e3, e9, e10, e13, e14, fr⟩)) hI.2.2 dX11_letter_80 hlocks
      · replace h := ite_f hc h
        refine lv_iconst (v := (-1)) hx hb dX11_letter_37 (by decide) ?_
        have hq := Option.some.inj h
        refine W.widen (k := 4) (n := 262) (Nat.le_of_ble_eq_true rfl) (Nat.le_of_ble_eq_true rfl) ?_
        exact W.iret (v := (-1)) hx hb hr (fun t ht hW => qc_mk (congrArg (fun z => Outcome.returned (some (Value.int z.1))) hq) (by rw [ht, ← hq]; exact ⟨κs, σ, hI.nil, hnn, e0, e1, e3, e9, e10, e13, e14, fr⟩)) hI.2.2 dX11_letter_38 hlocks
