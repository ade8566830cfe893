theorem qc_mk {v : Option Value} {B : Heap → Prop} {a : Array Value} {s t : State} {oc : Outcome} (h1 : oc = .returned v) (h2 : B t.heap) : QCg v B a s oc t := ⟨h1, h2⟩
theorem acq {b x y : Nat} (h : some (b + x) = some (b + y)) : x = y := Nat.add_left_cancel (Option.some.inj h)
theorem swo {x : Int32} {lo hi : Int} (h : ∀ j, lo ≤ j → j ≤ hi → ¬ x.toInt = j) : x.toInt < lo ∨ hi < x.toInt := by
  by_cases h1 : x.toInt < lo
  · exact Or.inl h1
  · by_cases h2 : hi < x.toInt
    · exact Or.inr h2
    · exact absurd rfl (h x.toInt (by omega) (by omega))
theorem rfv_or (b : Nat) (o : Option Nat) : rfv b o = .null ∨ ∃ a, rfv b o = .ref a := by
  cases o with
  | none => exact Or.inl rfl
  | some t => exact Or.inr ⟨_, rfl⟩
theorem TF.setT {n : Nat} {κ : Nat → Nat} {σ : St} {g a k kd K : Nat} {x : Option Nat} (h : TF n κ σ) (hg : g ≠ 0) (hk : κ a = kd) (h1 : ∀ q ∈ typL kd, q.1 = g → q.2.1 = k → q.2.2 = K) (h2 : ∀ q ∈ tarL kd, q.2 = K) (hx : ∀ t, x = some t → t < n ∧ κ t = K) : TF n κ (sg σ g (gR (σ g) a k x)) := by
  have h0 : (sg σ g (gR (σ g) a k x)) 0 = σ 0 := sg_ne _ _ (Ne.symm hg)
  refine ⟨fun hn q hq => by rw [h0]; exact h.1 hn q hq, fun b hb => ⟨fun q hq => by rw [h0]; exact (h.2 b hb).1 q hq, fun q hq t ht => ?_, fun q hq j t ht => ?_⟩⟩
  · by_cases e : q.1 = g
    · rw [e, sg_same] at ht
      simp only [gR] at ht
      split at ht
      · rename_i c
        have hkd : kd = κ b := by rw [← hk, c.1]
        subst hkd
        rw [h1 q hq e c.2]
        exact hx t ht
      · rw [← e] at ht
        exact (h.2 b hb).2.1 q hq t ht
    · rw [sg_ne _ _ e] at ht
      exact (h.2 b hb).2.1 q hq t ht
  · by_cases e : q.1 = g
    · rw [e, sg_same] at ht
      simp only [gR] at ht
      split at ht
      · rename_i c
        have hkd : kd = κ b := by rw [← hk, c.1]
        subst hkd
        rw [h2 q hq]
        exact hx t ht
      · rw [← e] at ht
        exact (h.2 b hb).2.2 q hq j t ht
    · rw [sg_ne _ _ e] at ht
      exact (h.2 b hb).2.2 q hq j t ht
section W06
variable {p : Program} {l : Launch} {e : Env} {R : Room} {s : State} {m : MethodId} {args : Array Value} {below : List Frame} {meth : Method} {c : Code} {H : Heap} {locs : List Loc} {cells slots : Nat} {Q : State → Prop}
variable {cc : ByteArray} {pc : Nat} {ls : Array Slot} {rest : List Value} {HB : Heap} {D : va_G} {y : Nat → ClassId} {n0 n : Nat} {κ : Nat → Nat} {σ : St} {a : Nat}
theorem r_alen13 (hx : p.tables.exec = Jvm.exec) (hb : c.code = cc) (hKK : KK HB D y s) (hI : IV HB D y n0 n κ σ locs H) {G : Grp} (hG : σ 3 = G) (ha : a < n) (hk : κ a = 13) (hdg : decode cc pc = .ok (.arraylength, 1))
    (kk : W p l e R s m args below meth c H locs cells slots Q (F0 m (pc + 1) ls (.int (nI ((G.2.2 a 0).getD 0)) :: rest))) : W p l e R s m args below meth c H locs cells slots Q (F0 m pc ls (.ref (HB.size + a) :: rest)) := by
  subst hG
  exact r_alen hx hb hKK hI (g := 3) (Lf := fun r => (r 3 0).getD 0) (fun _ _ _ => rfl) ha hk hdg kk
theorem r_sld (hx : p.tables.exec = Jvm.exec) (hb : c.code = cc) (hI : IV HB D y n0 n κ σ locs H) {t : Nat} {f : Nat → Int32} (hT : va_T .int t 8 (fun j => .int (f j)) (fun q => HB.size ≤ q) s HB) {i : Int32} (hin : vp_in i 8) (hdg : decode cc pc = .ok (.iaload, 1))
    (kk : W p l e R s m args below meth c H locs cells slots Q (F0 m (pc + 1) ls (.int (f i.toNatClampNeg) :: rest))) : W p l e R s m args below meth c H locs cells slots Q (F0 m pc ls (.int i :: .ref t :: rest)) := by
  obtain ⟨cell, h1, h2, h3, h4, h5, h6, h7⟩ := hT
  have ht : t < HB.size := Nat.not_le.mp h7
  have hlt : i.toNatClampNeg < 8 := Nat.not_le.mp fun q => hin (Or.inr q)
  refine W.iald (v := .int (f i.toNatClampNeg)) hx hb (by rw [hI.1.2.1 t ht]; exact h1) h2 h3 ?_ (h6 _ hlt) rfl rfl hdg kk
  intro q
  rcases q with q | q
  · exact hin (Or.inl q)
  · omega
theorem r_gets (hx : p.tables.exec = Jvm.exec) (hb : c.code = cc) (hts : ∀ w ∈ gtb, w.before args s = true) {own : String} (hown : s.vm.findClass own = some m.cls) {n1 n2 : Nat} {κ1 : Nat → Nat} {σ1 : St} (hI0 : IV HB D y n1 n2 κ1 σ1 [] s.heap) (hI : IV HB D y n0 n κ σ locs H) (hsz : s.heap.size ≤ H.size) {nm : String} {t idx : Nat} (hZ : va_Z "ChildLetters" nm "[I" (.ref t) (fun q => HB.size ≤ q) s HB) (hl : Cond.fieldLink own idx "ChildLetters" nm "[I" ∈ gtb) (hdg : decode cc pc = .ok (.getstatic idx, 3))
    (kk : W p l e R s m args below meth c H locs cells slots Q (F0 m (pc + 3) ls (.ref t :: rest))) : W p l e R s m args below meth c H locs cells slots Q (F0 m pc ls rest) := by
  have hZ2 : va_Z "ChildLetters" nm "[I" (.ref t) (fun q => HB.size ≤ q) s s.heap := hZ.kept fun a ha hA => hI0.1.2.1 a ha
  refine va_gets hx hb hZ2 (H := H) ⟨hsz, fun q h1 h2 => ?_, hI.2.2⟩ hown (hts _ hl) (fun x h => h) hdg kk
  have hq : q < HB.size := Nat.not_le.mp h2
  rw [hI.1.2.1 q hq, hI0.1.2.1 q hq]
end W06
-- a row copied into a row of the same kind
def gC (G : Grp) (a : Nat) (f : Nat → Int32) : Grp := (fun b j => if b = a then f j else G.1 b j, G.2)
def cy {α : Type} (sp dp n : Int32) (L : Nat) (x : Option α) : Option α := if sp < 0 ∨ dp < 0 ∨ n < 0 ∨ L < sp.toNatClampNeg + n.toNatClampNeg ∨ L < dp.toNatClampNeg + n.toNatClampNeg then none else x
theorem cy_e {α : Type} {sp dp n : Int32} {L : Nat} {x : Option α} {r : α} (h : cy sp dp n L x = some r) : (¬ sp < 0 ∧ ¬ dp < 0 ∧ ¬ n < 0 ∧ sp.toNatClampNeg + n.toNatClampNeg ≤ L ∧ dp.toNatClampNeg + n.toNatClampNeg ≤ L) ∧ x = some r := by
  unfold cy at h
  split at h
  · cases h
  · rename_i q
    refine ⟨⟨fun z => q (Or.inl z), fun z => q (Or.inr (Or.inl z)), fun z => q (Or.inr (Or.inr (Or.inl z))), ?_, ?_⟩, h⟩
    · exact Nat.not_lt.mp fun z => q (Or.inr (Or.inr (Or.inr (Or.inl z))))
    · exact Nat.not_lt.mp fun z => q (Or.inr (Or.inr (Or.inr (Or.inr z))))
theorem offS_C (σ : St) (g a : Nat) (f : Nat → Int32) : offS σ (sg σ g (gC (σ g) a f)) a := by
  intro g' b hb
  by_cases e : g' = g
  · subst e
    rw [sg_same]
    exact ⟨by funext j; simp [gC, hb], rfl, rfl⟩
  · rw [sg_ne _ _ e]
    exact ⟨rfl, rfl, rfl⟩
theorem slI_C (σ : St) (g a : Nat) (f : Nat → Int32) : slI (sg σ g (gC (σ g) a f)) a = fun h j => if h = g then f j else slI σ a h j := by
  funext h j
  by_cases e : h = g
  · subst e; simp [slI, sg, gC]
  · simp [slI, sg, e]
theorem slJ_C (σ : St) (g a : Nat) (f : Nat → Int32) : slJ (sg σ g (gC (σ g) a f)) a = slJ σ a := by
  funext h j
  by_cases e : h = g
  · subst e; simp [slJ, sg, gC]
  · simp [slJ, sg, e]
theorem slR_C (σ : St) (g a : Nat) (f : Nat → Int32) : slR (sg σ g (gC (σ g) a f)) a = slR σ a := by
  funext h j
  by_cases e : h = g
  · subst e; simp [slR, sg, gC]
  · simp [slR, sg, e]
theorem sgC_R (σ : St) (g a : Nat) (f : Nat → Int32) : ∀ h, ((sg σ g (gC (σ g) a f)) h).2.2 = (σ h).2.2 := by
  intro h
  by_cases e : h = g
  · subst e; rw [sg_same]; rfl
  · rw [sg_ne _ _ e]
theorem nnI (z : Int32) (hz : ¬ z < 0) : z.toInt = (z.toNatClampNeg : Int) := by
  have hz0 : (0 : Int) ≤ z.toInt := by
    have h := Int32.le_iff_toInt_le.mp (Int32.not_lt.mp hz)
    simpa using h
  show z.toInt = ((z.toInt.toNat : Nat) : Int)
  omega
section W06b
variable {p : Program} {l : Launch} {e : Env} {R : Room} {s : State} {m : MethodId} {args : Array Value} {below : List Frame} {meth : Method} {c : Code} {H : Heap} {locs : List Loc} {cells slots : Nat} {Q : State → Prop}
variable {cc : ByteArray} {pc : Nat} {ls : Array Slot} {rest : List Value} {HB : Heap} {D : va_G} {y : Nat → ClassId} {n0 n : Nat} {κ : Nat → Nat} {σ : St} {a b kd : Nat}
theorem r_acopy (hx : p.tables.exec = Jvm.exec) (hb : c.code = cc) (hml : c.maxLocals = ls.size) (hts : ∀ w ∈ gtb, w.before args s = true) {own : String} (hown : s.vm.findClass own = some m.cls) (hKK : KK HB D y s) (hI : IV HB D y n0 n κ σ locs H) {g L index : Nat} (hE : ∀ i j r, entS kd HB.size y i j r = .inl (y 0, L, .inl (i g))) {G : Grp} (hG : σ g = G) (ha : a < n) (hka : κ a = kd) (hbn : b < n) (hkb : κ b = kd) {sp dp k : Int32} (hcy : ¬ sp < 0 ∧ ¬ dp < 0 ∧ ¬ k < 0 ∧ sp.toNatClampNeg + k.toNatClampNeg ≤ L ∧ dp.toNatClampNeg + k.toNatClampNeg ≤ L) (hlk : Cond.methodLink own index arraycopyName ∈ gtb) (hframes : 1 ≤ R.frames) (hlocals : (rest.map fun v => v.category).sum + (nativeFrameWords "java/lang/System" "arraycopy" 5 + 11) ≤ R.locals) (hdg : decode cc pc = .ok (.invokestatic index, 3))
    (kk : ∀ (σ' : St) (H' : Heap) (locs' : List Loc), IV HB D y n0 n κ σ' locs' H' → σ' g = gC G b (va_cpy (G.1 a) (G.1 b) sp.toNatClampNeg dp.toNatClampNeg k.toNatClampNeg) → (∀ j, j ≠ g → σ' j = σ j) → W p l e R s m args below meth c H' locs' cells slots Q (F0 m (pc + 3) ls rest)) : W p l e R s m args below meth c H locs cells slots Q (F0 m pc ls (.int k :: .int dp :: .ref (HB.size + b) :: .int sp :: .ref (HB.size + a) :: rest)) := by
  subst hG
  obtain ⟨h1, h2, h3, h4, h5⟩ := hcy
  have hc0 := hI.at ha hka
  have hc1 := hI.at hbn hkb
  rw [hE] at hc0 hc1
  have hnat : (Cond.native arraycopyName).before args s = true := hts _ (gtb_t 740 (by decide +kernel) (by decide +kernel))
  have hstat : (Cond.static arraycopyName).before args s = true := hts _ (gtb_t 739 (by decide +kernel) (by decide +kernel))
  have hini : (Cond.initialized "java/lang/System").before args s = true := hts _ (gtb_t 15 (by decide +kernel) (by decide +kernel))
  intro T hT X
  obtain ⟨-, k0, hk0, cm0, hkk0⟩ := (hKK.1.2 0 _ rfl).1 L (fun j => .int (slI σ a g j))
  obtain ⟨vm', X', step⟩ := X.arraycopy hx hown (hts _ hlk) hnat hstat hini (src := HB.size + a) (dst := HB.size + b) (cs := vp_cell (y 0) (L, .inl (slI σ a g))) (cd := vp_cell (y 0) (L, .inl (slI σ b g))) (srcPos := sp) (destPos := dp) (n := k) (by rw [hT]; exact hc0) (by rw [hT]; exact hc1)
    (fun _ h => by cases h) (fun _ h => by cases h) (fun h => by cases h) (fun h => by cases h) hk0 hk0 hkk0 hkk0 (by simp [refKind]) h1 h2 h3
    (by rw [nnI sp h1, nnI k h3]; show ¬ _ > ((arrV (y 0) L (fun j => .int (slI σ a g j))).slots.size : Int); rw [arrV_size]; omega)
    (by rw [nnI dp h2, nnI k h3]; show ¬ _ > ((arrV (y 0) L (fun j => .int (slI σ b g j))).slots.size : Int); rw [arrV_size]; omega)
    (fun vm₁ _ i hi => by
      have e : (vp_cell (y 0) (L, .inl (slI σ a g))).slots.getD (sp.toNatClampNeg + i) .null = .int (slI σ a g (sp.toNatClampNeg + i)) := by
        show (arrV (y 0) L (fun j => .int (slI σ a g j))).slots.getD _ _ = _
        rw [Array.getD_eq_getD_getElem?, arrV_read _ _ (by omega)]
        rfl
      refine ⟨?_, ?_⟩
      · rw [e]; rfl
      · rw [e]; exact trivial)
    (g := F0 m pc ls (.int k :: .int dp :: .ref (HB.size + b) :: .int sp :: .ref (HB.size + a) :: rest)) rfl (by rw [hml]) (rest := rest) rfl (by rw [hb]; exact hdg) hframes (by show 2 * 0 + _ + _ ≤ _; omega)
  have e1 : copied (vp_cell (y 0) (L, .inl (slI σ a g))) (vp_cell (y 0) (L, .inl (slI σ b g))) sp dp k = vp_cell (y 0) (L, .inl (va_cpy (slI σ a g) (slI σ b g) sp.toNatClampNeg dp.toNatClampNeg k.toNatClampNeg)) := va_copied (fun z => .int z) (y 0) (y 0) (slI σ a g) (slI σ b g) h4
  rw [e1] at X' step
  have hl : HB.size + b < H.size := by have := hI.1.1; omega
  have hat : va_at D vwCl (HB.size + b, ent HB.size y (sg σ g (gC (σ g) b (va_cpy (slI σ a g) (slI σ b g) sp.toNatClampNeg dp.toNatClampNeg k.toNatClampNeg))) (κ b) b) (H.setIfInBounds (HB.size + b) (vp_cell (y 0) (L, .inl (va_cpy (slI σ a g) (slI σ b g) sp.toNatClampNeg dp.toNatClampNeg k.toNatClampNeg)))) := by
    unfold ent
    rw [slI_C, slJ_C, slR_C, hkb, hE]
    show (H.setIfInBounds (HB.size + b) _)[HB.size + b]? = some (vp_cell _ _)
    simp [Array.getElem?_setIfInBounds, hl]
  have oq : ∀ q : Nat, q ≠ HB.size + b → (H.setIfInBounds (HB.size + b) (vp_cell (y 0) (L, .inl (va_cpy (slI σ a g) (slI σ b g) sp.toNatClampNeg dp.toNatClampNeg k.toNatClampNeg))))[q]? = H[q]? := fun q hq => by simp [Array.getElem?_setIfInBounds, Ne.symm hq]
  obtain ⟨t, a1, b1⟩ := kk _ _ _ ⟨hI.1.put hbn (by simp) oq (offS_C σ g b _) hat, ⟨hI.2.1.1, hI.2.1.2.to (sgC_R σ g b _)⟩, fun q hq => by
      rcases List.mem_append.mp hq with h | h
      · exact hI.2.2 q h
      · obtain ⟨z, -, hz⟩ := List.mem_map.mp h
        rw [← hz]
        exact Nat.le_add_right _ _⟩ (sg_same _ _ _) (fun j hj => sg_ne _ _ hj) _ (show ((T.setVm vm').setCell _ _).heap = _ by rw [← hT]; rfl) X'
  exact ⟨t, step t a1, b1⟩
end W06b
theorem mw_max : Cond.static Lib.Math.max.name ∈ gtb ∧ Cond.code Lib.Math.max.name Lib.Math.max.code 2 (some .int) ∈ gtb := ⟨gtb_t 709 (by decide +kernel) (by decide +kernel), gtb_t 710 (by decide +kernel) (by decide +kernel)⟩
theorem mw_min : Cond.static Lib.Math.min.name ∈ gtb ∧ Cond.code Lib.Math.min.name Lib.Math.min.code 2 (some .int) ∈ gtb := ⟨gtb_t 610 (by decide +kernel) (by decide +kernel), gtb_t 611 (by decide +kernel) (by decide +kernel)⟩
theorem mw_abs : Cond.static Lib.Math.abs.name ∈ gtb ∧ Cond.code Lib.Math.abs.name Lib.Math.abs.code 1 (some .int) ∈ gtb := ⟨gtb_t 867 (by decide +kernel) (by decide +kernel), gtb_t 868 (by decide +kernel) (by decide +kernel)⟩
theorem mw_ini : Cond.initialized "java/lang/Math" ∈ gtb := gtb_t 13 (by decide +kernel) (by decide +kernel)
