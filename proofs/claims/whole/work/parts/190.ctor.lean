theorem TF.setT' {n : Nat} {κ : Nat → Nat} {σ : St} {g a k : Nat} {x : Option Nat} (h : TF n κ σ) (hg : g ≠ 0) (hx : ∀ b, b < n → b ≠ a) : TF n κ (sg σ g (gR (σ g) a k x)) := by
  have h0 : (sg σ g (gR (σ g) a k x)) 0 = σ 0 := sg_ne _ _ (Ne.symm hg)
  have h1 : ∀ j b, b < n → ((sg σ g (gR (σ g) a k x)) j).2.2 b = (σ j).2.2 b := by
    intro j b hb
    by_cases e : j = g
    · subst e; rw [sg_same]; exact gR_off _ k x (hx b hb)
    · rw [sg_ne _ _ e]
  refine ⟨fun hn q hq => by rw [h0]; exact h.1 hn q hq, fun b hb => ⟨fun q hq => by rw [h0]; exact (h.2 b hb).1 q hq, fun q hq t ht => ?_, fun q hq j t ht => ?_⟩⟩
  · rw [h1 _ b hb] at ht
    exact (h.2 b hb).2.1 q hq t ht
  · rw [h1 _ b hb] at ht
    exact (h.2 b hb).2.2 q hq j t ht
theorem TF0 (κ : Nat → Nat) (σ : St) : TF 0 κ σ := ⟨fun h => absurd h (by decide), fun a h => absurd h (Nat.not_lt_zero a)⟩
def KKo (HB : Heap) (D : va_G) (y : Nat → ClassId) (U : State) : Prop := KK HB D y U ∧ va_AO "ChildLetters$Letter" U ∧ va_AO "ChildLetters$Pair" U
theorem KKo.warm {HB : Heap} {D : va_G} {y : Nat → ClassId} {s U : State} (hW : s.WarmedH U.vm) (h : KKo HB D y s) : KKo HB D y U := ⟨h.1.warm hW, h.2.1.moved hW.alike, h.2.2.moved hW.alike⟩
theorem KKo.call {HB : Heap} {D : va_G} {y : Nat → ClassId} {U : State} {g : JFrame} {mk : MethodId} {a : Array Value} (h : KKo HB D y U) : KKo HB D y (U.calling g mk a) := ⟨h.1.call, va_AO.moved (u := U) (U := U.calling g mk a) (Vm.Alike.refl U.vm) h.2.1, va_AO.moved (u := U) (U := U.calling g mk a) (Vm.Alike.refl U.vm) h.2.2⟩
def MTo (l : Launch) (HB : Heap) (D : va_G) (y : Nat → ClassId) (ym : MethodName) (b : ByteArray) (L : Nat) (ret : Option FieldType) (rm : Room) (av : List Value) (A : Heap → Prop) (v : Option Value) (B : Heap → Prop) : Prop := Met l ym (.code ym b L ret :: gtb) rm (va_Pc av (fun U => A U.heap ∧ KKo HB D y U)) (QCg v B) rm.cells rm.slots (fun q => HB.size ≤ q)
theorem pcBlindo {HB : Heap} {D : va_G} {y : Nat → ClassId} {av : List Value} {A : Heap → Prop} : FrameBlind (va_Pc av (fun U => A U.heap ∧ KKo HB D y U)) := fun _ _ _ _ q => ⟨q.1, q.2.1, q.2.2.call⟩
theorem obI : Cond.instanceMethod Lib.objectInit ∈ gtb ∧ Cond.code Lib.objectInit ⟨#[0xb1]⟩ 1 none ∈ gtb := ⟨gtb_t 23 (by decide +kernel) (by decide +kernel), gtb_t 24 (by decide +kernel) (by decide +kernel)⟩
section RULES7
variable {p : Program} {l : Launch} {e : Env} {R : Room} {s : State} {m : MethodId} {args : Array Value} {below : List Frame} {meth : Method} {c : Code} {H : Heap} {locs : List Loc} {cells slots : Nat} {Q : State → Prop}
variable {cc : ByteArray} {pc nL nn bb L index : Nat} {ls : Array Slot} {rest st0 st1 : List Value} {HB : Heap} {D : va_G} {y : Nat → ClassId} {ym : MethodName} {b : ByteArray} {ret : Option FieldType} {rm : Room} {As : List Value} {A B : Heap → Prop} {v : Option Value} {own host : String} {cells' slots' : Nat} {n0 n : Nat} {κ : Nat → Nat} {σ : St}
theorem r_callIo (hx : p.tables.exec = Jvm.exec) (hb : c.code = cc) (hml : c.maxLocals = nL) (hts : ∀ w ∈ gtb, w.before args s = true) (hown : s.vm.findClass own = some m.cls) (hM : MTo l HB D y ym b L none rm (.ref bb :: As) A v B) (cal : calOK ym b L none nn) (hyn : ym.name = "<init>") (hins : Cond.instanceMethod ym ∈ gtb) (hl : Cond.methodLink own index ym ∈ gtb) (hR : rm.frames + 1 ≤ R.frames ∧ 8 + (L + 11) + rm.locals ≤ R.locals) (hA : A H) (hKK : KKo HB D y s) (hn : As.length = nn) (hsz : ls.size = nL) (hlo : ∀ l ∈ locs, HB.size ≤ l.base) (hs0 : st0 = As.reverse ++ .ref bb :: rest) (hroom : (rest.map fun v => v.category).sum ≤ 8) (hdg : decode cc pc = .ok (.invokespecial index, 3)) (hf : cells + rm.cells ≤ R.cells ∧ slots + rm.slots ≤ R.slots) (hs1 : v.toList ++ rest = st1) (hc1 : cells + rm.cells = cells') (hc2 : slots + rm.slots = slots')
    (kk : ∀ (H1 : Heap) (locs1 : List Loc), B H1 → (∀ l ∈ locs1, HB.size ≤ l.base) → W p l e R s m args below meth c H1 locs1 cells' slots' Q (F0 m (pc + 3) ls st1)) : W p l e R s m args below meth c H locs cells slots Q (F0 m pc ls st0) :=
  r_ran (As := .ref bb :: As) (va_runI (As := As) (b := bb) ⟨hx, hb, hml, hown, hts⟩ hM ⟨mkB hts cal hl hR, hyn, hts _ hins⟩ ⟨pcBlindo, fun U hU hW => ⟨rfl, by rw [hU]; exact hA, hKK.warm hW⟩⟩ rfl hn hsz hs0 (lv_room hroom) hdg hf) hlo hs1 hc1 hc2 kk
theorem r_callINo (hx : p.tables.exec = Jvm.exec) (hb : c.code = cc) (hml : c.maxLocals = nL) (hts : ∀ w ∈ gtb, w.before args s = true) (hown : s.vm.findClass own = some m.cls) (hM : MTo l HB D y ym b L none rm (.ref bb :: As) A v B) (cal : calOK ym b L none nn) (hyn : ym.name = "<init>") (hins : Cond.instanceMethod ym ∈ gtb) (hl : va_Nw (.methodLinkNest own index ym host) s) (hR : rm.frames + 1 ≤ R.frames ∧ 8 + (L + 11) + rm.locals ≤ R.locals) (hA : A H) (hKK : KKo HB D y s) (hn : As.length = nn) (hsz : ls.size = nL) (hlo : ∀ l ∈ locs, HB.size ≤ l.base) (hs0 : st0 = As.reverse ++ .ref bb :: rest) (hroom : (rest.map fun v => v.category).sum ≤ 8) (hdg : decode cc pc = .ok (.invokespecial index, 3)) (hf : cells + rm.cells ≤ R.cells ∧ slots + rm.slots ≤ R.slots) (hs1 : v.toList ++ rest = st1) (hc1 : cells + rm.cells = cells') (hc2 : slots + rm.slots = slots')
    (kk : ∀ (H1 : Heap) (locs1 : List Loc), B H1 → (∀ l ∈ locs1, HB.size ≤ l.base) → W p l e R s m args below meth c H1 locs1 cells' slots' Q (F0 m (pc + 3) ls st1)) : W p l e R s m args below meth c H locs cells slots Q (F0 m pc ls st0) :=
  r_ran (As := .ref bb :: As) (va_runIN (As := As) (b := bb) ⟨hx, hb, hml, hown, hts⟩ hM ⟨mkN hts cal hl hR, hyn, hts _ hins⟩ ⟨pcBlindo, fun U hU hW => ⟨rfl, by rw [hU]; exact hA, hKK.warm hW⟩⟩ rfl hn hsz hs0 (lv_room hroom) hdg hf) hlo hs1 hc1 hc2 kk
theorem r_newc (hx : p.tables.exec = Jvm.exec) (hb : c.code = cc) (hts : ∀ w ∈ gtb, w.before args s = true) (hKK : KK HB D y s) (hI : IV HB D y n0 n κ σ locs H) {N : Nat} {x : Int32} (harr : Cond.arrayClass .char ∈ gtb) {G : Grp} (hG : σ 3 = G) (hn : ¬ x < 0) (hN : x.toNatClampNeg = N) (hbytes : N * componentBytes .char ≤ 536870912) (hk : κ n = 13) (hcells : cells + 1 ≤ R.cells) (hslots : slots + N ≤ R.slots) (hdg : decode cc pc = .ok (.newarray .char, 2))
    (kk : ∀ (σ' : St) (H1 : Heap), IV HB D y n0 (n + 1) κ σ' locs H1 → σ' 3 = gR G n 0 (some N) → (∀ j, j ≠ 3 → σ' j = σ j) → W p l e R s m args below meth c H1 locs (cells + 1) (slots + N) Q (F0 m (pc + 2) ls (.ref (HB.size + n) :: rest))) : W p l e R s m args below meth c H locs cells slots Q (F0 m pc ls (.int x :: rest)) := by
  subst hG
  refine va_newaK (atype := .char) hx hb (hts _ harr) rfl hdg rfl hn hN hbytes hcells hslots hI.1.1 fun H1 cA e1 z1 o1 hAr hNm => ?_
  have hRA := (hKK.1.2 2 _ rfl).2
  have hcA : y 2 = cA := Option.some.inj ((show s.vm.findClass ("[" ++ (FieldType.char).toString) = some (y 2) from hRA).symm.trans hNm)
  refine kk (sg σ 3 (gR (σ 3) n 0 (some N))) H1 ?_ (sg_same _ _ _) (fun j hj => sg_ne _ _ hj)
  obtain ⟨⟨h1, h2, h3, h4, h5⟩, h6, h7⟩ := hI
  have hV : HV HB D y n κ σ H := ⟨h1, h2, h3, h4, h5⟩
  have off := offS_R σ 3 n 0 (some N)
  refine ⟨⟨by omega, fun q hq => (o1 q (by omega)).trans (h2 q hq), fun b hb => ?_, fun g b k hb => ?_, h5⟩, ⟨by omega, ?_⟩, h7⟩
  · by_cases e : b = n
    · subst e
      unfold ent
      rw [slI_R, slJ_R, slR_R, slz_I hV, slz_J hV, slz_R hV, hk]
      show H1[HB.size + b]? = some (vp_cell (y 2) (N, .inl (fun _ => 0)))
      rw [hcA]
      exact e1
    · have e2 : ent HB.size y (sg σ 3 (gR (σ 3) n 0 (some N))) (κ b) b = ent HB.size y σ (κ b) b := by
        unfold ent
        rw [show slI _ b = slI σ b from funext fun g => (off g b e).1, show slJ _ b = slJ σ b from funext fun g => (off g b e).2.1, show slR _ b = slR σ b from funext fun g => (off g b e).2.2]
      rw [e2]
      exact (h3 b (by omega)).kept (o1 _ (by show HB.size + b < _; omega))
  · have e : b ≠ n := by omega
    rw [(off g b e).1, (off g b e).2.1, (off g b e).2.2]
    exact h4 g b k (by omega)
  · refine h6.2.setT' (by decide) (fun b hb => ?_)
    intro e
    omega
end RULES7
theorem hz0 (b : Nat) : ∀ j, j < 8 → defaultValue (tyX0 j) = vp_V (fs0 b (fun _ _ => 0) (fun _ _ => 0) (fun _ _ => none)) j := by
  intro j hj
  match j, hj with
  | 0, _ => rfl
  | 1, _ => rfl
  | 2, _ => rfl
  | 3, _ => rfl
  | 4, _ => rfl
  | 5, _ => rfl
  | 6, _ => rfl
  | 7, _ => rfl
  | k + 8, h => exact absurd h (by omega)
theorem hz1 (b : Nat) : ∀ j, j < 13 → defaultValue (tyX1 j) = vp_V (fs1 b (fun _ _ => 0) (fun _ _ => 0) (fun _ _ => none)) j := by
  intro j hj
  match j, hj with
  | 0, _ => rfl
  | 1, _ => rfl
  | 2, _ => rfl
  | 3, _ => rfl
  | 4, _ => rfl
  | 5, _ => rfl
  | 6, _ => rfl
  | 7, _ => rfl
  | 8, _ => rfl
  | 9, _ => rfl
  | 10, _ => rfl
  | 11, _ => rfl
  | 12, _ => rfl
  | k + 13, h => exact absurd h (by omega)
theorem hz2 (b : Nat) : ∀ j, j < 9 → defaultValue (tyX2 j) = vp_V (fs2 b (fun _ _ => 0) (fun _ _ => 0) (fun _ _ => none)) j := by
  intro j hj
  match j, hj with
  | 0, _ => rfl
  | 1, _ => rfl
  | 2, _ => rfl
  | 3, _ => rfl
  | 4, _ => rfl
  | 5, _ => rfl
  | 6, _ => rfl
  | 7, _ => rfl
  | 8, _ => rfl
  | k + 9, h => exact absurd h (by omega)
theorem hz3 (b : Nat) : ∀ j, j < 16 → defaultValue (tyX3 j) = vp_V (fs3 b (fun _ _ => 0) (fun _ _ => 0) (fun _ _ => none)) j := by
  intro j hj
  match j, hj with
  | 0, _ => rfl
  | 1, _ => rfl
  | 2, _ => rfl
  | 3, _ => rfl
  | 4, _ => rfl
  | 5, _ => rfl
  | 6, _ => rfl
  | 7, _ => rfl
  | 8, _ => rfl
  | 9, _ => rfl
  | 10, _ => rfl
  | 11, _ => rfl
  | 12, _ => rfl
  | 13, _ => rfl
  | 14, _ => rfl
  | 15, _ => rfl
  | k + 16, h => exact absurd h (by omega)
theorem hz4 (b : Nat) : ∀ j, j < 12 → defaultValue (tyX4 j) = vp_V (fs4 b (fun _ _ => 0) (fun _ _ => 0) (fun _ _ => none)) j := by
  intro j hj
  match j, hj with
  | 0, _ => rfl
  | 1, _ => rfl
  | 2, _ => rfl
  | 3, _ => rfl
  | 4, _ => rfl
  | 5, _ => rfl
  | 6, _ => rfl
  | 7, _ => rfl
  | 8, _ => rfl
  | 9, _ => rfl
  | 10, _ => rfl
  | 11, _ => rfl
  | k + 12, h => exact absurd h (by omega)
theorem hz5 (b : Nat) : ∀ j, j < 9 → defaultValue (tyX5 j) = vp_V (fs5 b (fun _ _ => 0) (fun _ _ => 0) (fun _ _ => none)) j := by
  intro j hj
  match j, hj with
  | 0, _ => rfl
  | 1, _ => rfl
  | 2, _ => rfl
  | 3, _ => rfl
  | 4, _ => rfl
  | 5, _ => rfl
  | 6, _ => rfl
  | 7, _ => rfl
  | 8, _ => rfl
  | k + 9, h => exact absurd h (by omega)
theorem hz6 (b : Nat) : ∀ j, j < 11 → defaultValue (tyX6 j) = vp_V (fs6 b (fun _ _ => 0) (fun _ _ => 0) (fun _ _ => none)) j := by
  intro j hj
  match j, hj with
  | 0, _ => rfl
  | 1, _ => rfl
  | 2, _ => rfl
  | 3, _ => rfl
  | 4, _ => rfl
  | 5, _ => rfl
  | 6, _ => rfl
  | 7, _ => rfl
  | 8, _ => rfl
  | 9, _ => rfl
  | 10, _ => rfl
  | k + 11, h => exact absurd h (by omega)
theorem hz7 (b : Nat) : ∀ j, j < 19 → defaultValue (tyX7 j) = vp_V (fs7 b (fun _ _ => 0) (fun _ _ => 0) (fun _ _ => none)) j := by
  intro j hj
  match j, hj with
  | 0, _ => rfl
  | 1, _ => rfl
  | 2, _ => rfl
  | 3, _ => rfl
  | 4, _ => rfl
  | 5, _ => rfl
  | 6, _ => rfl
  | 7, _ => rfl
  | 8, _ => rfl
  | 9, _ => rfl
  | 10, _ => rfl
  | 11, _ => rfl
  | 12, _ => rfl
  | 13, _ => rfl
  | 14, _ => rfl
  | 15, _ => rfl
  | 16, _ => rfl
  | 17, _ => rfl
  | 18, _ => rfl
  | k + 19, h => exact absurd h (by omega)
theorem hz8 (b : Nat) : ∀ j, j < 3 → defaultValue (tyX8 j) = vp_V (fs8 b (fun _ _ => 0) (fun _ _ => 0) (fun _ _ => none)) j := by
  intro j hj
  match j, hj with
  | 0, _ => rfl
  | 1, _ => rfl
  | 2, _ => rfl
  | k + 3, h => exact absurd h (by omega)
theorem hz9 (b : Nat) : ∀ j, j < 6 → defaultValue (tyX9 j) = vp_V (fs9 b (fun _ _ => 0) (fun _ _ => 0) (fun _ _ => none)) j := by
  intro j hj
  match j, hj with
  | 0, _ => rfl
  | 1, _ => rfl
  | 2, _ => rfl
  | 3, _ => rfl
  | 4, _ => rfl
  | 5, _ => rfl
  | k + 6, h => exact absurd h (by omega)
theorem hz10 (b : Nat) : ∀ j, j < 6 → defaultValue (tyX10 j) = vp_V (fs10 b (fun _ _ => 0) (fun _ _ => 0) (fun _ _ => none)) j := by
  intro j hj
  match j, hj with
  | 0, _ => rfl
  | 1, _ => rfl
  | 2, _ => rfl
  | 3, _ => rfl
  | 4, _ => rfl
  | 5, _ => rfl
  | k + 6, h => exact absurd h (by omega)
theorem hz11 (b : Nat) : ∀ j, j < 13 → defaultValue (tyX11 j) = vp_V (fs11 b (fun _ _ => 0) (fun _ _ => 0) (fun _ _ => none)) j := by
  intro j hj
  match j, hj with
  | 0, _ => rfl
  | 1, _ => rfl
  | 2, _ => rfl
  | 3, _ => rfl
  | 4, _ => rfl
  | 5, _ => rfl
  | 6, _ => rfl
  | 7, _ => rfl
  | 8, _ => rfl
  | 9, _ => rfl
  | 10, _ => rfl
  | 11, _ => rfl
  | 12, _ => rfl
  | k + 13, h => exact absurd h (by omega)
theorem hz12 (b : Nat) : ∀ j, j < 114 → defaultValue (tyX12 j) = vp_V (fs12 b (fun _ _ => 0) (fun _ _ => 0) (fun _ _ => none)) j := by
  intro j hj
  match j, hj with
  | 0, _ => rfl
  | 1, _ => rfl
  | 2, _ => rfl
  | 3, _ => rfl
  | 4, _ => rfl
  | 5, _ => rfl
  | 6, _ => rfl
  | 7, _ => rfl
  | 8, _ => rfl
  | 9, _ => rfl
  | 10, _ => rfl
  | 11, _ => rfl
  | 12, _ => rfl
  | 13, _ => rfl
  | 14, _ => rfl
  | 15, _ => rfl
  | 16, _ => rfl
  | 17, _ => rfl
  | 18, _ => rfl
  | 19, _ => rfl
  | 20, _ => rfl
  | 21, _ => rfl
  | 22, _ => rfl
  | 23, _ => rfl
  | 24, _ => rfl
  | 25, _ => rfl
  | 26, _ => rfl
  | 27, _ => rfl
  | 28, _ => rfl
  | 29, _ => rfl
  | 30, _ => rfl
  | 31, _ => rfl
  | 32, _ => rfl
  | 33, _ => rfl
  | 34, _ => rfl
  | 35, _ => rfl
  | 36, _ => rfl
  | 37, _ => rfl
  | 38, _ => rfl
  | 39, _ => rfl
  | 40, _ => rfl
  | 41, _ => rfl
  | 42, _ => rfl
  | 43, _ => rfl
  | 44, _ => rfl
  | 45, _ => rfl
  | 46, _ => rfl
  | 47, _ => rfl
  | 48, _ => rfl
  | 49, _ => rfl
  | 50, _ => rfl
  | 51, _ => rfl
  | 52, _ => rfl
  | 53, _ => rfl
  | 54, _ => rfl
  | 55, _ => rfl
  | 56, _ => rfl
  | 57, _ => rfl
  | 58, _ => rfl
  | 59, _ => rfl
  | 60, _ => rfl
  | 61, _ => rfl
  | 62, _ => rfl
  | 63, _ => rfl
  | 64, _ => rfl
  | 65, _ => rfl
  | 66, _ => rfl
  | 67, _ => rfl
  | 68, _ => rfl
  | 69, _ => rfl
  | 70, _ => rfl
  | 71, _ => rfl
  | 72, _ => rfl
  | 73, _ => rfl
  | 74, _ => rfl
  | 75, _ => rfl
  | 76, _ => rfl
  | 77, _ => rfl
  | 78, _ => rfl
  | 79, _ => rfl
  | 80, _ => rfl
  | 81, _ => rfl
  | 82, _ => rfl
  | 83, _ => rfl
  | 84, _ => rfl
  | 85, _ => rfl
  | 86, _ => rfl
  | 87, _ => rfl
  | 88, _ => rfl
  | 89, _ => rfl
  | 90, _ => rfl
  | 91, _ => rfl
  | 92, _ => rfl
  | 93, _ => rfl
  | 94, _ => rfl
  | 95, _ => rfl
  | 96, _ => rfl
  | 97, _ => rfl
  | 98, _ => rfl
  | 99, _ => rfl
  | 100, _ => rfl
  | 101, _ => rfl
  | 102, _ => rfl
  | 103, _ => rfl
  | 104, _ => rfl
  | 105, _ => rfl
  | 106, _ => rfl
  | 107, _ => rfl
  | 108, _ => rfl
  | 109, _ => rfl
  | 110, _ => rfl
  | 111, _ => rfl
  | 112, _ => rfl
  | 113, _ => rfl
  | k + 114, h => exact absurd h (by omega)
def i_X7_3_0 (G : Grp) : Grp := (gR (gR (gR (gR (gR (gR (gR (gR (gR G 3 0 (some 4)) 3 1 (some 5)) 3 2 (some 6)) 3 4 (some 7)) 3 5 (some 8)) 3 6 (some 9)) 3 16 (some 10)) 3 17 (some 11)) 3 18 (some 12))
def RI_X7_3 : Room := { frames := 1, cells := 9, slots := 1281, locals := 12 }
abbrev BI_X7_3 (HB : Heap) (D : va_G) (y : Nat → ClassId) (κ : Nat → Nat) (σi : St) : Heap → Prop := fun H => ∃ σ' : St, IV HB D y 0 13 κ σ' [] H ∧ σ' 0 = i_X7_3_0 (σi 0) ∧ ∀ j, j ∉ ([0] : List Nat) → σ' j = σi j
set_option maxRecDepth 100000 in
set_option maxHeartbeats 8000000 in
theorem k_X7_3 (l : Launch) (HB : Heap) (D : va_G) (y : Nat → ClassId) (κ : Nat → Nat) (σi : St) (hk0 : ∀ a : Nat, a < N0 → κ a = K0 a) : MTo l HB D y yX7_init cX7_init 1 none RI_X7_3 [.ref (HB.size + 3)] (IV HB D y 0 4 κ σi []) none (BI_X7_3 HB D y κ σi) := by
  refine Met.ofW (cc := cX7_init) (maxL := 1) (ret := none) (by decide) rfl ?_
  intro p e s m args below meth c s₁ BL hml hv
  obtain ⟨rfl, hI, hKo⟩ := hv
  have hKK := hKo.1
  have hx := BL.exec
  have hb := BL.bytes
  have hr := BL.returns
  have hts : ∀ w ∈ gtb, w.before _ s = true := fun w hw => atoms_spec BL.pre w (List.mem_cons_of_mem _ hw)
  have hml : c.maxLocals = 1 := hml
  have hown : s.vm.findClass RX7 = some m.cls := findClass_of_methodNamed BL.named
  have hlocks := BL.notSynchronized
  have hin : meth.name = "<init>" := (name_of_methodNamed BL.named BL.method).1
  have hl := lv_entry ([.ref (HB.size + 3)]) (n := 1) (Nat.le_of_ble_eq_true rfl)
  rw [lg_entry_eq]
  generalize (lg_sl ([.ref (HB.size + 3)]) ++ List.replicate (1 - (lg_sl ([.ref (HB.size + 3)])).length) Slot.unset).toArray = ls at hl ⊢
  have hl : lv_has ls 1 [(0, .ref (HB.size + 3))] := hl
  generalize hargs : ([.ref (HB.size + 3)] : List Value).toArray = args at *
  have hov5 := va_AO.use (A := args) hKo.2.1
  have hov6 := va_AO.use (A := args) hKo.2.2
  obtain ⟨σ, hI, e0, fr⟩ : ∃ σ : St, IV HB D y 0 4 κ σ [] s.heap ∧ σ 0 = σi 0 ∧ ∀ j, j ∉ ([0] : List Nat) → σ j = σi j := ⟨σi, hI, rfl, fun _ _ => rfl⟩
  show W p l e RI_X7_3 s m args below meth c s.heap [] 0 0 (MQ below (QCg none (BI_X7_3 HB D y κ σi)) args s RI_X7_3.cells RI_X7_3.slots (fun x => HB.size ≤ x)) (F0 m 0 ls [])
  generalize s.heap = H at hI ⊢
  obtain ⟨locs, hlocs⟩ : ∃ x : List Loc, x = [] := ⟨_, rfl⟩
  rw [← hlocs] at hI ⊢
  refine lv_aload_n hx hb dX7_init_0 rfl (lv_at hl 0 rfl) ?_
  refine W.objInit hx hb hown (hts _ (gtb_t 30 (by decide +kernel) (by decide +kernel))) (hts _ obI.1) (hts _ obI.2) rfl (by rw [hml]; exact hl.1) rfl dX7_init_1 (Nat.le_of_ble_eq_true rfl) (Nat.le_of_ble_eq_true rfl) ?_
  refine W.eq (g2 := F0 m 4 ls []) rfl ?_
  refine lv_aload_n hx hb dX7_init_4 rfl (lv_at hl 0 rfl) ?_
  refine lv_sipush (v := 408) hx hb dX7_init_5 (by decide) ?_
  refine r_newa hx hb hts hKK hI (kd := 15) (N := 408) (t0 := 0) (a0 := (408, .inl (fun _ => 0))) (ty := .int) rfl rfl (gtb_t 100 (by decide +kernel) (by decide +kernel)) (fun C h => by cases h) rfl (fun _ => rfl) (by decide) (by decide +kernel) (by decide) (kc4 hk0) (Nat.le_of_ble_eq_true rfl) (Nat.le_of_ble_eq_true rfl) dX7_init_8 (fun H hI => ?_)
  refine pt_X7_11 hx hb hts hown hKK hin hI e0 (by decide) (kc3 hk0) (x := some 4) (fun _ => TF0 _ _) dX7_init_10 (fun σ H locs hI ew ho => ?_)
  have e0 := ew
  have fr := frs fr ho (by decide)
  refine lv_aload_n hx hb dX7_init_13 rfl (lv_at hl 0 rfl) ?_
  refine lv_sipush (v := 408) hx hb dX7_init_14 (by decide) ?_
  refine r_newa hx hb hts hKK hI (kd := 15) (N := 408) (t0 := 0) (a0 := (408, .inl (fun _ => 0))) (ty := .int) rfl rfl (gtb_t 100 (by decide +kernel) (by decide +kernel)) (fun C h => by cases h) rfl (fun _ => rfl) (by decide) (by decide +kernel) (by decide) (kc5 hk0) (Nat.le_of_ble_eq_true rfl) (Nat.le_of_ble_eq_true rfl) dX7_init_17 (fun H hI => ?_)
  refine pt_X7_15 hx hb hts hown hKK hin hI e0 (by decide) (kc3 hk0) (x := some 5) (fun _ => TF0 _ _) dX7_init_19 (fun σ H locs hI ew ho => ?_)
  have e0 := ew
  have fr := frs fr ho (by decide)
  refine lv_aload_n hx hb dX7_init_22 rfl (lv_at hl 0 rfl) ?_
  refine lv_sipush (v := 408) hx hb dX7_init_23 (by decide) ?_
  refine r_newa hx hb hts hKK hI (kd := 15) (N := 408) (t0 := 0) (a0 := (408, .inl (fun _ => 0))) (ty := .int) rfl rfl (gtb_t 100 (by decide +kernel) (by decide +kernel)) (fun C h => by cases h) rfl (fun _ => rfl) (by decide) (by decide +kernel) (by decide) (kc6 hk0) (Nat.le_of_ble_eq_true rfl) (Nat.le_of_ble_eq_true rfl) dX7_init_26 (fun H hI => ?_)
  refine pt_X7_18 hx hb hts hown hKK hin hI e0 (by decide) (kc3 hk0) (x := some 6) (fun _ => TF0 _ _) dX7_init_28 (fun σ H locs hI ew ho => ?_)
  have e0 := ew
  have fr := frs fr ho (by decide)
  refine lv_aload_n hx hb dX7_init_31 rfl (lv_at hl 0 rfl) ?_
  refine lv_bipush (v := 12) hx hb dX7_init_32 (by decide) ?_
  refine r_newa hx hb hts hKK hI (kd := 16) (N := 12) (t0 := 0) (a0 := (12, .inl (fun _ => 0))) (ty := .int) rfl rfl (gtb_t 100 (by decide +kernel) (by decide +kernel)) (fun C h => by cases h) rfl (fun _ => rfl) (by decide) (by decide +kernel) (by decide) (kc7 hk0) (Nat.le_of_ble_eq_true rfl) (Nat.le_of_ble_eq_true rfl) dX7_init_34 (fun H hI => ?_)
  refine pt_X7_21 hx hb hts hown hKK hin hI e0 (by decide) (kc3 hk0) (x := some 7) (fun _ => TF0 _ _) dX7_init_36 (fun σ H locs hI ew ho => ?_)
  have e0 := ew
  have fr := frs fr ho (by decide)
  refine lv_aload_n hx hb dX7_init_39 rfl (lv_at hl 0 rfl) ?_
  refine lv_bipush (v := 12) hx hb dX7_init_40 (by decide) ?_
  refine r_newa hx hb hts hKK hI (kd := 16) (N := 12) (t0 := 0) (a0 := (12, .inl (fun _ => 0))) (ty := .int) rfl rfl (gtb_t 100 (by decide +kernel) (by decide +kernel)) (fun C h => by cases h) rfl (fun _ => rfl) (by decide) (by decide +kernel) (by decide) (kc8 hk0) (Nat.le_of_ble_eq_true rfl) (Nat.le_of_ble_eq_true rfl) dX7_init_42 (fun H hI => ?_)
  refine pt_X7_24 hx hb hts hown hKK hin hI e0 (by decide) (kc3 hk0) (x := some 8) (fun _ => TF0 _ _) dX7_init_44 (fun σ H locs hI ew ho => ?_)
  have e0 := ew
  have fr := frs fr ho (by decide)
  refine lv_aload_n hx hb dX7_init_47 rfl (lv_at hl 0 rfl) ?_
  refine lv_bipush (v := 12) hx hb dX7_init_48 (by decide) ?_
  refine r_newa hx hb hts hKK hI (kd := 16) (N := 12) (t0 := 0) (a0 := (12, .inl (fun _ => 0))) (ty := .int) rfl rfl (gtb_t 100 (by decide +kernel) (by decide +kernel)) (fun C h => by cases h) rfl (fun _ => rfl) (by decide) (by decide +kernel) (by decide) (kc9 hk0) (Nat.le_of_ble_eq_true rfl) (Nat.le_of_ble_eq_true rfl) dX7_init_50 (fun H hI => ?_)
  refine pt_X7_27 hx hb hts hown hKK hin hI e0 (by decide) (kc3 hk0) (x := some 9) (fun _ => TF0 _ _) dX7_init_52 (fun σ H locs hI ew ho => ?_)
  have e0 := ew
  have fr := frs fr ho (by decide)
  refine lv_aload_n hx hb dX7_init_55 rfl (lv_at hl 0 rfl) ?_
  refine lv_bipush (v := 7) hx hb dX7_init_56 (by decide) ?_
  refine r_newa hx hb hts hKK hI (kd := 17) (N := 7) (t0 := 0) (a0 := (7, .inl (fun _ => 0))) (ty := .int) rfl rfl (gtb_t 100 (by decide +kernel) (by decide +kernel)) (fun C h => by cases h) rfl (fun _ => rfl) (by decide) (by decide +kernel) (by decide) (kc10 hk0) (Nat.le_of_ble_eq_true rfl) (Nat.le_of_ble_eq_true rfl) dX7_init_58 (fun H hI => ?_)
  refine pt_X7_30 hx hb hts hown hKK hin hI e0 (by decide) (kc3 hk0) (x := some 10) (fun _ => TF0 _ _) dX7_init_60 (fun σ H locs hI ew ho => ?_)
  have e0 := ew
  have fr := frs fr ho (by decide)
  refine lv_aload_n hx hb dX7_init_63 rfl (lv_at hl 0 rfl) ?_
  refine lv_bipush (v := 7) hx hb dX7_init_64 (by decide) ?_
  refine r_newa hx hb hts hKK hI (kd := 17) (N := 7) (t0 := 0) (a0 := (7, .inl (fun _ => 0))) (ty := .int) rfl rfl (gtb_t 100 (by decide +kernel) (by decide +kernel)) (fun C h => by cases h) rfl (fun _ => rfl) (by decide) (by decide +kernel) (by decide) (kc11 hk0) (Nat.le_of_ble_eq_true rfl) (Nat.le_of_ble_eq_true rfl) dX7_init_66 (fun H hI => ?_)
  refine pt_X7_33 hx hb hts hown hKK hin hI e0 (by decide) (kc3 hk0) (x := some 11) (fun _ => TF0 _ _) dX7_init_68 (fun σ H locs hI ew ho => ?_)
  have e0 := ew
  have fr := frs fr ho (by decide)
  refine lv_aload_n hx hb dX7_init_71 rfl (lv_at hl 0 rfl) ?_
  refine lv_bipush (v := 7) hx hb dX7_init_72 (by decide) ?_
  refine r_newa hx hb hts hKK hI (kd := 17) (N := 7) (t0 := 0) (a0 := (7, .inl (fun _ => 0))) (ty := .int) rfl rfl (gtb_t 100 (by decide +kernel) (by decide +kernel)) (fun C h => by cases h) rfl (fun _ => rfl) (by decide) (by decide +kernel) (by decide) (kc12 hk0) (Nat.le_of_ble_eq_true rfl) (Nat.le_of_ble_eq_true rfl) dX7_init_74 (fun H hI => ?_)
  refine pt_X7_36 hx hb hts hown hKK hin hI e0 (by decide) (kc3 hk0) (x := some 12) (fun _ => TF0 _ _) dX7_init_76 (fun σ H locs hI ew ho => ?_)
  have e0 := ew
  have fr := frs fr ho (by decide)
  exact W.vret hx hb hr (fun t ht hW => qc_mk rfl (by rw [ht]; exact ⟨σ, hI.nil, e0, fr⟩)) hI.2.2 dX7_init_79 hlocks
def i_X7_13_0 (G : Grp) : Grp := (gR (gR (gR (gR (gR (gR (gR (gR (gR G 13 0 (some 14)) 13 1 (some 15)) 13 2 (some 16)) 13 4 (some 17)) 13 5 (some 18)) 13 6 (some 19)) 13 16 (some 20)) 13 17 (some 21)) 13 18 (some 22))
def RI_X7_13 : Room := { frames := 1, cells := 9, slots := 1281, locals := 12 }
abbrev BI_X7_13 (HB : Heap) (D : va_G) (y : Nat → ClassId) (κ : Nat → Nat) (σi : St) : Heap → Prop := fun H => ∃ σ' : St, IV HB D y 0 23 κ σ' [] H ∧ σ' 0 = i_X7_13_0 (σi 0) ∧ ∀ j, j ∉ ([0] : List Nat) → σ' j = σi j
set_option maxRecDepth 100000 in
set_option maxHeartbeats 8000000 in
theorem k_X7_13 (l : Launch) (HB : Heap) (D : va_G) (y : Nat → ClassId) (κ : Nat → Nat) (σi : St) (hk0 : ∀ a : Nat, a < N0 → κ a = K0 a) : MTo l HB D y yX7_init cX7_init 1 none RI_X7_13 [.ref (HB.size + 13)] (IV HB D y 0 14 κ σi []) none (BI_X7_13 HB D y κ σi) := by
  refine Met.ofW (cc := cX7_init) (maxL := 1) (ret := none) (by decide) rfl ?_
  intro p e s m args below meth c s₁ BL hml hv
  obtain ⟨rfl, hI, hKo⟩ := hv
  have hKK := hKo.1
  have hx := BL.exec
  have hb := BL.bytes
  have hr := BL.returns
  have hts : ∀ w ∈ gtb, w.before _ s = true := fun w hw => atoms_spec BL.pre w (List.mem_cons_of_mem _ hw)
  have hml : c.maxLocals = 1 := hml
  have hown : s.vm.findClass RX7 = some m.cls := findClass_of_methodNamed BL.named
  have hlocks := BL.notSynchronized
  have hin : meth.name = "<init>" := (name_of_methodNamed BL.named BL.method).1
  have hl := lv_entry ([.ref (HB.size + 13)]) (n := 1) (Nat.le_of_ble_eq_true rfl)
  rw [lg_entry_eq]
  generalize (lg_sl ([.ref (HB.size + 13)]) ++ List.replicate (1 - (lg_sl ([.ref (HB.size + 13)])).length) Slot.unset).toArray = ls at hl ⊢
  have hl : lv_has ls 1 [(0, .ref (HB.size + 13))] := hl
  generalize hargs : ([.ref (HB.size + 13)] : List Value).toArray = args at *
  have hov5 := va_AO.use (A := args) hKo.2.1
  have hov6 := va_AO.use (A := args) hKo.2.2
  obtain ⟨σ, hI, e0, fr⟩ : ∃ σ : St, IV HB D y 0 14 κ σ [] s.heap ∧ σ 0 = σi 0 ∧ ∀ j, j ∉ ([0] : List Nat) → σ j = σi j := ⟨σi, hI, rfl, fun _ _ => rfl⟩
  show W p l e RI_X7_13 s m args below meth c s.heap [] 0 0 (MQ below (QCg none (BI_X7_13 HB D y κ σi)) args s RI_X7_13.cells RI_X7_13.slots (fun x => HB.size ≤ x)) (F0 m 0 ls [])
  generalize s.heap = H at hI ⊢
  obtain ⟨locs, hlocs⟩ : ∃ x : List Loc, x = [] := ⟨_, rfl⟩
  rw [← hlocs] at hI ⊢
  refine lv_aload_n hx hb dX7_init_0 rfl (lv_at hl 0 rfl) ?_
  refine W.objInit hx hb hown (hts _ (gtb_t 30 (by decide +kernel) (by decide +kernel))) (hts _ obI.1) (hts _ obI.2) rfl (by rw [hml]; exact hl.1) rfl dX7_init_1 (Nat.le_of_ble_eq_true rfl) (Nat.le_of_ble_eq_true rfl) ?_
  refine W.eq (g2 := F0 m 4 ls []) rfl ?_
  refine lv_aload_n hx hb dX7_init_4 rfl (lv_at hl 0 rfl) ?_
  refine lv_sipush (v := 408) hx hb dX7_init_5 (by decide) ?_
  refine r_newa hx hb hts hKK hI (kd := 15) (N := 408) (t0 := 0) (a0 := (408, .inl (fun _ => 0))) (ty := .int) rfl rfl (gtb_t 100 (by decide +kernel) (by decide +kernel)) (fun C h => by cases h) rfl (fun _ => rfl) (by decide) (by decide +kernel) (by decide) (kc14 hk0) (Nat.le_of_ble_eq_true rfl) (Nat.le_of_ble_eq_true rfl) dX7_init_8 (fun H hI => ?_)
  refine pt_X7_11 hx hb hts hown hKK hin hI e0 (by decide) (kc13 hk0) (x := some 14) (fun _ => TF0 _ _) dX7_init_10 (fun σ H locs hI ew ho => ?_)
  have e0 := ew
  have fr := frs fr ho (by decide)
  refine lv_aload_n hx hb dX7_init_13 rfl (lv_at hl 0 rfl) ?_
  refine lv_sipush (v := 408) hx hb dX7_init_14 (by decide) ?_
  refine r_newa hx hb hts hKK hI (kd := 15) (N := 408) (t0 := 0) (a0 := (408, .inl (fun _ => 0))) (ty := .int) rfl rfl (gtb_t 100 (by decide +kernel) (by decide +kernel)) (fun C h => by cases h) rfl (fun _ => rfl) (by decide) (by decide +kernel) (by decide) (kc15 hk0) (Nat.le_of_ble_eq_true rfl) (Nat.le_of_ble_eq_true rfl) dX7_init_17 (fun H hI => ?_)
  refine pt_X7_15 hx hb hts hown hKK hin hI e0 (by decide) (kc13 hk0) (x := some 15) (fun _ => TF0 _ _) dX7_init_19 (fun σ H locs hI ew ho => ?_)
  have e0 := ew
  have fr := frs fr ho (by decide)
  refine lv_aload_n hx hb dX7_init_22 rfl (lv_at hl 0 rfl) ?_
  refine lv_sipush (v := 408) hx hb dX7_init_23 (by decide) ?_
  refine r_newa hx hb hts hKK hI (kd := 15) (N := 408) (t0 := 0) (a0 := (408, .inl (fun _ => 0))) (ty := .int) rfl rfl (gtb_t 100 (by decide +kernel) (by decide +kernel)) (fun C h => by cases h) rfl (fun _ => rfl) (by decide) (by decide +kernel) (by decide) (kc16 hk0) (Nat.le_of_ble_eq_true rfl) (Nat.le_of_ble_eq_true rfl) dX7_init_26 (fun H hI => ?_)
  refine pt_X7_18 hx hb hts hown hKK hin hI e0 (by decide) (kc13 hk0) (x := some 16) (fun _ => TF0 _ _) dX7_init_28 (fun σ H locs hI ew ho => ?_)
  have e0 := ew
  have fr := frs fr ho (by decide)
  refine lv_aload_n hx hb dX7_init_31 rfl (lv_at hl 0 rfl) ?_
  refine lv_bipush (v := 12) hx hb dX7_init_32 (by decide) ?_
  refine r_newa hx hb hts hKK hI (kd := 16) (N := 12) (t0 := 0) (a0 := (12, .inl (fun _ => 0))) (ty := .int) rfl rfl (gtb_t 100 (by decide +kernel) (by decide +kernel)) (fun C h => by cases h) rfl (fun _ => rfl) (by decide) (by decide +kernel) (by decide) (kc17 hk0) (Nat.le_of_ble_eq_true rfl) (Nat.le_of_ble_eq_true rfl) dX7_init_34 (fun H hI => ?_)
  refine pt_X7_21 hx hb hts hown hKK hin hI e0 (by decide) (kc13 hk0) (x := some 17) (fun _ => TF0 _ _) dX7_init_36 (fun σ H locs hI ew ho => ?_)
  have e0 := ew
  have fr := frs fr ho (by decide)
  refine lv_aload_n hx hb dX7_init_39 rfl (lv_at hl 0 rfl) ?_
  refine lv_bipush (v := 12) hx hb dX7_init_40 (by decide) ?_
  refine r_newa hx hb hts hKK hI (kd := 16) (N := 12) (t0 := 0) (a0 := (12, .inl (fun _ => 0))) (ty := .int) rfl rfl (gtb_t 100 (by decide +kernel) (by decide +kernel)) (fun C h => by cases h) rfl (fun _ => rfl) (by decide) (by decide +kernel) (by decide) (kc18 hk0) (Nat.le_of_ble_eq_true rfl) (Nat.le_of_ble_eq_true rfl) dX7_init_42 (fun H hI => ?_)
  refine pt_X7_24 hx hb hts hown hKK hin hI e0 (by decide) (kc13 hk0) (x := some 18) (fun _ => TF0 _ _) dX7_init_44 (fun σ H locs hI ew ho => ?_)
  have e0 := ew
  have fr := frs fr ho (by decide)
  refine lv_aload_n hx hb dX7_init_47 rfl (lv_at hl 0 rfl) ?_
  refine lv_bipush (v := 12) hx hb dX7_init_48 (by decide) ?_
  refine r_newa hx hb hts hKK hI (kd := 16) (N := 12) (t0 := 0) (a0 := (12, .inl (fun _ => 0))) (ty := .int) rfl rfl (gtb_t 100 (by decide +kernel) (by decide +kernel)) (fun C h => by cases h) rfl (fun _ => rfl) (by decide) (by decide +kernel) (by decide) (kc19 hk0) (Nat.le_of_ble_eq_true rfl) (Nat.le_of_ble_eq_true rfl) dX7_init_50 (fun H hI => ?_)
  refine pt_X7_27 hx hb hts hown hKK hin hI e0 (by decide) (kc13 hk0) (x := some 19) (fun _ => TF0 _ _) dX7_init_52 (fun σ H locs hI ew ho => ?_)
  have e0 := ew
  have fr := frs fr ho (by decide)
  refine lv_aload_n hx hb dX7_init_55 rfl (lv_at hl 0 rfl) ?_
  refine lv_bipush (v := 7) hx hb dX7_init_56 (by decide) ?_
  refine r_newa hx hb hts hKK hI (kd := 17) (N := 7) (t0 := 0) (a0 := (7, .inl (fun _ => 0))) (ty := .int) rfl rfl (gtb_t 100 (by decide +kernel) (by decide +kernel)) (fun C h => by cases h) rfl (fun _ => rfl) (by decide) (by decide +kernel) (by decide) (kc20 hk0) (Nat.le_of_ble_eq_true rfl) (Nat.le_of_ble_eq_true rfl) dX7_init_58 (fun H hI => ?_)
  refine pt_X7_30 hx hb hts hown hKK hin hI e0 (by decide) (kc13 hk0) (x := some 20) (fun _ => TF0 _ _) dX7_init_60 (fun σ H locs hI ew ho => ?_)
  have e0 := ew
  have fr := frs fr ho (by decide)
  refine lv_aload_n hx hb dX7_init_63 rfl (lv_at hl 0 rfl) ?_
  refine lv_bipush (v := 7) hx hb dX7_init_64 (by decide) ?_
  refine r_newa hx hb hts hKK hI (kd := 17) (N := 7) (t0 := 0) (a0 := (7, .inl (fun _ => 0))) (ty := .int) rfl rfl (gtb_t 100 (by decide +kernel) (by decide +kernel)) (fun C h => by cases h) rfl (fun _ => rfl) (by decide) (by decide +kernel) (by decide) (kc21 hk0) (Nat.le_of_ble_eq_true rfl) (Nat.le_of_ble_eq_true rfl) dX7_init_66 (fun H hI => ?_)
  refine pt_X7_33 hx hb hts hown hKK hin hI e0 (by decide) (kc13 hk0) (x := some 21) (fun _ => TF0 _ _) dX7_init_68 (fun σ H locs hI ew ho => ?_)
  have e0 := ew
  have fr := frs fr ho (by decide)
  refine lv_aload_n hx hb dX7_init_71 rfl (lv_at hl 0 rfl) ?_
  refine lv_bipush (v := 7) hx hb dX7_init_72 (by decide) ?_
  refine r_newa hx hb hts hKK hI (kd := 17) (N := 7) (t0 := 0) (a0 := (7, .inl (fun _ => 0))) (ty := .int) rfl rfl (gtb_t 100 (by decide +kernel) (by decide +kernel)) (fun C h => by cases h) rfl (fun _ => rfl) (by decide) (by decide +kernel) (by decide) (kc22 hk0) (Nat.le_of_ble_eq_true rfl) (Nat.le_of_ble_eq_true rfl) dX7_init_74 (fun H hI => ?_)
  refine pt_X7_36 hx hb hts hown hKK hin hI e0 (by decide) (kc13 hk0) (x := some 22) (fun _ => TF0 _ _) dX7_init_76 (fun σ H locs hI ew ho => ?_)
  have e0 := ew
  have fr := frs fr ho (by decide)
  exact W.vret hx hb hr (fun t ht hW => qc_mk rfl (by rw [ht]; exact ⟨σ, hI.nil, e0, fr⟩)) hI.2.2 dX7_init_79 hlocks
def i_X2_23_0 (G : Grp) : Grp := (gR (gR (gR (gR (gR (gR G 23 1 (some 24)) 23 2 (some 25)) 23 3 (some 26)) 23 4 (some 27)) 23 5 (some 28)) 23 6 (some 29))
def i_X2_23_5 (G : Grp) : Grp := (gR (gR G 23 7 (some 30)) 23 8 (some 31))
def RI_X2_23 : Room := { frames := 1, cells := 8, slots := 1776, locals := 12 }
abbrev BI_X2_23 (HB : Heap) (D : va_G) (y : Nat → ClassId) (κ : Nat → Nat) (σi : St) : Heap → Prop := fun H => ∃ σ' : St, IV HB D y 0 32 κ σ' [] H ∧ σ' 0 = i_X2_23_0 (σi 0) ∧ σ' 5 = i_X2_23_5 (σi 5) ∧ ∀ j, j ∉ ([0, 5] : List Nat) → σ' j = σi j
set_option maxRecDepth 100000 in
set_option maxHeartbeats 8000000 in
theorem k_X2_23 (l : Launch) (HB : Heap) (D : va_G) (y : Nat → ClassId) (κ : Nat → Nat) (σi : St) (hk0 : ∀ a : Nat, a < N0 → κ a = K0 a) : MTo l HB D y yX2_init cX2_init 1 none RI_X2_23 [.ref (HB.size + 23)] (IV HB D y 0 24 κ σi []) none (BI_X2_23 HB D y κ σi) := by
  refine Met.ofW (cc := cX2_init) (maxL := 1) (ret := none) (by decide) rfl ?_
  intro p e s m args below meth c s₁ BL hml hv
  obtain ⟨rfl, hI, hKo⟩ := hv
  have hKK := hKo.1
  have hx := BL.exec
  have hb := BL.bytes
  have hr := BL.returns
  have hts : ∀ w ∈ gtb, w.before _ s = true := fun w hw => atoms_spec BL.pre w (List.mem_cons_of_mem _ hw)
  have hml : c.maxLocals = 1 := hml
  have hown : s.vm.findClass RX2 = some m.cls := findClass_of_methodNamed BL.named
  have hlocks := BL.notSynchronized
  have hin : meth.name = "<init>" := (name_of_methodNamed BL.named BL.method).1
  have hl := lv_entry ([.ref (HB.size + 23)]) (n := 1) (Nat.le_of_ble_eq_true rfl)
  rw [lg_entry_eq]
  generalize (lg_sl ([.ref (HB.size + 23)]) ++ List.replicate (1 - (lg_sl ([.ref (HB.size + 23)])).length) Slot.unset).toArray = ls at hl ⊢
  have hl : lv_has ls 1 [(0, .ref (HB.size + 23))] := hl
  generalize hargs : ([.ref (HB.size + 23)] : List Value).toArray = args at *
  have hov5 := va_AO.use (A := args) hKo.2.1
  have hov6 := va_AO.use (A := args) hKo.2.2
  obtain ⟨σ, hI, e0, e5, fr⟩ : ∃ σ : St, IV HB D y 0 24 κ σ [] s.heap ∧ σ 0 = σi 0 ∧ σ 5 = σi 5 ∧ ∀ j, j ∉ ([0, 5] : List Nat) → σ j = σi j := ⟨σi, hI, rfl, rfl, fun _ _ => rfl⟩
  show W p l e RI_X2_23 s m args below meth c s.heap [] 0 0 (MQ below (QCg none (BI_X2_23 HB D y κ σi)) args s RI_X2_23.cells RI_X2_23.slots (fun x => HB.size ≤ x)) (F0 m 0 ls [])
  generalize s.heap = H at hI ⊢
  obtain ⟨locs, hlocs⟩ : ∃ x : List Loc, x = [] := ⟨_, rfl⟩
  rw [← hlocs] at hI ⊢
  refine lv_aload_n hx hb dX2_init_0 rfl (lv_at hl 0 rfl) ?_
  refine W.objInit hx hb hown (hts _ (gtb_t 106 (by decide +kernel) (by decide +kernel))) (hts _ obI.1) (hts _ obI.2) rfl (by rw [hml]; exact hl.1) rfl dX2_init_1 (Nat.le_of_ble_eq_true rfl) (Nat.le_of_ble_eq_true rfl) ?_
  refine W.eq (g2 := F0 m 4 ls []) rfl ?_
  refine lv_aload_n hx hb dX2_init_4 rfl (lv_at hl 0 rfl) ?_
  refine lv_sipush (v := 160) hx hb dX2_init_5 (by decide) ?_
  refine r_newa hx hb hts hKK hI (kd := 18) (N := 160) (t0 := 0) (a0 := (160, .inl (fun _ => 0))) (ty := .int) rfl rfl (gtb_t 100 (by decide +kernel) (by decide +kernel)) (fun C h => by cases h) rfl (fun _ => rfl) (by decide) (by decide +kernel) (by decide) (kc24 hk0) (Nat.le_of_ble_eq_true rfl) (Nat.le_of_ble_eq_true rfl) dX2_init_8 (fun H hI => ?_)
  refine pt_X2_9 hx hb hts hown hKK hin hI e0 (by decide) (kc23 hk0) (x := some 24) (fun _ => TF0 _ _) dX2_init_10 (fun σ H locs hI ew ho => ?_)
  have e0 := ew
  have e5 := (ho 5 (nn rfl)).trans e5
  have fr := frs fr ho (by decide)
  refine lv_aload_n hx hb dX2_init_13 rfl (lv_at hl 0 rfl) ?_
  refine lv_sipush (v := 160) hx hb dX2_init_14 (by decide) ?_
  refine r_newa hx hb hts hKK hI (kd := 18) (N := 160) (t0 := 0) (a0 := (160, .inl (fun _ => 0))) (ty := .int) rfl rfl (gtb_t 100 (by decide +kernel) (by decide +kernel)) (fun C h => by cases h) rfl (fun _ => rfl) (by decide) (by decide +kernel) (by decide) (kc25 hk0) (Nat.le_of_ble_eq_true rfl) (Nat.le_of_ble_eq_true rfl) dX2_init_17 (fun H hI => ?_)
  refine pt_X2_15 hx hb hts hown hKK hin hI e0 (by decide) (kc23 hk0) (x := some 25) (fun _ => TF0 _ _) dX2_init_19 (fun σ H locs hI ew ho => ?_)
  have e0 := ew
  have e5 := (ho 5 (nn rfl)).trans e5
  have fr := frs fr ho (by decide)
  refine lv_aload_n hx hb dX2_init_22 rfl (lv_at hl 0 rfl) ?_
  refine lv_sipush (v := 160) hx hb dX2_init_23 (by decide) ?_
  refine r_newa hx hb hts hKK hI (kd := 18) (N := 160) (t0 := 0) (a0 := (160, .inl (fun _ => 0))) (ty := .int) rfl rfl (gtb_t 100 (by decide +kernel) (by decide +kernel)) (fun C h => by cases h) rfl (fun _ => rfl) (by decide) (by decide +kernel) (by decide) (kc26 hk0) (Nat.le_of_ble_eq_true rfl) (Nat.le_of_ble_eq_true rfl) dX2_init_26 (fun H hI => ?_)
  refine pt_X2_18 hx hb hts hown hKK hin hI e0 (by decide) (kc23 hk0) (x := some 26) (fun _ => TF0 _ _) dX2_init_28 (fun σ H locs hI ew ho => ?_)
  have e0 := ew
  have e5 := (ho 5 (nn rfl)).trans e5
  have fr := frs fr ho (by decide)
  refine lv_aload_n hx hb dX2_init_31 rfl (lv_at hl 0 rfl) ?_
  refine lv_sipush (v := 160) hx hb dX2_init_32 (by decide) ?_
  refine r_newa hx hb hts hKK hI (kd := 18) (N := 160) (t0 := 0) (a0 := (160, .inl (fun _ => 0))) (ty := .int) rfl rfl (gtb_t 100 (by decide +kernel) (by decide +kernel)) (fun C h => by cases h) rfl (fun _ => rfl) (by decide) (by decide +kernel) (by decide) (kc27 hk0) (Nat.le_of_ble_eq_true rfl) (Nat.le_of_ble_eq_true rfl) dX2_init_35 (fun H hI => ?_)
  refine pt_X2_21 hx hb hts hown hKK hin hI e0 (by decide) (kc23 hk0) (x := some 27) (fun _ => TF0 _ _) dX2_init_37 (fun σ H locs hI ew ho => ?_)
  have e0 := ew
  have e5 := (ho 5 (nn rfl)).trans e5
  have fr := frs fr ho (by decide)
  refine lv_aload_n hx hb dX2_init_40 rfl (lv_at hl 0 rfl) ?_
  refine lv_sipush (v := 160) hx hb dX2_init_41 (by decide) ?_
  refine r_newa hx hb hts hKK hI (kd := 18) (N := 160) (t0 := 0) (a0 := (160, .inl (fun _ => 0))) (ty := .int) rfl rfl (gtb_t 100 (by decide +kernel) (by decide +kernel)) (fun C h => by cases h) rfl (fun _ => rfl) (by decide) (by decide +kernel) (by decide) (kc28 hk0) (Nat.le_of_ble_eq_true rfl) (Nat.le_of_ble_eq_true rfl) dX2_init_44 (fun H hI => ?_)
  refine pt_X2_24 hx hb hts hown hKK hin hI e0 (by decide) (kc23 hk0) (x := some 28) (fun _ => TF0 _ _) dX2_init_46 (fun σ H locs hI ew ho => ?_)
  have e0 := ew
  have e5 := (ho 5 (nn rfl)).trans e5
  have fr := frs fr ho (by decide)
  refine lv_aload_n hx hb dX2_init_49 rfl (lv_at hl 0 rfl) ?_
  refine lv_sipush (v := 160) hx hb dX2_init_50 (by decide) ?_
  refine r_newa hx hb hts hKK hI (kd := 18) (N := 160) (t0 := 0) (a0 := (160, .inl (fun _ => 0))) (ty := .int) rfl rfl (gtb_t 100 (by decide +kernel) (by decide +kernel)) (fun C h => by cases h) rfl (fun _ => rfl) (by decide) (by decide +kernel) (by decide) (kc29 hk0) (Nat.le_of_ble_eq_true rfl) (Nat.le_of_ble_eq_true rfl) dX2_init_53 (fun H hI => ?_)
  refine pt_X2_27 hx hb hts hown hKK hin hI e0 (by decide) (kc23 hk0) (x := some 29) (fun _ => TF0 _ _) dX2_init_55 (fun σ H locs hI ew ho => ?_)
  have e0 := ew
  have e5 := (ho 5 (nn rfl)).trans e5
  have fr := frs fr ho (by decide)
  refine lv_aload_n hx hb dX2_init_58 rfl (lv_at hl 0 rfl) ?_
  refine lv_sipush (v := 408) hx hb dX2_init_59 (by decide) ?_
  refine r_newa hx hb hts hKK hI (kd := 19) (N := 408) (t0 := 0) (a0 := (408, .inl (fun _ => 0))) (ty := .int) rfl rfl (gtb_t 100 (by decide +kernel) (by decide +kernel)) (fun C h => by cases h) rfl (fun _ => rfl) (by decide) (by decide +kernel) (by decide) (kc30 hk0) (Nat.le_of_ble_eq_true rfl) (Nat.le_of_ble_eq_true rfl) dX2_init_62 (fun H hI => ?_)
  refine pt_X2_32 hx hb hts hown hKK hI e5 (by decide) (kc23 hk0) (x := some 30) (fun _ => TF0 _ _) dX2_init_64 (fun σ H locs hI ew ho => ?_)
  have e5 := ew
  have e0 := (ho 0 (nn rfl)).trans e0
  have fr := frs fr ho (by decide)
  refine lv_aload_n hx hb dX2_init_67 rfl (lv_at hl 0 rfl) ?_
  refine lv_sipush (v := 408) hx hb dX2_init_68 (by decide) ?_
  refine r_newa hx hb hts hKK hI (kd := 19) (N := 408) (t0 := 0) (a0 := (408, .inl (fun _ => 0))) (ty := .int) rfl rfl (gtb_t 100 (by decide +kernel) (by decide +kernel)) (fun C h => by cases h) rfl (fun _ => rfl) (by decide) (by decide +kernel) (by decide) (kc31 hk0) (Nat.le_of_ble_eq_true rfl) (Nat.le_of_ble_eq_true rfl) dX2_init_71 (fun H hI => ?_)
  refine pt_X2_35 hx hb hts hown hKK hI e5 (by decide) (kc23 hk0) (x := some 31) (fun _ => TF0 _ _) dX2_init_73 (fun σ H locs hI ew ho => ?_)
  have e5 := ew
  have e0 := (ho 0 (nn rfl)).trans e0
  have fr := frs fr ho (by decide)
  exact W.vret hx hb hr (fun t ht hW => qc_mk rfl (by rw [ht]; exact ⟨σ, hI.nil, e0, e5, fr⟩)) hI.2.2 dX2_init_76 hlocks
def i_X3_32_0 (G : Grp) : Grp := (gR (gR (gR (gR (gR (gR (gR (gR (gR (gR (gR G 32 1 (some 33)) 32 2 (some 34)) 32 4 (some 35)) 32 6 (some 36)) 32 7 (some 37)) 32 8 (some 38)) 32 9 (some 39)) 32 11 (some 40)) 32 13 (some 41)) 32 14 (some 42)) 32 15 (some 43))
def RI_X3_32 : Room := { frames := 1, cells := 11, slots := 432, locals := 12 }
abbrev BI_X3_32 (HB : Heap) (D : va_G) (y : Nat → ClassId) (κ : Nat → Nat) (σi : St) : Heap → Prop := fun H => ∃ σ' : St, IV HB D y 0 44 κ σ' [] H ∧ σ' 0 = i_X3_32_0 (σi 0) ∧ ∀ j, j ∉ ([0] : List Nat) → σ' j = σi j
set_option maxRecDepth 100000 in
set_option maxHeartbeats 8000000 in
theorem k_X3_32 (l : Launch) (HB : Heap) (D : va_G) (y : Nat → ClassId) (κ : Nat → Nat) (σi : St) (hk0 : ∀ a : Nat, a < N0 → κ a = K0 a) : MTo l HB D y yX3_init cX3_init 1 none RI_X3_32 [.ref (HB.size + 32)] (IV HB D y 0 33 κ σi []) none (BI_X3_32 HB D y κ σi) := by
  refine Met.ofW (cc := cX3_init) (maxL := 1) (ret := none) (by decide) rfl ?_
  intro p e s m args below meth c s₁ BL hml hv
  obtain ⟨rfl, hI, hKo⟩ := hv
  have hKK := hKo.1
  have hx := BL.exec
  have hb := BL.bytes
  have hr := BL.returns
  have hts : ∀ w ∈ gtb, w.before _ s = true := fun w hw => atoms_spec BL.pre w (List.mem_cons_of_mem _ hw)
  have hml : c.maxLocals = 1 := hml
  have hown : s.vm.findClass RX3 = some m.cls := findClass_of_methodNamed BL.named
  have hlocks := BL.notSynchronized
  have hin : meth.name = "<init>" := (name_of_methodNamed BL.named BL.method).1
  have hl := lv_entry ([.ref (HB.size + 32)]) (n := 1) (Nat.le_of_ble_eq_true rfl)
  rw [lg_entry_eq]
  generalize (lg_sl ([.ref (HB.size + 32)]) ++ List.replicate (1 - (lg_sl ([.ref (HB.size + 32)])).length) Slot.unset).toArray = ls at hl ⊢
  have hl : lv_has ls 1 [(0, .ref (HB.size + 32))] := hl
  generalize hargs : ([.ref (HB.size + 32)] : List Value).toArray = args at *
  have hov5 := va_AO.use (A := args) hKo.2.1
  have hov6 := va_AO.use (A := args) hKo.2.2
  obtain ⟨σ, hI, e0, fr⟩ : ∃ σ : St, IV HB D y 0 33 κ σ [] s.heap ∧ σ 0 = σi 0 ∧ ∀ j, j ∉ ([0] : List Nat) → σ j = σi j := ⟨σi, hI, rfl, fun _ _ => rfl⟩
  show W p l e RI_X3_32 s m args below meth c s.heap [] 0 0 (MQ below (QCg none (BI_X3_32 HB D y κ σi)) args s RI_X3_32.cells RI_X3_32.slots (fun x => HB.size ≤ x)) (F0 m 0 ls [])
  generalize s.heap = H at hI ⊢
  obtain ⟨locs, hlocs⟩ : ∃ x : List Loc, x = [] := ⟨_, rfl⟩
  rw [← hlocs] at hI ⊢
  refine lv_aload_n hx hb dX3_init_0 rfl (lv_at hl 0 rfl) ?_
  refine W.objInit hx hb hown (hts _ (gtb_t 149 (by decide +kernel) (by decide +kernel))) (hts _ obI.1) (hts _ obI.2) rfl (by rw [hml]; exact hl.1) rfl dX3_init_1 (Nat.le_of_ble_eq_true rfl) (Nat.le_of_ble_eq_true rfl) ?_
  refine W.eq (g2 := F0 m 4 ls []) rfl ?_
  refine lv_aload_n hx hb dX3_init_4 rfl (lv_at hl 0 rfl) ?_
  refine lv_bipush (v := 6) hx hb dX3_init_5 (by decide) ?_
  refine r_newa hx hb hts hKK hI (kd := 20) (N := 6) (t0 := 0) (a0 := (6, .inl (fun _ => 0))) (ty := .int) rfl rfl (gtb_t 100 (by decide +kernel) (by decide +kernel)) (fun C h => by cases h) rfl (fun _ => rfl) (by decide) (by decide +kernel) (by decide) (kc33 hk0) (Nat.le_of_ble_eq_true rfl) (Nat.le_of_ble_eq_true rfl) dX3_init_7 (fun H hI => ?_)
  refine pt_X3_9 hx hb hts hown hKK hin hI e0 (by decide) (kc32 hk0) (x := some 33) (fun _ => TF0 _ _) dX3_init_9 (fun σ H locs hI ew ho => ?_)
  have e0 := ew
  have fr := frs fr ho (by decide)
  refine lv_aload_n hx hb dX3_init_12 rfl (lv_at hl 0 rfl) ?_
  refine lv_bipush (v := 6) hx hb dX3_init_13 (by decide) ?_
  refine r_newa hx hb hts hKK hI (kd := 20) (N := 6) (t0 := 0) (a0 := (6, .inl (fun _ => 0))) (ty := .int) rfl rfl (gtb_t 100 (by decide +kernel) (by decide +kernel)) (fun C h => by cases h) rfl (fun _ => rfl) (by decide) (by decide +kernel) (by decide) (kc34 hk0) (Nat.le_of_ble_eq_true rfl) (Nat.le_of_ble_eq_true rfl) dX3_init_15 (fun H hI => ?_)
  refine pt_X3_15 hx hb hts hown hKK hin hI e0 (by decide) (kc32 hk0) (x := some 34) (fun _ => TF0 _ _) dX3_init_17 (fun σ H locs hI ew ho => ?_)
  have e0 := ew
  have fr := frs fr ho (by decide)
  refine lv_aload_n hx hb dX3_init_20 rfl (lv_at hl 0 rfl) ?_
  refine lv_bipush (v := 16) hx hb dX3_init_21 (by decide) ?_
  refine r_newa hx hb hts hKK hI (kd := 21) (N := 16) (t0 := 0) (a0 := (16, .inl (fun _ => 0))) (ty := .int) rfl rfl (gtb_t 100 (by decide +kernel) (by decide +kernel)) (fun C h => by cases h) rfl (fun _ => rfl) (by decide) (by decide +kernel) (by decide) (kc35 hk0) (Nat.le_of_ble_eq_true rfl) (Nat.le_of_ble_eq_true rfl) dX3_init_23 (fun H hI => ?_)
  refine pt_X3_18 hx hb hts hown hKK hin hI e0 (by decide) (kc32 hk0) (x := some 35) (fun _ => TF0 _ _) dX3_init_25 (fun σ H locs hI ew ho => ?_)
  have e0 := ew
  have fr := frs fr ho (by decide)
  refine lv_aload_n hx hb dX3_init_28 rfl (lv_at hl 0 rfl) ?_
  refine lv_bipush (v := 16) hx hb dX3_init_29 (by decide) ?_
  refine r_newa hx hb hts hKK hI (kd := 21) (N := 16) (t0 := 0) (a0 := (16, .inl (fun _ => 0))) (ty := .int) rfl rfl (gtb_t 100 (by decide +kernel) (by decide +kernel)) (fun C h => by cases h) rfl (fun _ => rfl) (by decide) (by decide +kernel) (by decide) (kc36 hk0) (Nat.le_of_ble_eq_true rfl) (Nat.le_of_ble_eq_true rfl) dX3_init_31 (fun H hI => ?_)
  refine pt_X3_21 hx hb hts hown hKK hin hI e0 (by decide) (kc32 hk0) (x := some 36) (fun _ => TF0 _ _) dX3_init_33 (fun σ H locs hI ew ho => ?_)
  have e0 := ew
  have fr := frs fr ho (by decide)
  refine lv_aload_n hx hb dX3_init_36 rfl (lv_at hl 0 rfl) ?_
  refine lv_bipush (v := 16) hx hb dX3_init_37 (by decide) ?_
  refine r_newa hx hb hts hKK hI (kd := 21) (N := 16) (t0 := 0) (a0 := (16, .inl (fun _ => 0))) (ty := .int) rfl rfl (gtb_t 100 (by decide +kernel) (by decide +kernel)) (fun C h => by cases h) rfl (fun _ => rfl) (by decide) (by decide +kernel) (by decide) (kc37 hk0) (Nat.le_of_ble_eq_true rfl) (Nat.le_of_ble_eq_true rfl) dX3_init_39 (fun H hI => ?_)
  refine pt_X3_24 hx hb hts hown hKK hin hI e0 (by decide) (kc32 hk0) (x := some 37) (fun _ => TF0 _ _) dX3_init_41 (fun σ H locs hI ew ho => ?_)
  have e0 := ew
  have fr := frs fr ho (by decide)
  refine lv_aload_n hx hb dX3_init_44 rfl (lv_at hl 0 rfl) ?_
  refine lv_bipush (v := 16) hx hb dX3_init_45 (by decide) ?_
  refine r_newa hx hb hts hKK hI (kd := 21) (N := 16) (t0 := 0) (a0 := (16, .inl (fun _ => 0))) (ty := .int) rfl rfl (gtb_t 100 (by decide +kernel) (by decide +kernel)) (fun C h => by cases h) rfl (fun _ => rfl) (by decide) (by decide +kernel) (by decide) (kc38 hk0) (Nat.le_of_ble_eq_true rfl) (Nat.le_of_ble_eq_true rfl) dX3_init_47 (fun H hI => ?_)
  refine pt_X3_27 hx hb hts hown hKK hin hI e0 (by decide) (kc32 hk0) (x := some 38) (fun _ => TF0 _ _) dX3_init_49 (fun σ H locs hI ew ho => ?_)
  have e0 := ew
  have fr := frs fr ho (by decide)
  refine lv_aload_n hx hb dX3_init_52 rfl (lv_at hl 0 rfl) ?_
  refine lv_bipush (v := 16) hx hb dX3_init_53 (by decide) ?_
  refine r_newa hx hb hts hKK hI (kd := 21) (N := 16) (t0 := 0) (a0 := (16, .inl (fun _ => 0))) (ty := .int) rfl rfl (gtb_t 100 (by decide +kernel) (by decide +kernel)) (fun C h => by cases h) rfl (fun _ => rfl) (by decide) (by decide +kernel) (by decide) (kc39 hk0) (Nat.le_of_ble_eq_true rfl) (Nat.le_of_ble_eq_true rfl) dX3_init_55 (fun H hI => ?_)
  refine pt_X3_30 hx hb hts hown hKK hin hI e0 (by decide) (kc32 hk0) (x := some 39) (fun _ => TF0 _ _) dX3_init_57 (fun σ H locs hI ew ho => ?_)
  have e0 := ew
  have fr := frs fr ho (by decide)
  refine lv_aload_n hx hb dX3_init_60 rfl (lv_at hl 0 rfl) ?_
  refine lv_bipush (v := 40) hx hb dX3_init_61 (by decide) ?_
  refine r_anew (C := RX5) hx hb hts hown hKK hI (kd := 22) (N := 40) (t0 := 6) rfl lx_X3_33 (List.mem_append_right _ (List.mem_of_getElem? (i := 151) (by decide +kernel))) hov6 rfl (by decide) (by decide) (by decide) (kc40 hk0) (Nat.le_of_ble_eq_true rfl) (Nat.le_of_ble_eq_true rfl) dX3_init_63 (fun H hI => ?_)
  refine pt_X3_35 hx hb hts hown hKK hin hI e0 (by decide) (kc32 hk0) (x := some 40) (fun _ => TF0 _ _) dX3_init_66 (fun σ H locs hI ew ho => ?_)
  have e0 := ew
  have fr := frs fr ho (by decide)
  refine lv_aload_n hx hb dX3_init_69 rfl (lv_at hl 0 rfl) ?_
  refine lv_bipush (v := 100) hx hb dX3_init_70 (by decide) ?_
  refine r_newa hx hb hts hKK hI (kd := 23) (N := 100) (t0 := 0) (a0 := (100, .inl (fun _ => 0))) (ty := .int) rfl rfl (gtb_t 100 (by decide +kernel) (by decide +kernel)) (fun C h => by cases h) rfl (fun _ => rfl) (by decide) (by decide +kernel) (by decide) (kc41 hk0) (Nat.le_of_ble_eq_true rfl) (Nat.le_of_ble_eq_true rfl) dX3_init_72 (fun H hI => ?_)
  refine pt_X3_39 hx hb hts hown hKK hin hI e0 (by decide) (kc32 hk0) (x := some 41) (fun _ => TF0 _ _) dX3_init_74 (fun σ H locs hI ew ho => ?_)
  have e0 := ew
  have fr := frs fr ho (by decide)
  refine lv_aload_n hx hb dX3_init_77 rfl (lv_at hl 0 rfl) ?_
  refine lv_bipush (v := 100) hx hb dX3_init_78 (by decide) ?_
  refine r_newa hx hb hts hKK hI (kd := 23) (N := 100) (t0 := 0) (a0 := (100, .inl (fun _ => 0))) (ty := .int) rfl rfl (gtb_t 100 (by decide +kernel) (by decide +kernel)) (fun C h => by cases h) rfl (fun _ => rfl) (by decide) (by decide +kernel) (by decide) (kc42 hk0) (Nat.le_of_ble_eq_true rfl) (Nat.le_of_ble_eq_true rfl) dX3_init_80 (fun H hI => ?_)
  refine pt_X3_42 hx hb hts hown hKK hin hI e0 (by decide) (kc32 hk0) (x := some 42) (fun _ => TF0 _ _) dX3_init_82 (fun σ H locs hI ew ho => ?_)
  have e0 := ew
  have fr := frs fr ho (by decide)
  refine lv_aload_n hx hb dX3_init_85 rfl (lv_at hl 0 rfl) ?_
  refine lv_bipush (v := 100) hx hb dX3_init_86 (by decide) ?_
  refine r_newa hx hb hts hKK hI (kd := 23) (N := 100) (t0 := 0) (a0 := (100, .inl (fun _ => 0))) (ty := .int) rfl rfl (gtb_t 100 (by decide +kernel) (by decide +kernel)) (fun C h => by cases h) rfl (fun _ => rfl) (by decide) (by decide +kernel) (by decide) (kc43 hk0) (Nat.le_of_ble_eq_true rfl) (Nat.le_of_ble_eq_true rfl) dX3_init_88 (fun H hI => ?_)
  refine pt_X3_45 hx hb hts hown hKK hin hI e0 (by decide) (kc32 hk0) (x := some 43) (fun _ => TF0 _ _) dX3_init_90 (fun σ H locs hI ew ho => ?_)
  have e0 := ew
  have fr := frs fr ho (by decide)
  exact W.vret hx hb hr (fun t ht hW => qc_mk rfl (by rw [ht]; exact ⟨σ, hI.nil, e0, fr⟩)) hI.2.2 dX3_init_93 hlocks
def i_X2_51_0 (G : Grp) : Grp := (gR (gR (gR (gR (gR (gR G 51 1 (some 52)) 51 2 (some 53)) 51 3 (some 54)) 51 4 (some 55)) 51 5 (some 56)) 51 6 (some 57))
def i_X2_51_5 (G : Grp) : Grp := (gR (gR G 51 7 (some 58)) 51 8 (some 59))
def RI_X2_51 : Room := { frames := 1, cells := 8, slots := 1776, locals := 12 }
abbrev BI_X2_51 (HB : Heap) (D : va_G) (y : Nat → ClassId) (κ : Nat → Nat) (σi : St) : Heap → Prop := fun H => ∃ σ' : St, IV HB D y 0 60 κ σ' [] H ∧ σ' 0 = i_X2_51_0 (σi 0) ∧ σ' 5 = i_X2_51_5 (σi 5) ∧ ∀ j, j ∉ ([0, 5] : List Nat) → σ' j = σi j
set_option maxRecDepth 100000 in
set_option maxHeartbeats 8000000 in
theorem k_X2_51 (l : Launch) (HB : Heap) (D : va_G) (y : Nat → ClassId) (κ : Nat → Nat) (σi : St) (hk0 : ∀ a : Nat, a < N0 → κ a = K0 a) : MTo l HB D y yX2_init cX2_init 1 none RI_X2_51 [.ref (HB.size + 51)] (IV HB D y 0 52 κ σi []) none (BI_X2_51 HB D y κ σi) := by
  refine Met.ofW (cc := cX2_init) (maxL := 1) (ret := none) (by decide) rfl ?_
  intro p e s m args below meth c s₁ BL hml hv
  obtain ⟨rfl, hI, hKo⟩ := hv
  have hKK := hKo.1
  have hx := BL.exec
  have hb := BL.bytes
  have hr := BL.returns
  have hts : ∀ w ∈ gtb, w.before _ s = true := fun w hw => atoms_spec BL.pre w (List.mem_cons_of_mem _ hw)
  have hml : c.maxLocals = 1 := hml
  have hown : s.vm.findClass RX2 = some m.cls := findClass_of_methodNamed BL.named
  have hlocks := BL.notSynchronized
  have hin : meth.name = "<init>" := (name_of_methodNamed BL.named BL.method).1
  have hl := lv_entry ([.ref (HB.size + 51)]) (n := 1) (Nat.le_of_ble_eq_true rfl)
  rw [lg_entry_eq]
  generalize (lg_sl ([.ref (HB.size + 51)]) ++ List.replicate (1 - (lg_sl ([.ref (HB.size + 51)])).length) Slot.unset).toArray = ls at hl ⊢
  have hl : lv_has ls 1 [(0, .ref (HB.size + 51))] := hl
  generalize hargs : ([.ref (HB.size + 51)] : List Value).toArray = args at *
  have hov5 := va_AO.use (A := args) hKo.2.1
  have hov6 := va_AO.use (A := args) hKo.2.2
  obtain ⟨σ, hI, e0, e5, fr⟩ : ∃ σ : St, IV HB D y 0 52 κ σ [] s.heap ∧ σ 0 = σi 0 ∧ σ 5 = σi 5 ∧ ∀ j, j ∉ ([0, 5] : List Nat) → σ j = σi j := ⟨σi, hI, rfl, rfl, fun _ _ => rfl⟩
  show W p l e RI_X2_51 s m args below meth c s.heap [] 0 0 (MQ below (QCg none (BI_X2_51 HB D y κ σi)) args s RI_X2_51.cells RI_X2_51.slots (fun x => HB.size ≤ x)) (F0 m 0 ls [])
  generalize s.heap = H at hI ⊢
  obtain ⟨locs, hlocs⟩ : ∃ x : List Loc, x = [] := ⟨_, rfl⟩
  rw [← hlocs] at hI ⊢
  refine lv_aload_n hx hb dX2_init_0 rfl (lv_at hl 0 rfl) ?_
  refine W.objInit hx hb hown (hts _ (gtb_t 106 (by decide +kernel) (by decide +kernel))) (hts _ obI.1) (hts _ obI.2) rfl (by rw [hml]; exact hl.1) rfl dX2_init_1 (Nat.le_of_ble_eq_true rfl) (Nat.le_of_ble_eq_true rfl) ?_
  refine W.eq (g2 := F0 m 4 ls []) rfl ?_
  refine lv_aload_n hx hb dX2_init_4 rfl (lv_at hl 0 rfl) ?_
  refine lv_sipush (v := 160) hx hb dX2_init_5 (by decide) ?_
  refine r_newa hx hb hts hKK hI (kd := 18) (N := 160) (t0 := 0) (a0 := (160, .inl (fun _ => 0))) (ty := .int) rfl rfl (gtb_t 100 (by decide +kernel) (by decide +kernel)) (fun C h => by cases h) rfl (fun _ => rfl) (by decide) (by decide +kernel) (by decide) (kc52 hk0) (Nat.le_of_ble_eq_true rfl) (Nat.le_of_ble_eq_true rfl) dX2_init_8 (fun H hI => ?_)
  refine pt_X2_9 hx hb hts hown hKK hin hI e0 (by decide) (kc51 hk0) (x := some 52) (fun _ => TF0 _ _) dX2_init_10 (fun σ H locs hI ew ho => ?_)
  have e0 := ew
  have e5 := (ho 5 (nn rfl)).trans e5
  have fr := frs fr ho (by decide)
  refine lv_aload_n hx hb dX2_init_13 rfl (lv_at hl 0 rfl) ?_
  refine lv_sipush (v := 160) hx hb dX2_init_14 (by decide) ?_
  refine r_newa hx hb hts hKK hI (kd := 18) (N := 160) (t0 := 0) (a0 := (160, .inl (fun _ => 0))) (ty := .int) rfl rfl (gtb_t 100 (by decide +kernel) (by decide +kernel)) (fun C h => by cases h) rfl (fun _ => rfl) (by decide) (by decide +kernel) (by decide) (kc53 hk0) (Nat.le_of_ble_eq_true rfl) (Nat.le_of_ble_eq_true rfl) dX2_init_17 (fun H hI => ?_)
  refine pt_X2_15 hx hb hts hown hKK hin hI e0 (by decide) (kc51 hk0) (x := some 53) (fun _ => TF0 _ _) dX2_init_19 (fun σ H locs hI ew ho => ?_)
  have e0 := ew
  have e5 := (ho 5 (nn rfl)).trans e5
  have fr := frs fr ho (by decide)
  refine lv_aload_n hx hb dX2_init_22 rfl (lv_at hl 0 rfl) ?_
  refine lv_sipush (v := 160) hx hb dX2_init_23 (by decide) ?_
  refine r_newa hx hb hts hKK hI (kd := 18) (N := 160) (t0 := 0) (a0 := (160, .inl (fun _ => 0))) (ty := .int) rfl rfl (gtb_t 100 (by decide +kernel) (by decide +kernel)) (fun C h => by cases h) rfl (fun _ => rfl) (by decide) (by decide +kernel) (by decide) (kc54 hk0) (Nat.le_of_ble_eq_true rfl) (Nat.le_of_ble_eq_true rfl) dX2_init_26 (fun H hI => ?_)
  refine pt_X2_18 hx hb hts hown hKK hin hI e0 (by decide) (kc51 hk0) (x := some 54) (fun _ => TF0 _ _) dX2_init_28 (fun σ H locs hI ew ho => ?_)
  have e0 := ew
  have e5 := (ho 5 (nn rfl)).trans e5
  have fr := frs fr ho (by decide)
  refine lv_aload_n hx hb dX2_init_31 rfl (lv_at hl 0 rfl) ?_
  refine lv_sipush (v := 160) hx hb dX2_init_32 (by decide) ?_
  refine r_newa hx hb hts hKK hI (kd := 18) (N := 160) (t0 := 0) (a0 := (160, .inl (fun _ => 0))) (ty := .int) rfl rfl (gtb_t 100 (by decide +kernel) (by decide +kernel)) (fun C h => by cases h) rfl (fun _ => rfl) (by decide) (by decide +kernel) (by decide) (kc55 hk0) (Nat.le_of_ble_eq_true rfl) (Nat.le_of_ble_eq_true rfl) dX2_init_35 (fun H hI => ?_)
  refine pt_X2_21 hx hb hts hown hKK hin hI e0 (by decide) (kc51 hk0) (x := some 55) (fun _ => TF0 _ _) dX2_init_37 (fun σ H locs hI ew ho => ?_)
  have e0 := ew
  have e5 := (ho 5 (nn rfl)).trans e5
  have fr := frs fr ho (by decide)
  refine lv_aload_n hx hb dX2_init_40 rfl (lv_at hl 0 rfl) ?_
  refine lv_sipush (v := 160) hx hb dX2_init_41 (by decide) ?_
  refine r_newa hx hb hts hKK hI (kd := 18) (N := 160) (t0 := 0) (a0 := (160, .inl (fun _ => 0))) (ty := .int) rfl rfl (gtb_t 100 (by decide +kernel) (by decide +kernel)) (fun C h => by cases h) rfl (fun _ => rfl) (by decide) (by decide +kernel) (by decide) (kc56 hk0) (Nat.le_of_ble_eq_true rfl) (Nat.le_of_ble_eq_true rfl) dX2_init_44 (fun H hI => ?_)
  refine pt_X2_24 hx hb hts hown hKK hin hI e0 (by decide) (kc51 hk0) (x := some 56) (fun _ => TF0 _ _) dX2_init_46 (fun σ H locs hI ew ho => ?_)
  have e0 := ew
  have e5 := (ho 5 (nn rfl)).trans e5
  have fr := frs fr ho (by decide)
  refine lv_aload_n hx hb dX2_init_49 rfl (lv_at hl 0 rfl) ?_
  refine lv_sipush (v := 160) hx hb dX2_init_50 (by decide) ?_
  refine r_newa hx hb hts hKK hI (kd := 18) (N := 160) (t0 := 0) (a0 := (160, .inl (fun _ => 0))) (ty := .int) rfl rfl (gtb_t 100 (by decide +kernel) (by decide +kernel)) (fun C h => by cases h) rfl (fun _ => rfl) (by decide) (by decide +kernel) (by decide) (kc57 hk0) (Nat.le_of_ble_eq_true rfl) (Nat.le_of_ble_eq_true rfl) dX2_init_53 (fun H hI => ?_)
  refine pt_X2_27 hx hb hts hown hKK hin hI e0 (by decide) (kc51 hk0) (x := some 57) (fun _ => TF0 _ _) dX2_init_55 (fun σ H locs hI ew ho => ?_)
  have e0 := ew
  have e5 := (ho 5 (nn rfl)).trans e5
  have fr := frs fr ho (by decide)
  refine lv_aload_n hx hb dX2_init_58 rfl (lv_at hl 0 rfl) ?_
  refine lv_sipush (v := 408) hx hb dX2_init_59 (by decide) ?_
  refine r_newa hx hb hts hKK hI (kd := 19) (N := 408) (t0 := 0) (a0 := (408, .inl (fun _ => 0))) (ty := .int) rfl rfl (gtb_t 100 (by decide +kernel) (by decide +kernel)) (fun C h => by cases h) rfl (fun _ => rfl) (by decide) (by decide +kernel) (by decide) (kc58 hk0) (Nat.le_of_ble_eq_true rfl) (Nat.le_of_ble_eq_true rfl) dX2_init_62 (fun H hI => ?_)
  refine pt_X2_32 hx hb hts hown hKK hI e5 (by decide) (kc51 hk0) (x := some 58) (fun _ => TF0 _ _) dX2_init_64 (fun σ H locs hI ew ho => ?_)
  have e5 := ew
  have e0 := (ho 0 (nn rfl)).trans e0
  have fr := frs fr ho (by decide)
  refine lv_aload_n hx hb dX2_init_67 rfl (lv_at hl 0 rfl) ?_
  refine lv_sipush (v := 408) hx hb dX2_init_68 (by decide) ?_
  refine r_newa hx hb hts hKK hI (kd := 19) (N := 408) (t0 := 0) (a0 := (408, .inl (fun _ => 0))) (ty := .int) rfl rfl (gtb_t 100 (by decide +kernel) (by decide +kernel)) (fun C h => by cases h) rfl (fun _ => rfl) (by decide) (by decide +kernel) (by decide) (kc59 hk0) (Nat.le_of_ble_eq_true rfl) (Nat.le_of_ble_eq_true rfl) dX2_init_71 (fun H hI => ?_)
  refine pt_X2_35 hx hb hts hown hKK hI e5 (by decide) (kc51 hk0) (x := some 59) (fun _ => TF0 _ _) dX2_init_73 (fun σ H locs hI ew ho => ?_)
  have e5 := ew
  have e0 := (ho 0 (nn rfl)).trans e0
  have fr := frs fr ho (by decide)
  exact W.vret hx hb hr (fun t ht hW => qc_mk rfl (by rw [ht]; exact ⟨σ, hI.nil, e0, e5, fr⟩)) hI.2.2 dX2_init_76 hlocks
def i_X6_44_0 (G : Grp) : Grp := (gR (gR (gR (i_X2_51_0 (gR (gR (gR (gR (gR (gR G 44 0 (some 45)) 44 3 (some 46)) 44 4 (some 47)) 44 5 (some 48)) 44 6 (some 49)) 44 7 (some 50))) 44 8 (some 51)) 44 9 (some 32)) 44 10 (some 2))
def i_X6_44_5 (G : Grp) : Grp := (i_X2_51_5 G)
def RI_X6_44 : Room := { frames := 2, cells := 15, slots := 2745, locals := 32 }
abbrev BI_X6_44 (HB : Heap) (D : va_G) (y : Nat → ClassId) (κ : Nat → Nat) (σi : St) : Heap → Prop := fun H => ∃ σ' : St, IV HB D y 0 60 κ σ' [] H ∧ σ' 0 = i_X6_44_0 (σi 0) ∧ σ' 5 = i_X6_44_5 (σi 5) ∧ ∀ j, j ∉ ([0, 5] : List Nat) → σ' j = σi j
set_option maxRecDepth 100000 in
set_option maxHeartbeats 8000000 in
theorem k_X6_44 (l : Launch) (HB : Heap) (D : va_G) (y : Nat → ClassId) (κ : Nat → Nat) (σi : St) (hk0 : ∀ a : Nat, a < N0 → κ a = K0 a) : MTo l HB D y yX6_init cX6_init 3 none RI_X6_44 [.ref (HB.size + 44), .ref (HB.size + 32), .ref (HB.size + 2)] (IV HB D y 0 45 κ σi []) none (BI_X6_44 HB D y κ σi) := by
  refine Met.ofW (cc := cX6_init) (maxL := 3) (ret := none) (by decide) rfl ?_
  intro p e s m args below meth c s₁ BL hml hv
  obtain ⟨rfl, hI, hKo⟩ := hv
  have hKK := hKo.1
  have hx := BL.exec
  have hb := BL.bytes
  have hr := BL.returns
  have hts : ∀ w ∈ gtb, w.before _ s = true := fun w hw => atoms_spec BL.pre w (List.mem_cons_of_mem _ hw)
  have hml : c.maxLocals = 3 := hml
  have hown : s.vm.findClass RX6 = some m.cls := findClass_of_methodNamed BL.named
  have hlocks := BL.notSynchronized
  have hin : meth.name = "<init>" := (name_of_methodNamed BL.named BL.method).1
  have hl := lv_entry ([.ref (HB.size + 44), .ref (HB.size + 32), .ref (HB.size + 2)]) (n := 3) (Nat.le_of_ble_eq_true rfl)
  rw [lg_entry_eq]
  generalize (lg_sl ([.ref (HB.size + 44), .ref (HB.size + 32), .ref (HB.size + 2)]) ++ List.replicate (3 - (lg_sl ([.ref (HB.size + 44), .ref (HB.size + 32), .ref (HB.size + 2)])).length) Slot.unset).toArray = ls at hl ⊢
  have hl : lv_has ls 3 [(0, .ref (HB.size + 44)), (1, .ref (HB.size + 32)), (2, .ref (HB.size + 2))] := hl
  generalize hargs : ([.ref (HB.size + 44), .ref (HB.size + 32), .ref (HB.size + 2)] : List Value).toArray = args at *
  have hov5 := va_AO.use (A := args) hKo.2.1
  have hov6 := va_AO.use (A := args) hKo.2.2
  obtain ⟨σ, hI, e0, e5, fr⟩ : ∃ σ : St, IV HB D y 0 45 κ σ [] s.heap ∧ σ 0 = σi 0 ∧ σ 5 = σi 5 ∧ ∀ j, j ∉ ([0, 5] : List Nat) → σ j = σi j := ⟨σi, hI, rfl, rfl, fun _ _ => rfl⟩
  show W p l e RI_X6_44 s m args below meth c s.heap [] 0 0 (MQ below (QCg none (BI_X6_44 HB D y κ σi)) args s RI_X6_44.cells RI_X6_44.slots (fun x => HB.size ≤ x)) (F0 m 0 ls [])
  generalize s.heap = H at hI ⊢
  obtain ⟨locs, hlocs⟩ : ∃ x : List Loc, x = [] := ⟨_, rfl⟩
  rw [← hlocs] at hI ⊢
  refine lv_aload_n hx hb dX6_init_0 rfl (lv_at hl 0 rfl) ?_
  refine W.objInit hx hb hown (hts _ (gtb_t 220 (by decide +kernel) (by decide +kernel))) (hts _ obI.1) (hts _ obI.2) rfl (by rw [hml]; exact hl.1) rfl dX6_init_1 (Nat.le_of_ble_eq_true rfl) (Nat.le_of_ble_eq_true rfl) ?_
  refine W.eq (g2 := F0 m 4 ls []) rfl ?_
  refine lv_aload_n hx hb dX6_init_4 rfl (lv_at hl 0 rfl) ?_
  refine lv_sipush (v := 200) hx hb dX6_init_5 (by decide) ?_
  refine r_anew (C := RX4) hx hb hts hown hKK hI (kd := 24) (N := 200) (t0 := 5) rfl lx_X6_9 (List.mem_append_right _ (List.mem_of_getElem? (i := 222) (by decide +kernel))) hov5 rfl (by decide) (by decide) (by decide) (kc45 hk0) (Nat.le_of_ble_eq_true rfl) (Nat.le_of_ble_eq_true rfl) dX6_init_8 (fun H hI => ?_)
  refine pt_X6_11 hx hb hts hown hKK hin hI e0 (by decide) (kc44 hk0) (x := some 45) (fun _ => TF0 _ _) dX6_init_11 (fun σ H locs hI ew ho => ?_)
  have e0 := ew
  have e5 := (ho 5 (nn rfl)).trans e5
  have fr := frs fr ho (by decide)
  refine lv_aload_n hx hb dX6_init_14 rfl (lv_at hl 0 rfl) ?_
  refine lv_sipush (v := 200) hx hb dX6_init_15 (by decide) ?_
  refine r_newa hx hb hts hKK hI (kd := 25) (N := 200) (t0 := 0) (a0 := (200, .inl (fun _ => 0))) (ty := .int) rfl rfl (gtb_t 100 (by decide +kernel) (by decide +kernel)) (fun C h => by cases h) rfl (fun _ => rfl) (by decide) (by decide +kernel) (by decide) (kc46 hk0) (Nat.le_of_ble_eq_true rfl) (Nat.le_of_ble_eq_true rfl) dX6_init_18 (fun H hI => ?_)
  refine pt_X6_17 hx hb hts hown hKK hin hI e0 (by decide) (kc44 hk0) (x := some 46) (fun _ => TF0 _ _) dX6_init_20 (fun σ H locs hI ew ho => ?_)
  have e0 := ew
  have e5 := (ho 5 (nn rfl)).trans e5
  have fr := frs fr ho (by decide)
  refine lv_aload_n hx hb dX6_init_23 rfl (lv_at hl 0 rfl) ?_
  refine lv_sipush (v := 200) hx hb dX6_init_24 (by decide) ?_
  refine r_newa hx hb hts hKK hI (kd := 25) (N := 200) (t0 := 0) (a0 := (200, .inl (fun _ => 0))) (ty := .int) rfl rfl (gtb_t 100 (by decide +kernel) (by decide +kernel)) (fun C h => by cases h) rfl (fun _ => rfl) (by decide) (by decide +kernel) (by decide) (kc47 hk0) (Nat.le_of_ble_eq_true rfl) (Nat.le_of_ble_eq_true rfl) dX6_init_27 (fun H hI => ?_)
  refine pt_X6_21 hx hb hts hown hKK hin hI e0 (by decide) (kc44 hk0) (x := some 47) (fun _ => TF0 _ _) dX6_init_29 (fun σ H locs hI ew ho => ?_)
  have e0 := ew
  have e5 := (ho 5 (nn rfl)).trans e5
  have fr := frs fr ho (by decide)
  refine lv_aload_n hx hb dX6_init_32 rfl (lv_at hl 0 rfl) ?_
  refine lv_sipush (v := 200) hx hb dX6_init_33 (by decide) ?_
  refine r_newa hx hb hts hKK hI (kd := 26) (N := 200) (t0 := 4) (a0 := (200, .inl (fun _ => 0))) (ty := .boolean) rfl rfl (gtb_t 261 (by decide +kernel) (by decide +kernel)) (fun C h => by cases h) rfl (fun _ => rfl) (by decide) (by decide +kernel) (by decide) (kc48 hk0) (Nat.le_of_ble_eq_true rfl) (Nat.le_of_ble_eq_true rfl) dX6_init_36 (fun H hI => ?_)
  refine pt_X6_24 hx hb hts hown hKK hin hI e0 (by decide) (kc44 hk0) (x := some 48) (fun _ => TF0 _ _) dX6_init_38 (fun σ H locs hI ew ho => ?_)
  have e0 := ew
  have e5 := (ho 5 (nn rfl)).trans e5
  have fr := frs fr ho (by decide)
  refine lv_aload_n hx hb dX6_init_41 rfl (lv_at hl 0 rfl) ?_
  refine lv_bipush (v := 32) hx hb dX6_init_42 (by decide) ?_
  refine r_newa hx hb hts hKK hI (kd := 27) (N := 32) (t0 := 0) (a0 := (32, .inl (fun _ => 0))) (ty := .int) rfl rfl (gtb_t 100 (by decide +kernel) (by decide +kernel)) (fun C h => by cases h) rfl (fun _ => rfl) (by decide) (by decide +kernel) (by decide) (kc49 hk0) (Nat.le_of_ble_eq_true rfl) (Nat.le_of_ble_eq_true rfl) dX6_init_44 (fun H hI => ?_)
  refine pt_X6_28 hx hb hts hown hKK hin hI e0 (by decide) (kc44 hk0) (x := some 49) (fun _ => TF0 _ _) dX6_init_46 (fun σ H locs hI ew ho => ?_)
  have e0 := ew
  have e5 := (ho 5 (nn rfl)).trans e5
  have fr := frs fr ho (by decide)
  refine lv_aload_n hx hb dX6_init_49 rfl (lv_at hl 0 rfl) ?_
  refine lv_sipush (v := 128) hx hb dX6_init_50 (by decide) ?_
  refine r_newa hx hb hts hKK hI (kd := 28) (N := 128) (t0 := 0) (a0 := (128, .inl (fun _ => 0))) (ty := .int) rfl rfl (gtb_t 100 (by decide +kernel) (by decide +kernel)) (fun C h => by cases h) rfl (fun _ => rfl) (by decide) (by decide +kernel) (by decide) (kc50 hk0) (Nat.le_of_ble_eq_true rfl) (Nat.le_of_ble_eq_true rfl) dX6_init_53 (fun H hI => ?_)
  refine pt_X6_31 hx hb hts hown hKK hin hI e0 (by decide) (kc44 hk0) (x := some 50) (fun _ => TF0 _ _) dX6_init_55 (fun σ H locs hI ew ho => ?_)
  have e0 := ew
  have e5 := (ho 5 (nn rfl)).trans e5
  have fr := frs fr ho (by decide)
  refine lv_aload_n hx hb dX6_init_58 rfl (lv_at hl 0 rfl) ?_
  refine r_new hx hb hts hown hKK hI (kd := 2) (T := TX2) (ty := tyX2) (ci := 2) rfl rfl in_X2 tyX2_ok (hz2 HB.size) lx_X6_34 (gtb_t 102 (by decide +kernel) (by decide +kernel)) (gtb_t 3 (by decide +kernel) (by decide +kernel)) (kc51 hk0) (Nat.le_of_ble_eq_true rfl) (Nat.le_of_ble_eq_true rfl) dX6_init_59 (fun H hI => ?_)
  refine lv_dup hx hb dX6_init_62 rfl ?_
  refine r_callINo (As := []) (rest := [.ref (HB.size + 51), .ref (HB.size + 44)]) hx hb hml hts hown (k_X2_51 l HB D y κ σ hk0) cal_X2_init rfl im_X2_init (hKK.2.1 _ (List.mem_of_getElem? (i := 3) rfl)) ⟨Nat.le_of_ble_eq_true rfl, Nat.le_of_ble_eq_true rfl⟩ hI.nil hKo rfl hl.1 hI.2.2 rfl (Nat.le_of_ble_eq_true rfl) dX6_init_63 ⟨Nat.le_of_ble_eq_true rfl, Nat.le_of_ble_eq_true rfl⟩ rfl rfl rfl (fun H locs hB hlo => ?_)
  obtain ⟨σ, hB, en0, en5, ho⟩ := hB
  have hI := hB.re hlo
  have e0 := en0.trans (congrArg i_X2_51_0 e0)
  have e5 := en5.trans (congrArg i_X2_51_5 e5)
  have fr := frc fr ho (by decide)
  refine pt_X6_37 hx hb hts hown hKK hin hI e0 (by decide) (kc44 hk0) (x := some 51) (fun _ => TF0 _ _) dX6_init_66 (fun σ H locs hI ew ho => ?_)
  have e0 := ew
  have e5 := (ho 5 (nn rfl)).trans e5
  have fr := frs fr ho (by decide)
  refine lv_aload_n hx hb dX6_init_69 rfl (lv_at hl 0 rfl) ?_
  refine lv_aload_n hx hb dX6_init_70 rfl (lv_at hl 1 rfl) ?_
  refine pt_X6_41 hx hb hts hown hKK hin hI e0 (by decide) (kc44 hk0) (x := some 32) (fun _ => TF0 _ _) dX6_init_71 (fun σ H locs hI ew ho => ?_)
  have e0 := ew
  have e5 := (ho 5 (nn rfl)).trans e5
  have fr := frs fr ho (by decide)
  refine lv_aload_n hx hb dX6_init_74 rfl (lv_at hl 0 rfl) ?_
  refine lv_aload_n hx hb dX6_init_75 rfl (lv_at hl 2 rfl) ?_
  refine pt_X6_45 hx hb hts hown hKK hin hI e0 (by decide) (kc44 hk0) (x := some 2) (fun _ => TF0 _ _) dX6_init_76 (fun σ H locs hI ew ho => ?_)
  have e0 := ew
  have e5 := (ho 5 (nn rfl)).trans e5
  have fr := frs fr ho (by decide)
  exact W.vret hx hb hr (fun t ht hW => qc_mk rfl (by rw [ht]; exact ⟨σ, hI.nil, e0, e5, fr⟩)) hI.2.2 dX6_init_79 hlocks
def i_X0_65_0 (G : Grp) : Grp := (gR (gR (gR (gR G 65 0 (some 66)) 65 1 (some 67)) 65 3 (some 68)) 65 4 (some 69))
def RI_X0_65 : Room := { frames := 1, cells := 4, slots := 54, locals := 12 }
abbrev BI_X0_65 (HB : Heap) (D : va_G) (y : Nat → ClassId) (κ : Nat → Nat) (σi : St) : Heap → Prop := fun H => ∃ σ' : St, IV HB D y 0 70 κ σ' [] H ∧ σ' 0 = i_X0_65_0 (σi 0) ∧ ∀ j, j ∉ ([0] : List Nat) → σ' j = σi j
set_option maxRecDepth 100000 in
set_option maxHeartbeats 8000000 in
theorem k_X0_65 (l : Launch) (HB : Heap) (D : va_G) (y : Nat → ClassId) (κ : Nat → Nat) (σi : St) (hk0 : ∀ a : Nat, a < N0 → κ a = K0 a) : MTo l HB D y yX0_init cX0_init 1 none RI_X0_65 [.ref (HB.size + 65)] (IV HB D y 0 66 κ σi []) none (BI_X0_65 HB D y κ σi) := by
  refine Met.ofW (cc := cX0_init) (maxL := 1) (ret := none) (by decide) rfl ?_
  intro p e s m args below meth c s₁ BL hml hv
  obtain ⟨rfl, hI, hKo⟩ := hv
  have hKK := hKo.1
  have hx := BL.exec
  have hb := BL.bytes
  have hr := BL.returns
  have hts : ∀ w ∈ gtb, w.before _ s = true := fun w hw => atoms_spec BL.pre w (List.mem_cons_of_mem _ hw)
  have hml : c.maxLocals = 1 := hml
  have hown : s.vm.findClass RX0 = some m.cls := findClass_of_methodNamed BL.named
  have hlocks := BL.notSynchronized
  have hin : meth.name = "<init>" := (name_of_methodNamed BL.named BL.method).1
  have hl := lv_entry ([.ref (HB.size + 65)]) (n := 1) (Nat.le_of_ble_eq_true rfl)
  rw [lg_entry_eq]
  generalize (lg_sl ([.ref (HB.size + 65)]) ++ List.replicate (1 - (lg_sl ([.ref (HB.size + 65)])).length) Slot.unset).toArray = ls at hl ⊢
  have hl : lv_has ls 1 [(0, .ref (HB.size + 65))] := hl
  generalize hargs : ([.ref (HB.size + 65)] : List Value).toArray = args at *
  have hov5 := va_AO.use (A := args) hKo.2.1
  have hov6 := va_AO.use (A := args) hKo.2.2
  obtain ⟨σ, hI, e0, fr⟩ : ∃ σ : St, IV HB D y 0 66 κ σ [] s.heap ∧ σ 0 = σi 0 ∧ ∀ j, j ∉ ([0] : List Nat) → σ j = σi j := ⟨σi, hI, rfl, fun _ _ => rfl⟩
  show W p l e RI_X0_65 s m args below meth c s.heap [] 0 0 (MQ below (QCg none (BI_X0_65 HB D y κ σi)) args s RI_X0_65.cells RI_X0_65.slots (fun x => HB.size ≤ x)) (F0 m 0 ls [])
  generalize s.heap = H at hI ⊢
  obtain ⟨locs, hlocs⟩ : ∃ x : List Loc, x = [] := ⟨_, rfl⟩
  rw [← hlocs] at hI ⊢
  refine lv_aload_n hx hb dX0_init_0 rfl (lv_at hl 0 rfl) ?_
  refine W.objInit hx hb hown (hts _ (gtb_t 274 (by decide +kernel) (by decide +kernel))) (hts _ obI.1) (hts _ obI.2) rfl (by rw [hml]; exact hl.1) rfl dX0_init_1 (Nat.le_of_ble_eq_true rfl) (Nat.le_of_ble_eq_true rfl) ?_
  refine W.eq (g2 := F0 m 4 ls []) rfl ?_
  refine lv_aload_n hx hb dX0_init_4 rfl (lv_at hl 0 rfl) ?_
  refine lv_bipush (v := 6) hx hb dX0_init_5 (by decide) ?_
  refine r_newa hx hb hts hKK hI (kd := 32) (N := 6) (t0 := 0) (a0 := (6, .inl (fun _ => 0))) (ty := .int) rfl rfl (gtb_t 100 (by decide +kernel) (by decide +kernel)) (fun C h => by cases h) rfl (fun _ => rfl) (by decide) (by decide +kernel) (by decide) (kc66 hk0) (Nat.le_of_ble_eq_true rfl) (Nat.le_of_ble_eq_true rfl) dX0_init_7 (fun H hI => ?_)
  refine pt_X0_9 hx hb hts hown hKK hin hI e0 (by decide) (kc65 hk0) (x := some 66) (fun _ => TF0 _ _) dX0_init_9 (fun σ H locs hI ew ho => ?_)
  have e0 := ew
  have fr := frs fr ho (by decide)
  refine lv_aload_n hx hb dX0_init_12 rfl (lv_at hl 0 rfl) ?_
  refine lv_bipush (v := 6) hx hb dX0_init_13 (by decide) ?_
  refine r_newa hx hb hts hKK hI (kd := 32) (N := 6) (t0 := 0) (a0 := (6, .inl (fun _ => 0))) (ty := .int) rfl rfl (gtb_t 100 (by decide +kernel) (by decide +kernel)) (fun C h => by cases h) rfl (fun _ => rfl) (by decide) (by decide +kernel) (by decide) (kc67 hk0) (Nat.le_of_ble_eq_true rfl) (Nat.le_of_ble_eq_true rfl) dX0_init_15 (fun H hI => ?_)
  refine pt_X0_15 hx hb hts hown hKK hin hI e0 (by decide) (kc65 hk0) (x := some 67) (fun _ => TF0 _ _) dX0_init_17 (fun σ H locs hI ew ho => ?_)
  have e0 := ew
  have fr := frs fr ho (by decide)
  refine lv_aload_n hx hb dX0_init_20 rfl (lv_at hl 0 rfl) ?_
  refine lv_bipush (v := 36) hx hb dX0_init_21 (by decide) ?_
  refine r_newa hx hb hts hKK hI (kd := 33) (N := 36) (t0 := 0) (a0 := (36, .inl (fun _ => 0))) (ty := .int) rfl rfl (gtb_t 100 (by decide +kernel) (by decide +kernel)) (fun C h => by cases h) rfl (fun _ => rfl) (by decide) (by decide +kernel) (by decide) (kc68 hk0) (Nat.le_of_ble_eq_true rfl) (Nat.le_of_ble_eq_true rfl) dX0_init_23 (fun H hI => ?_)
  refine pt_X0_18 hx hb hts hown hKK hin hI e0 (by decide) (kc65 hk0) (x := some 68) (fun _ => TF0 _ _) dX0_init_25 (fun σ H locs hI ew ho => ?_)
  have e0 := ew
  have fr := frs fr ho (by decide)
  refine lv_aload_n hx hb dX0_init_28 rfl (lv_at hl 0 rfl) ?_
  refine lv_bipush (v := 6) hx hb dX0_init_29 (by decide) ?_
  refine r_newa hx hb hts hKK hI (kd := 32) (N := 6) (t0 := 0) (a0 := (6, .inl (fun _ => 0))) (ty := .int) rfl rfl (gtb_t 100 (by decide +kernel) (by decide +kernel)) (fun C h => by cases h) rfl (fun _ => rfl) (by decide) (by decide +kernel) (by decide) (kc69 hk0) (Nat.le_of_ble_eq_true rfl) (Nat.le_of_ble_eq_true rfl) dX0_init_31 (fun H hI => ?_)
  refine pt_X0_21 hx hb hts hown hKK hin hI e0 (by decide) (kc65 hk0) (x := some 69) (fun _ => TF0 _ _) dX0_init_33 (fun σ H locs hI ew ho => ?_)
  have e0 := ew
  have fr := frs fr ho (by decide)
  exact W.vret hx hb hr (fun t ht hW => qc_mk rfl (by rw [ht]; exact ⟨σ, hI.nil, e0, fr⟩)) hI.2.2 dX0_init_36 hlocks
def i_X9_60_0 (G : Grp) : Grp := (gR (i_X0_65_0 (gR (gR (gR (gR G 60 1 (some 61)) 60 2 (some 62)) 60 3 (some 63)) 60 4 (some 64))) 60 5 (some 65))
def RI_X9_60 : Room := { frames := 2, cells := 9, slots := 86, locals := 32 }
abbrev BI_X9_60 (HB : Heap) (D : va_G) (y : Nat → ClassId) (κ : Nat → Nat) (σi : St) : Heap → Prop := fun H => ∃ σ' : St, IV HB D y 0 70 κ σ' [] H ∧ σ' 0 = i_X9_60_0 (σi 0) ∧ ∀ j, j ∉ ([0] : List Nat) → σ' j = σi j
set_option maxRecDepth 100000 in
set_option maxHeartbeats 8000000 in
theorem k_X9_60 (l : Launch) (HB : Heap) (D : va_G) (y : Nat → ClassId) (κ : Nat → Nat) (σi : St) (hk0 : ∀ a : Nat, a < N0 → κ a = K0 a) : MTo l HB D y yX9_init cX9_init 1 none RI_X9_60 [.ref (HB.size + 60)] (IV HB D y 0 61 κ σi []) none (BI_X9_60 HB D y κ σi) := by
  refine Met.ofW (cc := cX9_init) (maxL := 1) (ret := none) (by decide) rfl ?_
  intro p e s m args below meth c s₁ BL hml hv
  obtain ⟨rfl, hI, hKo⟩ := hv
  have hKK := hKo.1
  have hx := BL.exec
  have hb := BL.bytes
  have hr := BL.returns
  have hts : ∀ w ∈ gtb, w.before _ s = true := fun w hw => atoms_spec BL.pre w (List.mem_cons_of_mem _ hw)
  have hml : c.maxLocals = 1 := hml
  have hown : s.vm.findClass RX9 = some m.cls := findClass_of_methodNamed BL.named
  have hlocks := BL.notSynchronized
  have hin : meth.name = "<init>" := (name_of_methodNamed BL.named BL.method).1
  have hl := lv_entry ([.ref (HB.size + 60)]) (n := 1) (Nat.le_of_ble_eq_true rfl)
  rw [lg_entry_eq]
  generalize (lg_sl ([.ref (HB.size + 60)]) ++ List.replicate (1 - (lg_sl ([.ref (HB.size + 60)])).length) Slot.unset).toArray = ls at hl ⊢
  have hl : lv_has ls 1 [(0, .ref (HB.size + 60))] := hl
  generalize hargs : ([.ref (HB.size + 60)] : List Value).toArray = args at *
  have hov5 := va_AO.use (A := args) hKo.2.1
  have hov6 := va_AO.use (A := args) hKo.2.2
  obtain ⟨σ, hI, e0, fr⟩ : ∃ σ : St, IV HB D y 0 61 κ σ [] s.heap ∧ σ 0 = σi 0 ∧ ∀ j, j ∉ ([0] : List Nat) → σ j = σi j := ⟨σi, hI, rfl, fun _ _ => rfl⟩
  show W p l e RI_X9_60 s m args below meth c s.heap [] 0 0 (MQ below (QCg none (BI_X9_60 HB D y κ σi)) args s RI_X9_60.cells RI_X9_60.slots (fun x => HB.size ≤ x)) (F0 m 0 ls [])
  generalize s.heap = H at hI ⊢
  obtain ⟨locs, hlocs⟩ : ∃ x : List Loc, x = [] := ⟨_, rfl⟩
  rw [← hlocs] at hI ⊢
  refine lv_aload_n hx hb dX9_init_0 rfl (lv_at hl 0 rfl) ?_
  refine W.objInit hx hb hown (hts _ (gtb_t 267 (by decide +kernel) (by decide +kernel))) (hts _ obI.1) (hts _ obI.2) rfl (by rw [hml]; exact hl.1) rfl dX9_init_1 (Nat.le_of_ble_eq_true rfl) (Nat.le_of_ble_eq_true rfl) ?_
  refine W.eq (g2 := F0 m 4 ls []) rfl ?_
  refine lv_aload_n hx hb dX9_init_4 rfl (lv_at hl 0 rfl) ?_
  refine lv_bipush (v := 6) hx hb dX9_init_5 (by decide) ?_
  refine r_newa hx hb hts hKK hI (kd := 29) (N := 6) (t0 := 1) (a0 := (6, .inr (.inl (fun _ => 0)))) (ty := .long) rfl rfl (gtb_t 304 (by decide +kernel) (by decide +kernel)) (fun C h => by cases h) rfl (fun _ => rfl) (by decide) (by decide +kernel) (by decide) (kc61 hk0) (Nat.le_of_ble_eq_true rfl) (Nat.le_of_ble_eq_true rfl) dX9_init_7 (fun H hI => ?_)
  refine pt_X9_9 hx hb hts hown hKK hin hI e0 (by decide) (kc60 hk0) (x := some 61) (fun _ => TF0 _ _) dX9_init_9 (fun σ H locs hI ew ho => ?_)
  have e0 := ew
  have fr := frs fr ho (by decide)
  refine lv_aload_n hx hb dX9_init_12 rfl (lv_at hl 0 rfl) ?_
  refine lv_bipush (v := 6) hx hb dX9_init_13 (by decide) ?_
  refine r_newa hx hb hts hKK hI (kd := 30) (N := 6) (t0 := 0) (a0 := (6, .inl (fun _ => 0))) (ty := .int) rfl rfl (gtb_t 100 (by decide +kernel) (by decide +kernel)) (fun C h => by cases h) rfl (fun _ => rfl) (by decide) (by decide +kernel) (by decide) (kc62 hk0) (Nat.le_of_ble_eq_true rfl) (Nat.le_of_ble_eq_true rfl) dX9_init_15 (fun H hI => ?_)
  refine pt_X9_15 hx hb hts hown hKK hin hI e0 (by decide) (kc60 hk0) (x := some 62) (fun _ => TF0 _ _) dX9_init_17 (fun σ H locs hI ew ho => ?_)
  have e0 := ew
  have fr := frs fr ho (by decide)
  refine lv_aload_n hx hb dX9_init_20 rfl (lv_at hl 0 rfl) ?_
  refine lv_bipush (v := 6) hx hb dX9_init_21 (by decide) ?_
  refine r_newa hx hb hts hKK hI (kd := 30) (N := 6) (t0 := 0) (a0 := (6, .inl (fun _ => 0))) (ty := .int) rfl rfl (gtb_t 100 (by decide +kernel) (by decide +kernel)) (fun C h => by cases h) rfl (fun _ => rfl) (by decide) (by decide +kernel) (by decide) (kc63 hk0) (Nat.le_of_ble_eq_true rfl) (Nat.le_of_ble_eq_true rfl) dX9_init_23 (fun H hI => ?_)
  refine pt_X9_19 hx hb hts hown hKK hin hI e0 (by decide) (kc60 hk0) (x := some 63) (fun _ => TF0 _ _) dX9_init_25 (fun σ H locs hI ew ho => ?_)
  have e0 := ew
  have fr := frs fr ho (by decide)
  refine lv_aload_n hx hb dX9_init_28 rfl (lv_at hl 0 rfl) ?_
  refine lv_bipush (v := 6) hx hb dX9_init_29 (by decide) ?_
  refine r_anew (C := RX4) hx hb hts hown hKK hI (kd := 31) (N := 6) (t0 := 5) rfl lx_X9_22 (List.mem_append_right _ (List.mem_of_getElem? (i := 222) (by decide +kernel))) hov5 rfl (by decide) (by decide) (by decide) (kc64 hk0) (Nat.le_of_ble_eq_true rfl) (Nat.le_of_ble_eq_true rfl) dX9_init_31 (fun H hI => ?_)
  refine pt_X9_24 hx hb hts hown hKK hin hI e0 (by decide) (kc60 hk0) (x := some 64) (fun _ => TF0 _ _) dX9_init_34 (fun σ H locs hI ew ho => ?_)
  have e0 := ew
  have fr := frs fr ho (by decide)
  refine lv_aload_n hx hb dX9_init_37 rfl (lv_at hl 0 rfl) ?_
  refine r_new hx hb hts hown hKK hI (kd := 0) (T := TX0) (ty := tyX0) (ci := 0) rfl rfl in_X0 tyX0_ok (hz0 HB.size) lx_X9_28 (gtb_t 270 (by decide +kernel) (by decide +kernel)) (gtb_t 7 (by decide +kernel) (by decide +kernel)) (kc65 hk0) (Nat.le_of_ble_eq_true rfl) (Nat.le_of_ble_eq_true rfl) dX9_init_38 (fun H hI => ?_)
  refine lv_dup hx hb dX9_init_41 rfl ?_
  refine r_callINo (As := []) (rest := [.ref (HB.size + 65), .ref (HB.size + 60)]) hx hb hml hts hown (k_X0_65 l HB D y κ σ hk0) cal_X0_init rfl im_X0_init (hKK.2.1 _ (List.mem_of_getElem? (i := 5) rfl)) ⟨Nat.le_of_ble_eq_true rfl, Nat.le_of_ble_eq_true rfl⟩ hI.nil hKo rfl hl.1 hI.2.2 rfl (Nat.le_of_ble_eq_true rfl) dX9_init_42 ⟨Nat.le_of_ble_eq_true rfl, Nat.le_of_ble_eq_true rfl⟩ rfl rfl rfl (fun H locs hB hlo => ?_)
  obtain ⟨σ, hB, en0, ho⟩ := hB
  have hI := hB.re hlo
  have e0 := en0.trans (congrArg i_X0_65_0 e0)
  have fr := frc fr ho (by decide)
  refine pt_X9_31 hx hb hts hown hKK hin hI e0 (by decide) (kc60 hk0) (x := some 65) (fun _ => TF0 _ _) dX9_init_45 (fun σ H locs hI ew ho => ?_)
  have e0 := ew
  have fr := frs fr ho (by decide)
  exact W.vret hx hb hr (fun t ht hW => qc_mk rfl (by rw [ht]; exact ⟨σ, hI.nil, e0, fr⟩)) hI.2.2 dX9_init_48 hlocks
def i_X1_70_0 (G : Grp) : Grp := (gR (gR (gR (gR (gR (gR (gR (gR G 70 3 (some 71)) 70 4 (some 72)) 70 5 (some 73)) 70 6 (some 74)) 70 9 (some 75)) 70 10 (some 76)) 70 11 (some 77)) 70 12 (some 2))
def RI_X1_70 : Room := { frames := 1, cells := 7, slots := 90, locals := 12 }
abbrev BI_X1_70 (HB : Heap) (D : va_G) (y : Nat → ClassId) (κ : Nat → Nat) (σi : St) : Heap → Prop := fun H => ∃ σ' : St, IV HB D y 0 78 κ σ' [] H ∧ σ' 0 = i_X1_70_0 (σi 0) ∧ ∀ j, j ∉ ([0] : List Nat) → σ' j = σi j
set_option maxRecDepth 100000 in
set_option maxHeartbeats 8000000 in
theorem k_X1_70 (l : Launch) (HB : Heap) (D : va_G) (y : Nat → ClassId) (κ : Nat → Nat) (σi : St) (hk0 : ∀ a : Nat, a < N0 → κ a = K0 a) : MTo l HB D y yX1_init cX1_init 2 none RI_X1_70 [.ref (HB.size + 70), .ref (HB.size + 2)] (IV HB D y 0 71 κ σi []) none (BI_X1_70 HB D y κ σi) := by
  refine Met.ofW (cc := cX1_init) (maxL := 2) (ret := none) (by decide) rfl ?_
  intro p e s m args below meth c s₁ BL hml hv
  obtain ⟨rfl, hI, hKo⟩ := hv
  have hKK := hKo.1
  have hx := BL.exec
  have hb := BL.bytes
  have hr := BL.returns
  have hts : ∀ w ∈ gtb, w.before _ s = true := fun w hw => atoms_spec BL.pre w (List.mem_cons_of_mem _ hw)
  have hml : c.maxLocals = 2 := hml
  have hown : s.vm.findClass RX1 = some m.cls := findClass_of_methodNamed BL.named
  have hlocks := BL.notSynchronized
  have hin : meth.name = "<init>" := (name_of_methodNamed BL.named BL.method).1
  have hl := lv_entry ([.ref (HB.size + 70), .ref (HB.size + 2)]) (n := 2) (Nat.le_of_ble_eq_true rfl)
  rw [lg_entry_eq]
  generalize (lg_sl ([.ref (HB.size + 70), .ref (HB.size + 2)]) ++ List.replicate (2 - (lg_sl ([.ref (HB.size + 70), .ref (HB.size + 2)])).length) Slot.unset).toArray = ls at hl ⊢
  have hl : lv_has ls 2 [(0, .ref (HB.size + 70)), (1, .ref (HB.size + 2))] := hl
  generalize hargs : ([.ref (HB.size + 70), .ref (HB.size + 2)] : List Value).toArray = args at *
  have hov5 := va_AO.use (A := args) hKo.2.1
  have hov6 := va_AO.use (A := args) hKo.2.2
  obtain ⟨σ, hI, e0, fr⟩ : ∃ σ : St, IV HB D y 0 71 κ σ [] s.heap ∧ σ 0 = σi 0 ∧ ∀ j, j ∉ ([0] : List Nat) → σ j = σi j := ⟨σi, hI, rfl, fun _ _ => rfl⟩
  show W p l e RI_X1_70 s m args below meth c s.heap [] 0 0 (MQ below (QCg none (BI_X1_70 HB D y κ σi)) args s RI_X1_70.cells RI_X1_70.slots (fun x => HB.size ≤ x)) (F0 m 0 ls [])
  generalize s.heap = H at hI ⊢
  obtain ⟨locs, hlocs⟩ : ∃ x : List Loc, x = [] := ⟨_, rfl⟩
  rw [← hlocs] at hI ⊢
  refine lv_aload_n hx hb dX1_init_0 rfl (lv_at hl 0 rfl) ?_
  refine W.objInit hx hb hown (hts _ (gtb_t 330 (by decide +kernel) (by decide +kernel))) (hts _ obI.1) (hts _ obI.2) rfl (by rw [hml]; exact hl.1) rfl dX1_init_1 (Nat.le_of_ble_eq_true rfl) (Nat.le_of_ble_eq_true rfl) ?_
  refine W.eq (g2 := F0 m 4 ls []) rfl ?_
  refine lv_aload_n hx hb dX1_init_4 rfl (lv_at hl 0 rfl) ?_
  refine lv_bipush (v := 6) hx hb dX1_init_5 (by decide) ?_
  refine r_newa hx hb hts hKK hI (kd := 34) (N := 6) (t0 := 1) (a0 := (6, .inr (.inl (fun _ => 0)))) (ty := .long) rfl rfl (gtb_t 304 (by decide +kernel) (by decide +kernel)) (fun C h => by cases h) rfl (fun _ => rfl) (by decide) (by decide +kernel) (by decide) (kc71 hk0) (Nat.le_of_ble_eq_true rfl) (Nat.le_of_ble_eq_true rfl) dX1_init_7 (fun H hI => ?_)
  refine pt_X1_9 hx hb hts hown hKK hin hI e0 (by decide) (kc70 hk0) (x := some 71) (fun _ => TF0 _ _) dX1_init_9 (fun σ H locs hI ew ho => ?_)
  have e0 := ew
  have fr := frs fr ho (by decide)
  refine lv_aload_n hx hb dX1_init_12 rfl (lv_at hl 0 rfl) ?_
  refine lv_bipush (v := 16) hx hb dX1_init_13 (by decide) ?_
  refine r_newa hx hb hts hKK hI (kd := 35) (N := 16) (t0 := 1) (a0 := (16, .inr (.inl (fun _ => 0)))) (ty := .long) rfl rfl (gtb_t 304 (by decide +kernel) (by decide +kernel)) (fun C h => by cases h) rfl (fun _ => rfl) (by decide) (by decide +kernel) (by decide) (kc72 hk0) (Nat.le_of_ble_eq_true rfl) (Nat.le_of_ble_eq_true rfl) dX1_init_15 (fun H hI => ?_)
  refine pt_X1_15 hx hb hts hown hKK hin hI e0 (by decide) (kc70 hk0) (x := some 72) (fun _ => TF0 _ _) dX1_init_17 (fun σ H locs hI ew ho => ?_)
  have e0 := ew
  have fr := frs fr ho (by decide)
  refine lv_aload_n hx hb dX1_init_20 rfl (lv_at hl 0 rfl) ?_
  refine lv_bipush (v := 16) hx hb dX1_init_21 (by decide) ?_
  refine r_newa hx hb hts hKK hI (kd := 36) (N := 16) (t0 := 0) (a0 := (16, .inl (fun _ => 0))) (ty := .int) rfl rfl (gtb_t 100 (by decide +kernel) (by decide +kernel)) (fun C h => by cases h) rfl (fun _ => rfl) (by decide) (by decide +kernel) (by decide) (kc73 hk0) (Nat.le_of_ble_eq_true rfl) (Nat.le_of_ble_eq_true rfl) dX1_init_23 (fun H hI => ?_)
  refine pt_X1_18 hx hb hts hown hKK hin hI e0 (by decide) (kc70 hk0) (x := some 73) (fun _ => TF0 _ _) dX1_init_25 (fun σ H locs hI ew ho => ?_)
  have e0 := ew
  have fr := frs fr ho (by decide)
  refine lv_aload_n hx hb dX1_init_28 rfl (lv_at hl 0 rfl) ?_
  refine lv_bipush (v := 16) hx hb dX1_init_29 (by decide) ?_
  refine r_newa hx hb hts hKK hI (kd := 36) (N := 16) (t0 := 0) (a0 := (16, .inl (fun _ => 0))) (ty := .int) rfl rfl (gtb_t 100 (by decide +kernel) (by decide +kernel)) (fun C h => by cases h) rfl (fun _ => rfl) (by decide) (by decide +kernel) (by decide) (kc74 hk0) (Nat.le_of_ble_eq_true rfl) (Nat.le_of_ble_eq_true rfl) dX1_init_31 (fun H hI => ?_)
  refine pt_X1_22 hx hb hts hown hKK hin hI e0 (by decide) (kc70 hk0) (x := some 74) (fun _ => TF0 _ _) dX1_init_33 (fun σ H locs hI ew ho => ?_)
  have e0 := ew
  have fr := frs fr ho (by decide)
  refine lv_aload_n hx hb dX1_init_36 rfl (lv_at hl 0 rfl) ?_
  refine lv_bipush (v := 12) hx hb dX1_init_37 (by decide) ?_
  refine r_newa hx hb hts hKK hI (kd := 37) (N := 12) (t0 := 0) (a0 := (12, .inl (fun _ => 0))) (ty := .int) rfl rfl (gtb_t 100 (by decide +kernel) (by decide +kernel)) (fun C h => by cases h) rfl (fun _ => rfl) (by decide) (by decide +kernel) (by decide) (kc75 hk0) (Nat.le_of_ble_eq_true rfl) (Nat.le_of_ble_eq_true rfl) dX1_init_39 (fun H hI => ?_)
  refine pt_X1_25 hx hb hts hown hKK hin hI e0 (by decide) (kc70 hk0) (x := some 75) (fun _ => TF0 _ _) dX1_init_41 (fun σ H locs hI ew ho => ?_)
  have e0 := ew
  have fr := frs fr ho (by decide)
  refine lv_aload_n hx hb dX1_init_44 rfl (lv_at hl 0 rfl) ?_
  refine lv_bipush (v := 12) hx hb dX1_init_45 (by decide) ?_
  refine r_newa hx hb hts hKK hI (kd := 37) (N := 12) (t0 := 0) (a0 := (12, .inl (fun _ => 0))) (ty := .int) rfl rfl (gtb_t 100 (by decide +kernel) (by decide +kernel)) (fun C h => by cases h) rfl (fun _ => rfl) (by decide) (by decide +kernel) (by decide) (kc76 hk0) (Nat.le_of_ble_eq_true rfl) (Nat.le_of_ble_eq_true rfl) dX1_init_47 (fun H hI => ?_)
  refine pt_X1_28 hx hb hts hown hKK hin hI e0 (by decide) (kc70 hk0) (x := some 76) (fun _ => TF0 _ _) dX1_init_49 (fun σ H locs hI ew ho => ?_)
  have e0 := ew
  have fr := frs fr ho (by decide)
  refine lv_aload_n hx hb dX1_init_52 rfl (lv_at hl 0 rfl) ?_
  refine lv_bipush (v := 12) hx hb dX1_init_53 (by decide) ?_
  refine r_newa hx hb hts hKK hI (kd := 37) (N := 12) (t0 := 0) (a0 := (12, .inl (fun _ => 0))) (ty := .int) rfl rfl (gtb_t 100 (by decide +kernel) (by decide +kernel)) (fun C h => by cases h) rfl (fun _ => rfl) (by decide) (by decide +kernel) (by decide) (kc77 hk0) (Nat.le_of_ble_eq_true rfl) (Nat.le_of_ble_eq_true rfl) dX1_init_55 (fun H hI => ?_)
  refine pt_X1_31 hx hb hts hown hKK hin hI e0 (by decide) (kc70 hk0) (x := some 77) (fun _ => TF0 _ _) dX1_init_57 (fun σ H locs hI ew ho => ?_)
  have e0 := ew
  have fr := frs fr ho (by decide)
  refine lv_aload_n hx hb dX1_init_60 rfl (lv_at hl 0 rfl) ?_
  refine lv_aload_n hx hb dX1_init_61 rfl (lv_at hl 1 rfl) ?_
  refine pt_X1_34 hx hb hts hown hKK hin hI e0 (by decide) (kc70 hk0) (x := some 2) (fun _ => TF0 _ _) dX1_init_62 (fun σ H locs hI ew ho => ?_)
  have e0 := ew
  have fr := frs fr ho (by decide)
  exact W.vret hx hb hr (fun t ht hW => qc_mk rfl (by rw [ht]; exact ⟨σ, hI.nil, e0, fr⟩)) hI.2.2 dX1_init_65 hlocks
def i_X0_84_0 (G : Grp) : Grp := (gR (gR (gR (gR G 84 0 (some 85)) 84 1 (some 86)) 84 3 (some 87)) 84 4 (some 88))
def RI_X0_84 : Room := { frames := 1, cells := 4, slots := 54, locals := 12 }
abbrev BI_X0_84 (HB : Heap) (D : va_G) (y : Nat → ClassId) (κ : Nat → Nat) (σi : St) : Heap → Prop := fun H => ∃ σ' : St, IV HB D y 0 89 κ σ' [] H ∧ σ' 0 = i_X0_84_0 (σi 0) ∧ ∀ j, j ∉ ([0] : List Nat) → σ' j = σi j
set_option maxRecDepth 100000 in
set_option maxHeartbeats 8000000 in
theorem k_X0_84 (l : Launch) (HB : Heap) (D : va_G) (y : Nat → ClassId) (κ : Nat → Nat) (σi : St) (hk0 : ∀ a : Nat, a < N0 → κ a = K0 a) : MTo l HB D y yX0_init cX0_init 1 none RI_X0_84 [.ref (HB.size + 84)] (IV HB D y 0 85 κ σi []) none (BI_X0_84 HB D y κ σi) := by
  refine Met.ofW (cc := cX0_init) (maxL := 1) (ret := none) (by decide) rfl ?_
  intro p e s m args below meth c s₁ BL hml hv
  obtain ⟨rfl, hI, hKo⟩ := hv
  have hKK := hKo.1
  have hx := BL.exec
  have hb := BL.bytes
  have hr := BL.returns
  have hts : ∀ w ∈ gtb, w.before _ s = true := fun w hw => atoms_spec BL.pre w (List.mem_cons_of_mem _ hw)
  have hml : c.maxLocals = 1 := hml
  have hown : s.vm.findClass RX0 = some m.cls := findClass_of_methodNamed BL.named
  have hlocks := BL.notSynchronized
  have hin : meth.name = "<init>" := (name_of_methodNamed BL.named BL.method).1
  have hl := lv_entry ([.ref (HB.size + 84)]) (n := 1) (Nat.le_of_ble_eq_true rfl)
  rw [lg_entry_eq]
  generalize (lg_sl ([.ref (HB.size + 84)]) ++ List.replicate (1 - (lg_sl ([.ref (HB.size + 84)])).length) Slot.unset).toArray = ls at hl ⊢
  have hl : lv_has ls 1 [(0, .ref (HB.size + 84))] := hl
  generalize hargs : ([.ref (HB.size + 84)] : List Value).toArray = args at *
  have hov5 := va_AO.use (A := args) hKo.2.1
  have hov6 := va_AO.use (A := args) hKo.2.2
  obtain ⟨σ, hI, e0, fr⟩ : ∃ σ : St, IV HB D y 0 85 κ σ [] s.heap ∧ σ 0 = σi 0 ∧ ∀ j, j ∉ ([0] : List Nat) → σ j = σi j := ⟨σi, hI, rfl, fun _ _ => rfl⟩
  show W p l e RI_X0_84 s m args below meth c s.heap [] 0 0 (MQ below (QCg none (BI_X0_84 HB D y κ σi)) args s RI_X0_84.cells RI_X0_84.slots (fun x => HB.size ≤ x)) (F0 m 0 ls [])
  generalize s.heap = H at hI ⊢
  obtain ⟨locs, hlocs⟩ : ∃ x : List Loc, x = [] := ⟨_, rfl⟩
  rw [← hlocs] at hI ⊢
  refine lv_aload_n hx hb dX0_init_0 rfl (lv_at hl 0 rfl) ?_
  refine W.objInit hx hb hown (hts _ (gtb_t 274 (by decide +kernel) (by decide +kernel))) (hts _ obI.1) (hts _ obI.2) rfl (by rw [hml]; exact hl.1) rfl dX0_init_1 (Nat.le_of_ble_eq_true rfl) (Nat.le_of_ble_eq_true rfl) ?_
  refine W.eq (g2 := F0 m 4 ls []) rfl ?_
  refine lv_aload_n hx hb dX0_init_4 rfl (lv_at hl 0 rfl) ?_
  refine lv_bipush (v := 6) hx hb dX0_init_5 (by decide) ?_
  refine r_newa hx hb hts hKK hI (kd := 32) (N := 6) (t0 := 0) (a0 := (6, .inl (fun _ => 0))) (ty := .int) rfl rfl (gtb_t 100 (by decide +kernel) (by decide +kernel)) (fun C h => by cases h) rfl (fun _ => rfl) (by decide) (by decide +kernel) (by decide) (kc85 hk0) (Nat.le_of_ble_eq_true rfl) (Nat.le_of_ble_eq_true rfl) dX0_init_7 (fun H hI => ?_)
  refine pt_X0_9 hx hb hts hown hKK hin hI e0 (by decide) (kc84 hk0) (x := some 85) (fun _ => TF0 _ _) dX0_init_9 (fun σ H locs hI ew ho => ?_)
  have e0 := ew
  have fr := frs fr ho (by decide)
  refine lv_aload_n hx hb dX0_init_12 rfl (lv_at hl 0 rfl) ?_
  refine lv_bipush (v := 6) hx hb dX0_init_13 (by decide) ?_
  refine r_newa hx hb hts hKK hI (kd := 32) (N := 6) (t0 := 0) (a0 := (6, .inl (fun _ => 0))) (ty := .int) rfl rfl (gtb_t 100 (by decide +kernel) (by decide +kernel)) (fun C h => by cases h) rfl (fun _ => rfl) (by decide) (by decide +kernel) (by decide) (kc86 hk0) (Nat.le_of_ble_eq_true rfl) (Nat.le_of_ble_eq_true rfl) dX0_init_15 (fun H hI => ?_)
  refine pt_X0_15 hx hb hts hown hKK hin hI e0 (by decide) (kc84 hk0) (x := some 86) (fun _ => TF0 _ _) dX0_init_17 (fun σ H locs hI ew ho => ?_)
  have e0 := ew
  have fr := frs fr ho (by decide)
  refine lv_aload_n hx hb dX0_init_20 rfl (lv_at hl 0 rfl) ?_
  refine lv_bipush (v := 36) hx hb dX0_init_21 (by decide) ?_
  refine r_newa hx hb hts hKK hI (kd := 33) (N := 36) (t0 := 0) (a0 := (36, .inl (fun _ => 0))) (ty := .int) rfl rfl (gtb_t 100 (by decide +kernel) (by decide +kernel)) (fun C h => by cases h) rfl (fun _ => rfl) (by decide) (by decide +kernel) (by decide) (kc87 hk0) (Nat.le_of_ble_eq_true rfl) (Nat.le_of_ble_eq_true rfl) dX0_init_23 (fun H hI => ?_)
  refine pt_X0_18 hx hb hts hown hKK hin hI e0 (by decide) (kc84 hk0) (x := some 87) (fun _ => TF0 _ _) dX0_init_25 (fun σ H locs hI ew ho => ?_)
  have e0 := ew
  have fr := frs fr ho (by decide)
  refine lv_aload_n hx hb dX0_init_28 rfl (lv_at hl 0 rfl) ?_
  refine lv_bipush (v := 6) hx hb dX0_init_29 (by decide) ?_
  refine r_newa hx hb hts hKK hI (kd := 32) (N := 6) (t0 := 0) (a0 := (6, .inl (fun _ => 0))) (ty := .int) rfl rfl (gtb_t 100 (by decide +kernel) (by decide +kernel)) (fun C h => by cases h) rfl (fun _ => rfl) (by decide) (by decide +kernel) (by decide) (kc88 hk0) (Nat.le_of_ble_eq_true rfl) (Nat.le_of_ble_eq_true rfl) dX0_init_31 (fun H hI => ?_)
  refine pt_X0_21 hx hb hts hown hKK hin hI e0 (by decide) (kc84 hk0) (x := some 88) (fun _ => TF0 _ _) dX0_init_33 (fun σ H locs hI ew ho => ?_)
  have e0 := ew
  have fr := frs fr ho (by decide)
  exact W.vret hx hb hr (fun t ht hW => qc_mk rfl (by rw [ht]; exact ⟨σ, hI.nil, e0, fr⟩)) hI.2.2 dX0_init_36 hlocks
def i_X10_78_0 (G : Grp) : Grp := (gR (i_X0_84_0 (gR (gR (gR (gR (gR G 78 0 (some 79)) 78 1 (some 80)) 78 2 (some 81)) 78 3 (some 82)) 78 4 (some 83))) 78 5 (some 84))
def RI_X10_78 : Room := { frames := 2, cells := 10, slots := 122, locals := 32 }
abbrev BI_X10_78 (HB : Heap) (D : va_G) (y : Nat → ClassId) (κ : Nat → Nat) (σi : St) : Heap → Prop := fun H => ∃ σ' : St, IV HB D y 0 89 κ σ' [] H ∧ σ' 0 = i_X10_78_0 (σi 0) ∧ ∀ j, j ∉ ([0] : List Nat) → σ' j = σi j
set_option maxRecDepth 100000 in
set_option maxHeartbeats 8000000 in
theorem k_X10_78 (l : Launch) (HB : Heap) (D : va_G) (y : Nat → ClassId) (κ : Nat → Nat) (σi : St) (hk0 : ∀ a : Nat, a < N0 → κ a = K0 a) : MTo l HB D y yX10_init cX10_init 1 none RI_X10_78 [.ref (HB.size + 78)] (IV HB D y 0 79 κ σi []) none (BI_X10_78 HB D y κ σi) := by
  refine Met.ofW (cc := cX10_init) (maxL := 1) (ret := none) (by decide) rfl ?_
  intro p e s m args below meth c s₁ BL hml hv
  obtain ⟨rfl, hI, hKo⟩ := hv
  have hKK := hKo.1
  have hx := BL.exec
  have hb := BL.bytes
  have hr := BL.returns
  have hts : ∀ w ∈ gtb, w.before _ s = true := fun w hw => atoms_spec BL.pre w (List.mem_cons_of_mem _ hw)
  have hml : c.maxLocals = 1 := hml
  have hown : s.vm.findClass RX10 = some m.cls := findClass_of_methodNamed BL.named
  have hlocks := BL.notSynchronized
  have hin : meth.name = "<init>" := (name_of_methodNamed BL.named BL.method).1
  have hl := lv_entry ([.ref (HB.size + 78)]) (n := 1) (Nat.le_of_ble_eq_true rfl)
  rw [lg_entry_eq]
  generalize (lg_sl ([.ref (HB.size + 78)]) ++ List.replicate (1 - (lg_sl ([.ref (HB.size + 78)])).length) Slot.unset).toArray = ls at hl ⊢
  have hl : lv_has ls 1 [(0, .ref (HB.size + 78))] := hl
  generalize hargs : ([.ref (HB.size + 78)] : List Value).toArray = args at *
  have hov5 := va_AO.use (A := args) hKo.2.1
  have hov6 := va_AO.use (A := args) hKo.2.2
  obtain ⟨σ, hI, e0, fr⟩ : ∃ σ : St, IV HB D y 0 79 κ σ [] s.heap ∧ σ 0 = σi 0 ∧ ∀ j, j ∉ ([0] : List Nat) → σ j = σi j := ⟨σi, hI, rfl, fun _ _ => rfl⟩
  show W p l e RI_X10_78 s m args below meth c s.heap [] 0 0 (MQ below (QCg none (BI_X10_78 HB D y κ σi)) args s RI_X10_78.cells RI_X10_78.slots (fun x => HB.size ≤ x)) (F0 m 0 ls [])
  generalize s.heap = H at hI ⊢
  obtain ⟨locs, hlocs⟩ : ∃ x : List Loc, x = [] := ⟨_, rfl⟩
  rw [← hlocs] at hI ⊢
  refine lv_aload_n hx hb dX10_init_0 rfl (lv_at hl 0 rfl) ?_
  refine W.objInit hx hb hown (hts _ (gtb_t 378 (by decide +kernel) (by decide +kernel))) (hts _ obI.1) (hts _ obI.2) rfl (by rw [hml]; exact hl.1) rfl dX10_init_1 (Nat.le_of_ble_eq_true rfl) (Nat.le_of_ble_eq_true rfl) ?_
  refine W.eq (g2 := F0 m 4 ls []) rfl ?_
  refine lv_aload_n hx hb dX10_init_4 rfl (lv_at hl 0 rfl) ?_
  refine lv_bipush (v := 16) hx hb dX10_init_5 (by decide) ?_
  refine r_newa hx hb hts hKK hI (kd := 38) (N := 16) (t0 := 4) (a0 := (16, .inl (fun _ => 0))) (ty := .boolean) rfl rfl (gtb_t 261 (by decide +kernel) (by decide +kernel)) (fun C h => by cases h) rfl (fun _ => rfl) (by decide) (by decide +kernel) (by decide) (kc79 hk0) (Nat.le_of_ble_eq_true rfl) (Nat.le_of_ble_eq_true rfl) dX10_init_7 (fun H hI => ?_)
  refine pt_X10_9 hx hb hts hown hKK hin hI e0 (by decide) (kc78 hk0) (x := some 79) (fun _ => TF0 _ _) dX10_init_9 (fun σ H locs hI ew ho => ?_)
  have e0 := ew
  have fr := frs fr ho (by decide)
  refine lv_aload_n hx hb dX10_init_12 rfl (lv_at hl 0 rfl) ?_
  refine lv_bipush (v := 16) hx hb dX10_init_13 (by decide) ?_
  refine r_newa hx hb hts hKK hI (kd := 39) (N := 16) (t0 := 0) (a0 := (16, .inl (fun _ => 0))) (ty := .int) rfl rfl (gtb_t 100 (by decide +kernel) (by decide +kernel)) (fun C h => by cases h) rfl (fun _ => rfl) (by decide) (by decide +kernel) (by decide) (kc80 hk0) (Nat.le_of_ble_eq_true rfl) (Nat.le_of_ble_eq_true rfl) dX10_init_15 (fun H hI => ?_)
  refine pt_X10_15 hx hb hts hown hKK hin hI e0 (by decide) (kc78 hk0) (x := some 80) (fun _ => TF0 _ _) dX10_init_17 (fun σ H locs hI ew ho => ?_)
  have e0 := ew
  have fr := frs fr ho (by decide)
  refine lv_aload_n hx hb dX10_init_20 rfl (lv_at hl 0 rfl) ?_
  refine lv_bipush (v := 16) hx hb dX10_init_21 (by decide) ?_
  refine r_newa hx hb hts hKK hI (kd := 39) (N := 16) (t0 := 0) (a0 := (16, .inl (fun _ => 0))) (ty := .int) rfl rfl (gtb_t 100 (by decide +kernel) (by decide +kernel)) (fun C h => by cases h) rfl (fun _ => rfl) (by decide) (by decide +kernel) (by decide) (kc81 hk0) (Nat.le_of_ble_eq_true rfl) (Nat.le_of_ble_eq_true rfl) dX10_init_23 (fun H hI => ?_)
  refine pt_X10_19 hx hb hts hown hKK hin hI e0 (by decide) (kc78 hk0) (x := some 81) (fun _ => TF0 _ _) dX10_init_25 (fun σ H locs hI ew ho => ?_)
  have e0 := ew
  have fr := frs fr ho (by decide)
  refine lv_aload_n hx hb dX10_init_28 rfl (lv_at hl 0 rfl) ?_
  refine lv_bipush (v := 6) hx hb dX10_init_29 (by decide) ?_
  refine r_newa hx hb hts hKK hI (kd := 40) (N := 6) (t0 := 0) (a0 := (6, .inl (fun _ => 0))) (ty := .int) rfl rfl (gtb_t 100 (by decide +kernel) (by decide +kernel)) (fun C h => by cases h) rfl (fun _ => rfl) (by decide) (by decide +kernel) (by decide) (kc82 hk0) (Nat.le_of_ble_eq_true rfl) (Nat.le_of_ble_eq_true rfl) dX10_init_31 (fun H hI => ?_)
  refine pt_X10_22 hx hb hts hown hKK hin hI e0 (by decide) (kc78 hk0) (x := some 82) (fun _ => TF0 _ _) dX10_init_33 (fun σ H locs hI ew ho => ?_)
  have e0 := ew
  have fr := frs fr ho (by decide)
  refine lv_aload_n hx hb dX10_init_36 rfl (lv_at hl 0 rfl) ?_
  refine lv_bipush (v := 6) hx hb dX10_init_37 (by decide) ?_
  refine r_newa hx hb hts hKK hI (kd := 40) (N := 6) (t0 := 0) (a0 := (6, .inl (fun _ => 0))) (ty := .int) rfl rfl (gtb_t 100 (by decide +kernel) (by decide +kernel)) (fun C h => by cases h) rfl (fun _ => rfl) (by decide) (by decide +kernel) (by decide) (kc83 hk0) (Nat.le_of_ble_eq_true rfl) (Nat.le_of_ble_eq_true rfl) dX10_init_39 (fun H hI => ?_)
  refine pt_X10_25 hx hb hts hown hKK hin hI e0 (by decide) (kc78 hk0) (x := some 83) (fun _ => TF0 _ _) dX10_init_41 (fun σ H locs hI ew ho => ?_)
  have e0 := ew
  have fr := frs fr ho (by decide)
  refine lv_aload_n hx hb dX10_init_44 rfl (lv_at hl 0 rfl) ?_
  refine r_new hx hb hts hown hKK hI (kd := 0) (T := TX0) (ty := tyX0) (ci := 0) rfl rfl in_X0 tyX0_ok (hz0 HB.size) lx_X10_28 (gtb_t 270 (by decide +kernel) (by decide +kernel)) (gtb_t 7 (by decide +kernel) (by decide +kernel)) (kc84 hk0) (Nat.le_of_ble_eq_true rfl) (Nat.le_of_ble_eq_true rfl) dX10_init_45 (fun H hI => ?_)
  refine lv_dup hx hb dX10_init_48 rfl ?_
  refine r_callINo (As := []) (rest := [.ref (HB.size + 84), .ref (HB.size + 78)]) hx hb hml hts hown (k_X0_84 l HB D y κ σ hk0) cal_X0_init rfl im_X0_init (hKK.2.1 _ (List.mem_of_getElem? (i := 7) rfl)) ⟨Nat.le_of_ble_eq_true rfl, Nat.le_of_ble_eq_true rfl⟩ hI.nil hKo rfl hl.1 hI.2.2 rfl (Nat.le_of_ble_eq_true rfl) dX10_init_49 ⟨Nat.le_of_ble_eq_true rfl, Nat.le_of_ble_eq_true rfl⟩ rfl rfl rfl (fun H locs hB hlo => ?_)
  obtain ⟨σ, hB, en0, ho⟩ := hB
  have hI := hB.re hlo
  have e0 := en0.trans (congrArg i_X0_84_0 e0)
  have fr := frc fr ho (by decide)
  refine pt_X10_31 hx hb hts hown hKK hin hI e0 (by decide) (kc78 hk0) (x := some 84) (fun _ => TF0 _ _) dX10_init_52 (fun σ H locs hI ew ho => ?_)
  have e0 := ew
  have fr := frs fr ho (by decide)
  exact W.vret hx hb hr (fun t ht hW => qc_mk rfl (by rw [ht]; exact ⟨σ, hI.nil, e0, fr⟩)) hI.2.2 dX10_init_55 hlocks
def i_X8_89_0 (G : Grp) : Grp := (gR G 89 2 (some 90))
def RI_X8_89 : Room := { frames := 1, cells := 1, slots := 16, locals := 12 }
abbrev BI_X8_89 (HB : Heap) (D : va_G) (y : Nat → ClassId) (κ : Nat → Nat) (σi : St) : Heap → Prop := fun H => ∃ σ' : St, IV HB D y 0 91 κ σ' [] H ∧ σ' 0 = i_X8_89_0 (σi 0) ∧ ∀ j, j ∉ ([0] : List Nat) → σ' j = σi j
set_option maxRecDepth 100000 in
set_option maxHeartbeats 8000000 in
theorem k_X8_89 (l : Launch) (HB : Heap) (D : va_G) (y : Nat → ClassId) (κ : Nat → Nat) (σi : St) (hk0 : ∀ a : Nat, a < N0 → κ a = K0 a) : MTo l HB D y yX8_init cX8_init 1 none RI_X8_89 [.ref (HB.size + 89)] (IV HB D y 0 90 κ σi []) none (BI_X8_89 HB D y κ σi) := by
  refine Met.ofW (cc := cX8_init) (maxL := 1) (ret := none) (by decide) rfl ?_
  intro p e s m args below meth c s₁ BL hml hv
  obtain ⟨rfl, hI, hKo⟩ := hv
  have hKK := hKo.1
  have hx := BL.exec
  have hb := BL.bytes
  have hr := BL.returns
  have hts : ∀ w ∈ gtb, w.before _ s = true := fun w hw => atoms_spec BL.pre w (List.mem_cons_of_mem _ hw)
  have hml : c.maxLocals = 1 := hml
  have hown : s.vm.findClass RX8 = some m.cls := findClass_of_methodNamed BL.named
  have hlocks := BL.notSynchronized
  have hin : meth.name = "<init>" := (name_of_methodNamed BL.named BL.method).1
  have hl := lv_entry ([.ref (HB.size + 89)]) (n := 1) (Nat.le_of_ble_eq_true rfl)
  rw [lg_entry_eq]
  generalize (lg_sl ([.ref (HB.size + 89)]) ++ List.replicate (1 - (lg_sl ([.ref (HB.size + 89)])).length) Slot.unset).toArray = ls at hl ⊢
  have hl : lv_has ls 1 [(0, .ref (HB.size + 89))] := hl
  generalize hargs : ([.ref (HB.size + 89)] : List Value).toArray = args at *
  have hov5 := va_AO.use (A := args) hKo.2.1
  have hov6 := va_AO.use (A := args) hKo.2.2
  obtain ⟨σ, hI, e0, fr⟩ : ∃ σ : St, IV HB D y 0 90 κ σ [] s.heap ∧ σ 0 = σi 0 ∧ ∀ j, j ∉ ([0] : List Nat) → σ j = σi j := ⟨σi, hI, rfl, fun _ _ => rfl⟩
  show W p l e RI_X8_89 s m args below meth c s.heap [] 0 0 (MQ below (QCg none (BI_X8_89 HB D y κ σi)) args s RI_X8_89.cells RI_X8_89.slots (fun x => HB.size ≤ x)) (F0 m 0 ls [])
  generalize s.heap = H at hI ⊢
  obtain ⟨locs, hlocs⟩ : ∃ x : List Loc, x = [] := ⟨_, rfl⟩
  rw [← hlocs] at hI ⊢
  refine lv_aload_n hx hb dX8_init_0 rfl (lv_at hl 0 rfl) ?_
  refine W.objInit hx hb hown (hts _ (gtb_t 405 (by decide +kernel) (by decide +kernel))) (hts _ obI.1) (hts _ obI.2) rfl (by rw [hml]; exact hl.1) rfl dX8_init_1 (Nat.le_of_ble_eq_true rfl) (Nat.le_of_ble_eq_true rfl) ?_
  refine W.eq (g2 := F0 m 4 ls []) rfl ?_
  refine lv_aload_n hx hb dX8_init_4 rfl (lv_at hl 0 rfl) ?_
  refine lv_bipush (v := 16) hx hb dX8_init_5 (by decide) ?_
  refine r_newa hx hb hts hKK hI (kd := 41) (N := 16) (t0 := 0) (a0 := (16, .inl (fun _ => 0))) (ty := .int) rfl rfl (gtb_t 100 (by decide +kernel) (by decide +kernel)) (fun C h => by cases h) rfl (fun _ => rfl) (by decide) (by decide +kernel) (by decide) (kc90 hk0) (Nat.le_of_ble_eq_true rfl) (Nat.le_of_ble_eq_true rfl) dX8_init_7 (fun H hI => ?_)
  refine pt_X8_9 hx hb hts hown hKK hin hI e0 (by decide) (kc89 hk0) (x := some 90) (fun _ => TF0 _ _) dX8_init_9 (fun σ H locs hI ew ho => ?_)
  have e0 := ew
  have fr := frs fr ho (by decide)
  exact W.vret hx hb hr (fun t ht hW => qc_mk rfl (by rw [ht]; exact ⟨σ, hI.nil, e0, fr⟩)) hI.2.2 dX8_init_12 hlocks
def i_X11_0_0 (G : Grp) : Grp := (gR (i_X8_89_0 (gR (i_X10_78_0 (gR (i_X1_70_0 (gR (i_X9_60_0 (gR (i_X6_44_0 (gR (i_X3_32_0 (gR (i_X2_23_0 (i_X7_13_0 (i_X7_3_0 (gR (gR G 0 1 (some 1)) 0 3 (some 2))))) 0 6 (some 23))) 0 7 (some 32))) 0 8 (some 44))) 0 9 (some 60))) 0 10 (some 70))) 0 11 (some 78))) 0 12 (some 89))
def i_X11_0_1 (G : Grp) : Grp := (gR (gR G 0 4 (some 3)) 0 5 (some 13))
def i_X11_0_2 (G : Grp) : Grp := (gI (gI (gI (gI (gI (gI (gI (gI G 2 0 7) 2 1 2) 2 2 5) 2 3 3) 2 4 60) 2 5 10) 2 6 40) 2 7 5000)
def i_X11_0_3 (G : Grp) : Grp := (gR G 1 0 (some 240))
def i_X11_0_5 (G : Grp) : Grp := (i_X6_44_5 (i_X2_23_5 G))
def RI_X11_0 : Room := { frames := 3, cells := 90, slots := 8179, locals := 54 }
abbrev BI_X11_0 (HB : Heap) (D : va_G) (y : Nat → ClassId) (κ : Nat → Nat) (σi : St) : Heap → Prop := fun H => ∃ σ' : St, IV HB D y 0 91 κ σ' [] H ∧ σ' 0 = i_X11_0_0 (σi 0) ∧ σ' 1 = i_X11_0_1 (σi 1) ∧ σ' 2 = i_X11_0_2 (σi 2) ∧ σ' 3 = i_X11_0_3 (σi 3) ∧ σ' 5 = i_X11_0_5 (σi 5) ∧ ∀ j, j ∉ ([0, 1, 2, 3, 5] : List Nat) → σ' j = σi j
set_option maxRecDepth 100000 in
set_option maxHeartbeats 8000000 in
theorem k_X11_0 (l : Launch) (HB : Heap) (D : va_G) (y : Nat → ClassId) (κ : Nat → Nat) (σi : St) (hk0 : ∀ a : Nat, a < N0 → κ a = K0 a) : MTo l HB D y yX11_init cX11_init 1 none RI_X11_0 [.ref (HB.size + 0)] (IV HB D y 0 1 κ σi []) none (BI_X11_0 HB D y κ σi) := by
  refine Met.ofW (cc := cX11_init) (maxL := 1) (ret := none) (by decide) rfl ?_
  intro p e s m args below meth c s₁ BL hml hv
  obtain ⟨rfl, hI, hKo⟩ := hv
  have hKK := hKo.1
  have hx := BL.exec
  have hb := BL.bytes
  have hr := BL.returns
  have hts : ∀ w ∈ gtb, w.before _ s = true := fun w hw => atoms_spec BL.pre w (List.mem_cons_of_mem _ hw)
  have hml : c.maxLocals = 1 := hml
  have hown : s.vm.findClass RX11 = some m.cls := findClass_of_methodNamed BL.named
  have hlocks := BL.notSynchronized
  have hin : meth.name = "<init>" := (name_of_methodNamed BL.named BL.method).1
  have hl := lv_entry ([.ref (HB.size + 0)]) (n := 1) (Nat.le_of_ble_eq_true rfl)
  rw [lg_entry_eq]
  generalize (lg_sl ([.ref (HB.size + 0)]) ++ List.replicate (1 - (lg_sl ([.ref (HB.size + 0)])).length) Slot.unset).toArray = ls at hl ⊢
  have hl : lv_has ls 1 [(0, .ref (HB.size + 0))] := hl
  generalize hargs : ([.ref (HB.size + 0)] : List Value).toArray = args at *
  have hov5 := va_AO.use (A := args) hKo.2.1
  have hov6 := va_AO.use (A := args) hKo.2.2
  obtain ⟨σ, hI, e0, e1, e2, e3, e5, fr⟩ : ∃ σ : St, IV HB D y 0 1 κ σ [] s.heap ∧ σ 0 = σi 0 ∧ σ 1 = σi 1 ∧ σ 2 = σi 2 ∧ σ 3 = σi 3 ∧ σ 5 = σi 5 ∧ ∀ j, j ∉ ([0, 1, 2, 3, 5] : List Nat) → σ j = σi j := ⟨σi, hI, rfl, rfl, rfl, rfl, rfl, fun _ _ => rfl⟩
  show W p l e RI_X11_0 s m args below meth c s.heap [] 0 0 (MQ below (QCg none (BI_X11_0 HB D y κ σi)) args s RI_X11_0.cells RI_X11_0.slots (fun x => HB.size ≤ x)) (F0 m 0 ls [])
  generalize s.heap = H at hI ⊢
  obtain ⟨locs, hlocs⟩ : ∃ x : List Loc, x = [] := ⟨_, rfl⟩
  rw [← hlocs] at hI ⊢
  refine lv_aload_n hx hb dX11_init_0 rfl (lv_at hl 0 rfl) ?_
  refine W.objInit hx hb hown (hts _ (gtb_t 22 (by decide +kernel) (by decide +kernel))) (hts _ obI.1) (hts _ obI.2) rfl (by rw [hml]; exact hl.1) rfl dX11_init_1 (Nat.le_of_ble_eq_true rfl) (Nat.le_of_ble_eq_true rfl) ?_
  refine W.eq (g2 := F0 m 4 ls []) rfl ?_
  refine lv_aload_n hx hb dX11_init_4 rfl (lv_at hl 0 rfl) ?_
  refine lv_sipush (v := 240) hx hb dX11_init_5 (by decide) ?_
  refine r_newc hx hb hts hKK hI (N := 240) (gtb_t 99 (by decide +kernel) (by decide +kernel)) e3 (by decide) (by decide) (by decide) (kc1 hk0) (Nat.le_of_ble_eq_true rfl) (Nat.le_of_ble_eq_true rfl) dX11_init_8 (fun σ H hI ew ho => ?_)
  have e3 := ew
  have e0 := (ho 0 (nn rfl)).trans e0
  have e1 := (ho 1 (nn rfl)).trans e1
  have e2 := (ho 2 (nn rfl)).trans e2
  have e5 := (ho 5 (nn rfl)).trans e5
  have fr := frs fr ho (by decide)
  refine pt_X11_9 hx hb hts hown hKK hin hI e0 (by decide) (kc0 hk0) (x := some 1) (fun _ => TF0 _ _) dX11_init_10 (fun σ H locs hI ew ho => ?_)
  have e0 := ew
  have e1 := (ho 1 (nn rfl)).trans e1
  have e2 := (ho 2 (nn rfl)).trans e2
  have e3 := (ho 3 (nn rfl)).trans e3
  have e5 := (ho 5 (nn rfl)).trans e5
  have fr := frs fr ho (by decide)
  refine lv_aload_n hx hb dX11_init_13 rfl (lv_at hl 0 rfl) ?_
  refine lv_bipush (v := 8) hx hb dX11_init_14 (by decide) ?_
  refine r_newa hx hb hts hKK hI (kd := 14) (N := 8) (t0 := 0) (a0 := (8, .inl (fun _ => 0))) (ty := .int) rfl rfl (gtb_t 100 (by decide +kernel) (by decide +kernel)) (fun C h => by cases h) rfl (fun _ => rfl) (by decide) (by decide +kernel) (by decide) (kc2 hk0) (Nat.le_of_ble_eq_true rfl) (Nat.le_of_ble_eq_true rfl) dX11_init_16 (fun H hI => ?_)
  refine lv_dup hx hb dX11_init_18 rfl ?_
  refine lv_iconst (v := 0) hx hb dX11_init_19 (by decide) ?_
  refine lv_bipush (v := 7) hx hb dX11_init_20 (by decide) ?_
  refine sa_14 hx hb hKK hI e2 (by decide) (kc2 hk0) (i := 0) (by unfold vp_in; decide) dX11_init_22 (fun σ H locs hI ew ho => ?_)
  have e2 := ew
  have e0 := (ho 0 (nn rfl)).trans e0
  have e1 := (ho 1 (nn rfl)).trans e1
  have e3 := (ho 3 (nn rfl)).trans e3
  have e5 := (ho 5 (nn rfl)).trans e5
  have fr := frs fr ho (by decide)
  refine lv_dup hx hb dX11_init_23 rfl ?_
  refine lv_iconst (v := 1) hx hb dX11_init_24 (by decide) ?_
  refine lv_iconst (v := 2) hx hb dX11_init_25 (by decide) ?_
  refine sa_14 hx hb hKK hI e2 (by decide) (kc2 hk0) (i := 1) (by unfold vp_in; decide) dX11_init_26 (fun σ H locs hI ew ho => ?_)
  have e2 := ew
  have e0 := (ho 0 (nn rfl)).trans e0
  have e1 := (ho 1 (nn rfl)).trans e1
  have e3 := (ho 3 (nn rfl)).trans e3
  have e5 := (ho 5 (nn rfl)).trans e5
  have fr := frs fr ho (by decide)
  refine lv_dup hx hb dX11_init_27 rfl ?_
  refine lv_iconst (v := 2) hx hb dX11_init_28 (by decide) ?_
  refine lv_iconst (v := 5) hx hb dX11_init_29 (by decide) ?_
  refine sa_14 hx hb hKK hI e2 (by decide) (kc2 hk0) (i := 2) (by unfold vp_in; decide) dX11_init_30 (fun σ H locs hI ew ho => ?_)
  have e2 := ew
  have e0 := (ho 0 (nn rfl)).trans e0
  have e1 := (ho 1 (nn rfl)).trans e1
  have e3 := (ho 3 (nn rfl)).trans e3
  have e5 := (ho 5 (nn rfl)).trans e5
  have fr := frs fr ho (by decide)
  refine lv_dup hx hb dX11_init_31 rfl ?_
  refine lv_iconst (v := 3) hx hb dX11_init_32 (by decide) ?_
  refine lv_iconst (v := 3) hx hb dX11_init_33 (by decide) ?_
  refine sa_14 hx hb hKK hI e2 (by decide) (kc2 hk0) (i := 3) (by unfold vp_in; decide) dX11_init_34 (fun σ H locs hI ew ho => ?_)
  have e2 := ew
  have e0 := (ho 0 (nn rfl)).trans e0
  have e1 := (ho 1 (nn rfl)).trans e1
  have e3 := (ho 3 (nn rfl)).trans e3
  have e5 := (ho 5 (nn rfl)).trans e5
  have fr := frs fr ho (by decide)
  refine lv_dup hx hb dX11_init_35 rfl ?_
  refine lv_iconst (v := 4) hx hb dX11_init_36 (by decide) ?_
  refine lv_bipush (v := 60) hx hb dX11_init_37 (by decide) ?_
  refine sa_14 hx hb hKK hI e2 (by decide) (kc2 hk0) (i := 4) (by unfold vp_in; decide) dX11_init_39 (fun σ H locs hI ew ho => ?_)
  have e2 := ew
  have e0 := (ho 0 (nn rfl)).trans e0
  have e1 := (ho 1 (nn rfl)).trans e1
  have e3 := (ho 3 (nn rfl)).trans e3
  have e5 := (ho 5 (nn rfl)).trans e5
  have fr := frs fr ho (by decide)
  refine lv_dup hx hb dX11_init_40 rfl ?_
  refine lv_iconst (v := 5) hx hb dX11_init_41 (by decide) ?_
  refine lv_bipush (v := 10) hx hb dX11_init_42 (by decide) ?_
  refine sa_14 hx hb hKK hI e2 (by decide) (kc2 hk0) (i := 5) (by unfold vp_in; decide) dX11_init_44 (fun σ H locs hI ew ho => ?_)
  have e2 := ew
  have e0 := (ho 0 (nn rfl)).trans e0
  have e1 := (ho 1 (nn rfl)).trans e1
  have e3 := (ho 3 (nn rfl)).trans e3
  have e5 := (ho 5 (nn rfl)).trans e5
  have fr := frs fr ho (by decide)
  refine lv_dup hx hb dX11_init_45 rfl ?_
  refine lv_bipush (v := 6) hx hb dX11_init_46 (by decide) ?_
  refine lv_bipush (v := 40) hx hb dX11_init_48 (by decide) ?_
  refine sa_14 hx hb hKK hI e2 (by decide) (kc2 hk0) (i := 6) (by unfold vp_in; decide) dX11_init_50 (fun σ H locs hI ew ho => ?_)
  have e2 := ew
  have e0 := (ho 0 (nn rfl)).trans e0
  have e1 := (ho 1 (nn rfl)).trans e1
  have e3 := (ho 3 (nn rfl)).trans e3
  have e5 := (ho 5 (nn rfl)).trans e5
  have fr := frs fr ho (by decide)
  refine lv_dup hx hb dX11_init_51 rfl ?_
  refine lv_bipush (v := 7) hx hb dX11_init_52 (by decide) ?_
  refine lv_sipush (v := 5000) hx hb dX11_init_54 (by decide) ?_
  refine sa_14 hx hb hKK hI e2 (by decide) (kc2 hk0) (i := 7) (by unfold vp_in; decide) dX11_init_57 (fun σ H locs hI ew ho => ?_)
  have e2 := ew
  have e0 := (ho 0 (nn rfl)).trans e0
  have e1 := (ho 1 (nn rfl)).trans e1
  have e3 := (ho 3 (nn rfl)).trans e3
  have e5 := (ho 5 (nn rfl)).trans e5
  have fr := frs fr ho (by decide)
  refine pt_X11_13 hx hb hts hown hKK hin hI e0 (by decide) (kc0 hk0) (x := some 2) (fun _ => TF0 _ _) dX11_init_58 (fun σ H locs hI ew ho => ?_)
  have e0 := ew
  have e1 := (ho 1 (nn rfl)).trans e1
  have e2 := (ho 2 (nn rfl)).trans e2
  have e3 := (ho 3 (nn rfl)).trans e3
  have e5 := (ho 5 (nn rfl)).trans e5
  have fr := frs fr ho (by decide)
  refine lv_aload_n hx hb dX11_init_61 rfl (lv_at hl 0 rfl) ?_
  refine r_new hx hb hts hown hKK hI (kd := 7) (T := TX7) (ty := tyX7) (ci := 7) rfl rfl in_X7 tyX7_ok (hz7 HB.size) lx_X11_17 (gtb_t 26 (by decide +kernel) (by decide +kernel)) (gtb_t 2 (by decide +kernel) (by decide +kernel)) (kc3 hk0) (Nat.le_of_ble_eq_true rfl) (Nat.le_of_ble_eq_true rfl) dX11_init_62 (fun H hI => ?_)
  refine lv_dup hx hb dX11_init_65 rfl ?_
  refine r_callINo (As := []) (rest := [.ref (HB.size + 3), .ref (HB.size + 0)]) hx hb hml hts hown (k_X7_3 l HB D y κ σ hk0) cal_X7_init rfl im_X7_init (hKK.2.1 _ (List.mem_of_getElem? (i := 0) rfl)) ⟨Nat.le_of_ble_eq_true rfl, Nat.le_of_ble_eq_true rfl⟩ hI.nil hKo rfl hl.1 hI.2.2 rfl (Nat.le_of_ble_eq_true rfl) dX11_init_66 ⟨Nat.le_of_ble_eq_true rfl, Nat.le_of_ble_eq_true rfl⟩ rfl rfl rfl (fun H locs hB hlo => ?_)
  obtain ⟨σ, hB, en0, ho⟩ := hB
  have hI := hB.re hlo
  have e0 := en0.trans (congrArg i_X7_3_0 e0)
  have e1 := (ho 1 (ni rfl)).trans e1
  have e2 := (ho 2 (ni rfl)).trans e2
  have e3 := (ho 3 (ni rfl)).trans e3
  have e5 := (ho 5 (ni rfl)).trans e5
  have fr := frc fr ho (by decide)
  refine pt_X11_20 hx hb hts hown hKK hI e1 (by decide) (kc0 hk0) (x := some 3) (fun _ => TF0 _ _) dX11_init_69 (fun σ H locs hI ew ho => ?_)
  have e1 := ew
  have e0 := (ho 0 (nn rfl)).trans e0
  have e2 := (ho 2 (nn rfl)).trans e2
  have e3 := (ho 3 (nn rfl)).trans e3
  have e5 := (ho 5 (nn rfl)).trans e5
  have fr := frs fr ho (by decide)
  refine lv_aload_n hx hb dX11_init_72 rfl (lv_at hl 0 rfl) ?_
  refine r_new hx hb hts hown hKK hI (kd := 7) (T := TX7) (ty := tyX7) (ci := 7) rfl rfl in_X7 tyX7_ok (hz7 HB.size) lx_X11_17 (gtb_t 26 (by decide +kernel) (by decide +kernel)) (gtb_t 2 (by decide +kernel) (by decide +kernel)) (kc13 hk0) (Nat.le_of_ble_eq_true rfl) (Nat.le_of_ble_eq_true rfl) dX11_init_73 (fun H hI => ?_)
  refine lv_dup hx hb dX11_init_76 rfl ?_
  refine r_callINo (As := []) (rest := [.ref (HB.size + 13), .ref (HB.size + 0)]) hx hb hml hts hown (k_X7_13 l HB D y κ σ hk0) cal_X7_init rfl im_X7_init (hKK.2.1 _ (List.mem_of_getElem? (i := 0) rfl)) ⟨Nat.le_of_ble_eq_true rfl, Nat.le_of_ble_eq_true rfl⟩ hI.nil hKo rfl hl.1 hI.2.2 rfl (Nat.le_of_ble_eq_true rfl) dX11_init_77 ⟨Nat.le_of_ble_eq_true rfl, Nat.le_of_ble_eq_true rfl⟩ rfl rfl rfl (fun H locs hB hlo => ?_)
  obtain ⟨σ, hB, en0, ho⟩ := hB
  have hI := hB.re hlo
  have e0 := en0.trans (congrArg i_X7_13_0 e0)
  have e1 := (ho 1 (ni rfl)).trans e1
  have e2 := (ho 2 (ni rfl)).trans e2
  have e3 := (ho 3 (ni rfl)).trans e3
  have e5 := (ho 5 (ni rfl)).trans e5
  have fr := frc fr ho (by decide)
  refine pt_X11_24 hx hb hts hown hKK hI e1 (by decide) (kc0 hk0) (x := some 13) (fun _ => TF0 _ _) dX11_init_80 (fun σ H locs hI ew ho => ?_)
  have e1 := ew
  have e0 := (ho 0 (nn rfl)).trans e0
  have e2 := (ho 2 (nn rfl)).trans e2
  have e3 := (ho 3 (nn rfl)).trans e3
  have e5 := (ho 5 (nn rfl)).trans e5
  have fr := frs fr ho (by decide)
  refine lv_aload_n hx hb dX11_init_83 rfl (lv_at hl 0 rfl) ?_
  refine r_new hx hb hts hown hKK hI (kd := 2) (T := TX2) (ty := tyX2) (ci := 2) rfl rfl in_X2 tyX2_ok (hz2 HB.size) lx_X11_27 (gtb_t 102 (by decide +kernel) (by decide +kernel)) (gtb_t 3 (by decide +kernel) (by decide +kernel)) (kc23 hk0) (Nat.le_of_ble_eq_true rfl) (Nat.le_of_ble_eq_true rfl) dX11_init_84 (fun H hI => ?_)
  refine lv_dup hx hb dX11_init_87 rfl ?_
  refine r_callINo (As := []) (rest := [.ref (HB.size + 23), .ref (HB.size + 0)]) hx hb hml hts hown (k_X2_23 l HB D y κ σ hk0) cal_X2_init rfl im_X2_init (hKK.2.1 _ (List.mem_of_getElem? (i := 1) rfl)) ⟨Nat.le_of_ble_eq_true rfl, Nat.le_of_ble_eq_true rfl⟩ hI.nil hKo rfl hl.1 hI.2.2 rfl (Nat.le_of_ble_eq_true rfl) dX11_init_88 ⟨Nat.le_of_ble_eq_true rfl, Nat.le_of_ble_eq_true rfl⟩ rfl rfl rfl (fun H locs hB hlo => ?_)
  obtain ⟨σ, hB, en0, en5, ho⟩ := hB
  have hI := hB.re hlo
  have e0 := en0.trans (congrArg i_X2_23_0 e0)
  have e1 := (ho 1 (ni rfl)).trans e1
  have e2 := (ho 2 (ni rfl)).trans e2
  have e3 := (ho 3 (ni rfl)).trans e3
  have e5 := en5.trans (congrArg i_X2_23_5 e5)
  have fr := frc fr ho (by decide)
  refine pt_X11_30 hx hb hts hown hKK hin hI e0 (by decide) (kc0 hk0) (x := some 23) (fun _ => TF0 _ _) dX11_init_91 (fun σ H locs hI ew ho => ?_)
  have e0 := ew
  have e1 := (ho 1 (nn rfl)).trans e1
  have e2 := (ho 2 (nn rfl)).trans e2
  have e3 := (ho 3 (nn rfl)).trans e3
  have e5 := (ho 5 (nn rfl)).trans e5
  have fr := frs fr ho (by decide)
  refine lv_aload_n hx hb dX11_init_94 rfl (lv_at hl 0 rfl) ?_
  refine r_new hx hb hts hown hKK hI (kd := 3) (T := TX3) (ty := tyX3) (ci := 3) rfl rfl in_X3 tyX3_ok (hz3 HB.size) lx_X11_34 (gtb_t 145 (by decide +kernel) (by decide +kernel)) (gtb_t 4 (by decide +kernel) (by decide +kernel)) (kc32 hk0) (Nat.le_of_ble_eq_true rfl) (Nat.le_of_ble_eq_true rfl) dX11_init_95 (fun H hI => ?_)
  refine lv_dup hx hb dX11_init_98 rfl ?_
  refine r_callINo (As := []) (rest := [.ref (HB.size + 32), .ref (HB.size + 0)]) hx hb hml hts hown (k_X3_32 l HB D y κ σ hk0) cal_X3_init rfl im_X3_init (hKK.2.1 _ (List.mem_of_getElem? (i := 2) rfl)) ⟨Nat.le_of_ble_eq_true rfl, Nat.le_of_ble_eq_true rfl⟩ hI.nil hKo rfl hl.1 hI.2.2 rfl (Nat.le_of_ble_eq_true rfl) dX11_init_99 ⟨Nat.le_of_ble_eq_true rfl, Nat.le_of_ble_eq_true rfl⟩ rfl rfl rfl (fun H locs hB hlo => ?_)
  obtain ⟨σ, hB, en0, ho⟩ := hB
  have hI := hB.re hlo
  have e0 := en0.trans (congrArg i_X3_32_0 e0)
  have e1 := (ho 1 (ni rfl)).trans e1
  have e2 := (ho 2 (ni rfl)).trans e2
  have e3 := (ho 3 (ni rfl)).trans e3
  have e5 := (ho 5 (ni rfl)).trans e5
  have fr := frc fr ho (by decide)
  refine pt_X11_37 hx hb hts hown hKK hin hI e0 (by decide) (kc0 hk0) (x := some 32) (fun _ => TF0 _ _) dX11_init_102 (fun σ H locs hI ew ho => ?_)
  have e0 := ew
  have e1 := (ho 1 (nn rfl)).trans e1
  have e2 := (ho 2 (nn rfl)).trans e2
  have e3 := (ho 3 (nn rfl)).trans e3
  have e5 := (ho 5 (nn rfl)).trans e5
  have fr := frs fr ho (by decide)
  refine lv_aload_n hx hb dX11_init_105 rfl (lv_at hl 0 rfl) ?_
  refine r_new hx hb hts hown hKK hI (kd := 6) (T := TX6) (ty := tyX6) (ci := 6) rfl rfl in_X6 tyX6_ok (hz6 HB.size) lx_X11_41 (gtb_t 216 (by decide +kernel) (by decide +kernel)) (gtb_t 5 (by decide +kernel) (by decide +kernel)) (kc44 hk0) (Nat.le_of_ble_eq_true rfl) (Nat.le_of_ble_eq_true rfl) dX11_init_106 (fun H hI => ?_)
  refine lv_dup hx hb dX11_init_109 rfl ?_
  refine lv_aload_n hx hb dX11_init_110 rfl (lv_at hl 0 rfl) ?_
  refine gt_X11_37 hx hb hts hown hKK hI e0 (by decide) (kc0 hk0) dX11_init_111 ?_
  refine topr (t := 32) rfl ?_
  refine lv_aload_n hx hb dX11_init_114 rfl (lv_at hl 0 rfl) ?_
  refine gt_X11_13 hx hb hts hown hKK hI e0 (by decide) (kc0 hk0) dX11_init_115 ?_
  refine topr (t := 2) rfl ?_
  refine r_callIo (As := [.ref (HB.size + 32), .ref (HB.size + 2)]) (rest := [.ref (HB.size + 44), .ref (HB.size + 0)]) hx hb hml hts hown (k_X6_44 l HB D y κ σ hk0) cal_X6_init rfl im_X6_init lm_X11_43 ⟨Nat.le_of_ble_eq_true rfl, Nat.le_of_ble_eq_true rfl⟩ hI.nil hKo rfl hl.1 hI.2.2 rfl (Nat.le_of_ble_eq_true rfl) dX11_init_118 ⟨Nat.le_of_ble_eq_true rfl, Nat.le_of_ble_eq_true rfl⟩ rfl rfl rfl (fun H locs hB hlo => ?_)
  obtain ⟨σ, hB, en0, en5, ho⟩ := hB
  have hI := hB.re hlo
  have e0 := en0.trans (congrArg i_X6_44_0 e0)
  have e1 := (ho 1 (ni rfl)).trans e1
  have e2 := (ho 2 (ni rfl)).trans e2
  have e3 := (ho 3 (ni rfl)).trans e3
  have e5 := en5.trans (congrArg i_X6_44_5 e5)
  have fr := frc fr ho (by decide)
  refine pt_X11_46 hx hb hts hown hKK hin hI e0 (by decide) (kc0 hk0) (x := some 44) (fun _ => TF0 _ _) dX11_init_121 (fun σ H locs hI ew ho => ?_)
  have e0 := ew
  have e1 := (ho 1 (nn rfl)).trans e1
  have e2 := (ho 2 (nn rfl)).trans e2
  have e3 := (ho 3 (nn rfl)).trans e3
  have e5 := (ho 5 (nn rfl)).trans e5
  have fr := frs fr ho (by decide)
  refine lv_aload_n hx hb dX11_init_124 rfl (lv_at hl 0 rfl) ?_
  refine r_new hx hb hts hown hKK hI (kd := 9) (T := TX9) (ty := tyX9) (ci := 9) rfl rfl in_X9 tyX9_ok (hz9 HB.size) lx_X11_50 (gtb_t 263 (by decide +kernel) (by decide +kernel)) (gtb_t 6 (by decide +kernel) (by decide +kernel)) (kc60 hk0) (Nat.le_of_ble_eq_true rfl) (Nat.le_of_ble_eq_true rfl) dX11_init_125 (fun H hI => ?_)
  refine lv_dup hx hb dX11_init_128 rfl ?_
  refine r_callINo (As := []) (rest := [.ref (HB.size + 60), .ref (HB.size + 0)]) hx hb hml hts hown (k_X9_60 l HB D y κ σ hk0) cal_X9_init rfl im_X9_init (hKK.2.1 _ (List.mem_of_getElem? (i := 4) rfl)) ⟨Nat.le_of_ble_eq_true rfl, Nat.le_of_ble_eq_true rfl⟩ hI.nil hKo rfl hl.1 hI.2.2 rfl (Nat.le_of_ble_eq_true rfl) dX11_init_129 ⟨Nat.le_of_ble_eq_true rfl, Nat.le_of_ble_eq_true rfl⟩ rfl rfl rfl (fun H locs hB hlo => ?_)
  obtain ⟨σ, hB, en0, ho⟩ := hB
  have hI := hB.re hlo
  have e0 := en0.trans (congrArg i_X9_60_0 e0)
  have e1 := (ho 1 (ni rfl)).trans e1
  have e2 := (ho 2 (ni rfl)).trans e2
  have e3 := (ho 3 (ni rfl)).trans e3
  have e5 := (ho 5 (ni rfl)).trans e5
  have fr := frc fr ho (by decide)
  refine pt_X11_53 hx hb hts hown hKK hin hI e0 (by decide) (kc0 hk0) (x := some 60) (fun _ => TF0 _ _) dX11_init_132 (fun σ H locs hI ew ho => ?_)
  have e0 := ew
  have e1 := (ho 1 (nn rfl)).trans e1
  have e2 := (ho 2 (nn rfl)).trans e2
  have e3 := (ho 3 (nn rfl)).trans e3
  have e5 := (ho 5 (nn rfl)).trans e5
  have fr := frs fr ho (by decide)
  refine lv_aload_n hx hb dX11_init_135 rfl (lv_at hl 0 rfl) ?_
  refine r_new hx hb hts hown hKK hI (kd := 1) (T := TX1) (ty := tyX1) (ci := 1) rfl rfl in_X1 tyX1_ok (hz1 HB.size) lx_X11_57 (gtb_t 326 (by decide +kernel) (by decide +kernel)) (gtb_t 8 (by decide +kernel) (by decide +kernel)) (kc70 hk0) (Nat.le_of_ble_eq_true rfl) (Nat.le_of_ble_eq_true rfl) dX11_init_136 (fun H hI => ?_)
  refine lv_dup hx hb dX11_init_139 rfl ?_
  refine lv_aload_n hx hb dX11_init_140 rfl (lv_at hl 0 rfl) ?_
  refine gt_X11_13 hx hb hts hown hKK hI e0 (by decide) (kc0 hk0) dX11_init_141 ?_
  refine topr (t := 2) rfl ?_
  refine r_callIo (As := [.ref (HB.size + 2)]) (rest := [.ref (HB.size + 70), .ref (HB.size + 0)]) hx hb hml hts hown (k_X1_70 l HB D y κ σ hk0) cal_X1_init rfl im_X1_init lm_X11_59 ⟨Nat.le_of_ble_eq_true rfl, Nat.le_of_ble_eq_true rfl⟩ hI.nil hKo rfl hl.1 hI.2.2 rfl (Nat.le_of_ble_eq_true rfl) dX11_init_144 ⟨Nat.le_of_ble_eq_true rfl, Nat.le_of_ble_eq_true rfl⟩ rfl rfl rfl (fun H locs hB hlo => ?_)
  obtain ⟨σ, hB, en0, ho⟩ := hB
  have hI := hB.re hlo
  have e0 := en0.trans (congrArg i_X1_70_0 e0)
  have e1 := (ho 1 (ni rfl)).trans e1
  have e2 := (ho 2 (ni rfl)).trans e2
  have e3 := (ho 3 (ni rfl)).trans e3
  have e5 := (ho 5 (ni rfl)).trans e5
  have fr := frc fr ho (by decide)
  refine pt_X11_62 hx hb hts hown hKK hin hI e0 (by decide) (kc0 hk0) (x := some 70) (fun _ => TF0 _ _) dX11_init_147 (fun σ H locs hI ew ho => ?_)
  have e0 := ew
  have e1 := (ho 1 (nn rfl)).trans e1
  have e2 := (ho 2 (nn rfl)).trans e2
  have e3 := (ho 3 (nn rfl)).trans e3
  have e5 := (ho 5 (nn rfl)).trans e5
  have fr := frs fr ho (by decide)
  refine lv_aload_n hx hb dX11_init_150 rfl (lv_at hl 0 rfl) ?_
  refine r_new hx hb hts hown hKK hI (kd := 10) (T := TX10) (ty := tyX10) (ci := 10) rfl rfl in_X10 tyX10_ok (hz10 HB.size) lx_X11_66 (gtb_t 374 (by decide +kernel) (by decide +kernel)) (gtb_t 9 (by decide +kernel) (by decide +kernel)) (kc78 hk0) (Nat.le_of_ble_eq_true rfl) (Nat.le_of_ble_eq_true rfl) dX11_init_151 (fun H hI => ?_)
  refine lv_dup hx hb dX11_init_154 rfl ?_
  refine r_callINo (As := []) (rest := [.ref (HB.size + 78), .ref (HB.size + 0)]) hx hb hml hts hown (k_X10_78 l HB D y κ σ hk0) cal_X10_init rfl im_X10_init (hKK.2.1 _ (List.mem_of_getElem? (i := 6) rfl)) ⟨Nat.le_of_ble_eq_true rfl, Nat.le_of_ble_eq_true rfl⟩ hI.nil hKo rfl hl.1 hI.2.2 rfl (Nat.le_of_ble_eq_true rfl) dX11_init_155 ⟨Nat.le_of_ble_eq_true rfl, Nat.le_of_ble_eq_true rfl⟩ rfl rfl rfl (fun H locs hB hlo => ?_)
  obtain ⟨σ, hB, en0, ho⟩ := hB
  have hI := hB.re hlo
  have e0 := en0.trans (congrArg i_X10_78_0 e0)
  have e1 := (ho 1 (ni rfl)).trans e1
  have e2 := (ho 2 (ni rfl)).trans e2
  have e3 := (ho 3 (ni rfl)).trans e3
  have e5 := (ho 5 (ni rfl)).trans e5
  have fr := frc fr ho (by decide)
  refine pt_X11_69 hx hb hts hown hKK hin hI e0 (by decide) (kc0 hk0) (x := some 78) (fun _ => TF0 _ _) dX11_init_158 (fun σ H locs hI ew ho => ?_)
  have e0 := ew
  have e1 := (ho 1 (nn rfl)).trans e1
  have e2 := (ho 2 (nn rfl)).trans e2
  have e3 := (ho 3 (nn rfl)).trans e3
  have e5 := (ho 5 (nn rfl)).trans e5
  have fr := frs fr ho (by decide)
  refine lv_aload_n hx hb dX11_init_161 rfl (lv_at hl 0 rfl) ?_
  refine r_new hx hb hts hown hKK hI (kd := 8) (T := TX8) (ty := tyX8) (ci := 8) rfl rfl in_X8 tyX8_ok (hz8 HB.size) lx_X11_73 (gtb_t 401 (by decide +kernel) (by decide +kernel)) (gtb_t 10 (by decide +kernel) (by decide +kernel)) (kc89 hk0) (Nat.le_of_ble_eq_true rfl) (Nat.le_of_ble_eq_true rfl) dX11_init_162 (fun H hI => ?_)
  refine lv_dup hx hb dX11_init_165 rfl ?_
  refine r_callINo (As := []) (rest := [.ref (HB.size + 89), .ref (HB.size + 0)]) hx hb hml hts hown (k_X8_89 l HB D y κ σ hk0) cal_X8_init rfl im_X8_init (hKK.2.1 _ (List.mem_of_getElem? (i := 8) rfl)) ⟨Nat.le_of_ble_eq_true rfl, Nat.le_of_ble_eq_true rfl⟩ hI.nil hKo rfl hl.1 hI.2.2 rfl (Nat.le_of_ble_eq_true rfl) dX11_init_166 ⟨Nat.le_of_ble_eq_true rfl, Nat.le_of_ble_eq_true rfl⟩ rfl rfl rfl (fun H locs hB hlo => ?_)
  obtain ⟨σ, hB, en0, ho⟩ := hB
  have hI := hB.re hlo
  have e0 := en0.trans (congrArg i_X8_89_0 e0)
  have e1 := (ho 1 (ni rfl)).trans e1
  have e2 := (ho 2 (ni rfl)).trans e2
  have e3 := (ho 3 (ni rfl)).trans e3
  have e5 := (ho 5 (ni rfl)).trans e5
  have fr := frc fr ho (by decide)
  refine pt_X11_76 hx hb hts hown hKK hin hI e0 (by decide) (kc0 hk0) (x := some 89) (fun _ => TF0 _ _) dX11_init_169 (fun σ H locs hI ew ho => ?_)
  have e0 := ew
  have e1 := (ho 1 (nn rfl)).trans e1
  have e2 := (ho 2 (nn rfl)).trans e2
  have e3 := (ho 3 (nn rfl)).trans e3
  have e5 := (ho 5 (nn rfl)).trans e5
  have fr := frs fr ho (by decide)
  exact W.vret hx hb hr (fun t ht hW => qc_mk rfl (by rw [ht]; exact ⟨σ, hI.nil, e0, e1, e2, e3, e5, fr⟩)) hI.2.2 dX11_init_172 hlocks
def i_X12_91_0 (G : Grp) : Grp := (gR (gR (gR (gR (gR (gR (gR (gR (gR (gR (gR (gR (gR (gR (gR (gR (gR (gR (gR (gR (gR (gR (gR (gR (gR (gR (gR (gR (gR (gR (gR (gR (gR (gR (gR (gR (gR (gR (gR (gR (gR (gR (gR (gR (gR (gR (gR (gR (gR (gR (gR (gR (gR (gR (gR (gR (gR (gR (gR (gR (gR (gR (gR (gR (gR (gR (gR (gR (gR (gR (gR (gR (gR (gR (gR (gR (gR (gR (gR (gR (gR (gR G 91 5 (some 92)) 91 6 (some 93)) 91 7 (some 94)) 91 8 (some 95)) 91 9 (some 96)) 91 10 (some 97)) 91 11 (some 98)) 91 12 (some 99)) 91 13 (some 100)) 91 14 (some 101)) 91 15 (some 102)) 91 16 (some 103)) 91 17 (some 104)) 91 18 (some 105)) 91 19 (some 106)) 91 24 (some 107)) 91 25 (some 108)) 91 26 (some 109)) 91 27 (some 110)) 91 28 (some 111)) 91 29 (some 112)) 91 30 (some 113)) 91 31 (some 114)) 91 32 (some 115)) 91 33 (some 116)) 91 34 (some 117)) 91 35 (some 118)) 91 36 (some 119)) 91 42 (some 120)) 91 43 (some 121)) 91 44 (some 122)) 91 45 (some 123)) 91 47 (some 124)) 91 48 (some 125)) 91 49 (some 126)) 91 50 (some 127)) 91 53 (some 128)) 91 54 (some 129)) 91 55 (some 130)) 91 56 (some 131)) 91 59 (some 132)) 91 60 (some 133)) 91 61 (some 134)) 91 62 (some 135)) 91 63 (some 136)) 91 64 (some 137)) 91 65 (some 138)) 91 66 (some 139)) 91 67 (some 140)) 91 68 (some 141)) 91 69 (some 142)) 91 70 (some 143)) 91 71 (some 144)) 91 72 (some 145)) 91 73 (some 146)) 91 74 (some 147)) 91 75 (some 148)) 91 77 (some 149)) 91 78 (some 150)) 91 79 (some 151)) 91 80 (some 152)) 91 81 (some 153)) 91 82 (some 154)) 91 83 (some 155)) 91 84 (some 156)) 91 89 (some 157)) 91 90 (some 158)) 91 91 (some 159)) 91 92 (some 160)) 91 94 (some 161)) 91 95 (some 162)) 91 96 (some 163)) 91 97 (some 164)) 91 99 (some 165)) 91 100 (some 166)) 91 101 (some 167)) 91 102 (some 168)) 91 103 (some 169)) 91 104 (some 170)) 91 105 (some 171)) 91 106 (some 172)) 91 111 (some 173))
def i_X12_91_26 (G : Grp) : Grp := (gI (gI (gI (gI (gI (gI (gI (gI G 105 0 7) 105 1 2) 105 2 5) 105 3 3) 105 4 60) 105 5 10) 105 6 40) 105 7 5000)
def RI_X12_91 : Room := { frames := 1, cells := 82, slots := 248910, locals := 12 }
abbrev BI_X12_91 (HB : Heap) (D : va_G) (y : Nat → ClassId) (κ : Nat → Nat) (σi : St) : Heap → Prop := fun H => ∃ σ' : St, IV HB D y 0 174 κ σ' [] H ∧ σ' 0 = i_X12_91_0 (σi 0) ∧ σ' 26 = i_X12_91_26 (σi 26) ∧ ∀ j, j ∉ ([0, 26] : List Nat) → σ' j = σi j
set_option maxRecDepth 100000 in
set_option maxHeartbeats 8000000 in
theorem k_X12_91 (l : Launch) (HB : Heap) (D : va_G) (y : Nat → ClassId) (κ : Nat → Nat) (σi : St) (hk0 : ∀ a : Nat, a < N0 → κ a = K0 a) : MTo l HB D y yX12_init cX12_init 1 none RI_X12_91 [.ref (HB.size + 91)] (IV HB D y 0 92 κ σi []) none (BI_X12_91 HB D y κ σi) := by
  refine Met.ofW (cc := cX12_init) (maxL := 1) (ret := none) (by decide) rfl ?_
  intro p e s m args below meth c s₁ BL hml hv
  obtain ⟨rfl, hI, hKo⟩ := hv
  have hKK := hKo.1
  have hx := BL.exec
  have hb := BL.bytes
  have hr := BL.returns
  have hts : ∀ w ∈ gtb, w.before _ s = true := fun w hw => atoms_spec BL.pre w (List.mem_cons_of_mem _ hw)
  have hml : c.maxLocals = 1 := hml
  have hown : s.vm.findClass RX12 = some m.cls := findClass_of_methodNamed BL.named
  have hlocks := BL.notSynchronized
  have hin : meth.name = "<init>" := (name_of_methodNamed BL.named BL.method).1
  have hl := lv_entry ([.ref (HB.size + 91)]) (n := 1) (Nat.le_of_ble_eq_true rfl)
  rw [lg_entry_eq]
  generalize (lg_sl ([.ref (HB.size + 91)]) ++ List.replicate (1 - (lg_sl ([.ref (HB.size + 91)])).length) Slot.unset).toArray = ls at hl ⊢
  have hl : lv_has ls 1 [(0, .ref (HB.size + 91))] := hl
  generalize hargs : ([.ref (HB.size + 91)] : List Value).toArray = args at *
  have hov5 := va_AO.use (A := args) hKo.2.1
  have hov6 := va_AO.use (A := args) hKo.2.2
  obtain ⟨σ, hI, e0, e26, fr⟩ : ∃ σ : St, IV HB D y 0 92 κ σ [] s.heap ∧ σ 0 = σi 0 ∧ σ 26 = σi 26 ∧ ∀ j, j ∉ ([0, 26] : List Nat) → σ j = σi j := ⟨σi, hI, rfl, rfl, fun _ _ => rfl⟩
  show W p l e RI_X12_91 s m args below meth c s.heap [] 0 0 (MQ below (QCg none (BI_X12_91 HB D y κ σi)) args s RI_X12_91.cells RI_X12_91.slots (fun x => HB.size ≤ x)) (F0 m 0 ls [])
  generalize s.heap = H at hI ⊢
  obtain ⟨locs, hlocs⟩ : ∃ x : List Loc, x = [] := ⟨_, rfl⟩
  rw [← hlocs] at hI ⊢
  refine lv_aload_n hx hb dX12_init_0 rfl (lv_at hl 0 rfl) ?_
  refine W.objInit hx hb hown (hts _ (gtb_t 1186 (by decide +kernel) (by decide +kernel))) (hts _ obI.1) (hts _ obI.2) rfl (by rw [hml]; exact hl.1) rfl dX12_init_1 (Nat.le_of_ble_eq_true rfl) (Nat.le_of_ble_eq_true rfl) ?_
  refine W.eq (g2 := F0 m 4 ls []) rfl ?_
  refine lv_aload_n hx hb dX12_init_4 rfl (lv_at hl 0 rfl) ?_
  refine lv_bipush (v := 6) hx hb dX12_init_5 (by decide) ?_
  refine r_newa hx hb hts hKK hI (kd := 42) (N := 6) (t0 := 0) (a0 := (6, .inl (fun _ => 0))) (ty := .int) rfl rfl (gtb_t 100 (by decide +kernel) (by decide +kernel)) (fun C h => by cases h) rfl (fun _ => rfl) (by decide) (by decide +kernel) (by decide) (kc92 hk0) (Nat.le_of_ble_eq_true rfl) (Nat.le_of_ble_eq_true rfl) dX12_init_7 (fun H hI => ?_)
  refine pt_X12_7 hx hb hts hown hKK hin hI e0 (by decide) (kc91 hk0) (x := some 92) (fun _ => TF0 _ _) dX12_init_9 (fun σ H locs hI ew ho => ?_)
  have e0 := ew
  have e26 := (ho 26 (nn rfl)).trans e26
  have fr := frs fr ho (by decide)
  refine lv_aload_n hx hb dX12_init_12 rfl (lv_at hl 0 rfl) ?_
  refine lv_bipush (v := 6) hx hb dX12_init_13 (by decide) ?_
  refine r_newa hx hb hts hKK hI (kd := 42) (N := 6) (t0 := 0) (a0 := (6, .inl (fun _ => 0))) (ty := .int) rfl rfl (gtb_t 100 (by decide +kernel) (by decide +kernel)) (fun C h => by cases h) rfl (fun _ => rfl) (by decide) (by decide +kernel) (by decide) (kc93 hk0) (Nat.le_of_ble_eq_true rfl) (Nat.le_of_ble_eq_true rfl) dX12_init_15 (fun H hI => ?_)
  refine pt_X12_13 hx hb hts hown hKK hin hI e0 (by decide) (kc91 hk0) (x := some 93) (fun _ => TF0 _ _) dX12_init_17 (fun σ H locs hI ew ho => ?_)
  have e0 := ew
  have e26 := (ho 26 (nn rfl)).trans e26
  have fr := frs fr ho (by decide)
  refine lv_aload_n hx hb dX12_init_20 rfl (lv_at hl 0 rfl) ?_
  refine lv_bipush (v := 16) hx hb dX12_init_21 (by decide) ?_
  refine r_newa hx hb hts hKK hI (kd := 43) (N := 16) (t0 := 0) (a0 := (16, .inl (fun _ => 0))) (ty := .int) rfl rfl (gtb_t 100 (by decide +kernel) (by decide +kernel)) (fun C h => by cases h) rfl (fun _ => rfl) (by decide) (by decide +kernel) (by decide) (kc94 hk0) (Nat.le_of_ble_eq_true rfl) (Nat.le_of_ble_eq_true rfl) dX12_init_23 (fun H hI => ?_)
  refine pt_X12_16 hx hb hts hown hKK hin hI e0 (by decide) (kc91 hk0) (x := some 94) (fun _ => TF0 _ _) dX12_init_25 (fun σ H locs hI ew ho => ?_)
  have e0 := ew
  have e26 := (ho 26 (nn rfl)).trans e26
  have fr := frs fr ho (by decide)
  refine lv_aload_n hx hb dX12_init_28 rfl (lv_at hl 0 rfl) ?_
  refine lv_bipush (v := 16) hx hb dX12_init_29 (by decide) ?_
  refine r_newa hx hb hts hKK hI (kd := 43) (N := 16) (t0 := 0) (a0 := (16, .inl (fun _ => 0))) (ty := .int) rfl rfl (gtb_t 100 (by decide +kernel) (by decide +kernel)) (fun C h => by cases h) rfl (fun _ => rfl) (by decide) (by decide +kernel) (by decide) (kc95 hk0) (Nat.le_of_ble_eq_true rfl) (Nat.le_of_ble_eq_true rfl) dX12_init_31 (fun H hI => ?_)
  refine pt_X12_19 hx hb hts hown hKK hin hI e0 (by decide) (kc91 hk0) (x := some 95) (fun _ => TF0 _ _) dX12_init_33 (fun σ H locs hI ew ho => ?_)
  have e0 := ew
  have e26 := (ho 26 (nn rfl)).trans e26
  have fr := frs fr ho (by decide)
  refine lv_aload_n hx hb dX12_init_36 rfl (lv_at hl 0 rfl) ?_
  refine lv_bipush (v := 16) hx hb dX12_init_37 (by decide) ?_
  refine r_newa hx hb hts hKK hI (kd := 43) (N := 16) (t0 := 0) (a0 := (16, .inl (fun _ => 0))) (ty := .int) rfl rfl (gtb_t 100 (by decide +kernel) (by decide +kernel)) (fun C h => by cases h) rfl (fun _ => rfl) (by decide) (by decide +kernel) (by decide) (kc96 hk0) (Nat.le_of_ble_eq_true rfl) (Nat.le_of_ble_eq_true rfl) dX12_init_39 (fun H hI => ?_)
  refine pt_X12_22 hx hb hts hown hKK hin hI e0 (by decide) (kc91 hk0) (x := some 96) (fun _ => TF0 _ _) dX12_init_41 (fun σ H locs hI ew ho => ?_)
  have e0 := ew
  have e26 := (ho 26 (nn rfl)).trans e26
  have fr := frs fr ho (by decide)
  refine lv_aload_n hx hb dX12_init_44 rfl (lv_at hl 0 rfl) ?_
  refine lv_bipush (v := 16) hx hb dX12_init_45 (by decide) ?_
  refine r_newa hx hb hts hKK hI (kd := 43) (N := 16) (t0 := 0) (a0 := (16, .inl (fun _ => 0))) (ty := .int) rfl rfl (gtb_t 100 (by decide +kernel) (by decide +kernel)) (fun C h => by cases h) rfl (fun _ => rfl) (by decide) (by decide +kernel) (by decide) (kc97 hk0) (Nat.le_of_ble_eq_true rfl) (Nat.le_of_ble_eq_true rfl) dX12_init_47 (fun H hI => ?_)
  refine pt_X12_25 hx hb hts hown hKK hin hI e0 (by decide) (kc91 hk0) (x := some 97) (fun _ => TF0 _ _) dX12_init_49 (fun σ H locs hI ew ho => ?_)
  have e0 := ew
  have e26 := (ho 26 (nn rfl)).trans e26
  have fr := frs fr ho (by decide)
  refine lv_aload_n hx hb dX12_init_52 rfl (lv_at hl 0 rfl) ?_
  refine lv_bipush (v := 16) hx hb dX12_init_53 (by decide) ?_
  refine r_newa hx hb hts hKK hI (kd := 43) (N := 16) (t0 := 0) (a0 := (16, .inl (fun _ => 0))) (ty := .int) rfl rfl (gtb_t 100 (by decide +kernel) (by decide +kernel)) (fun C h => by cases h) rfl (fun _ => rfl) (by decide) (by decide +kernel) (by decide) (kc98 hk0) (Nat.le_of_ble_eq_true rfl) (Nat.le_of_ble_eq_true rfl) dX12_init_55 (fun H hI => ?_)
  refine pt_X12_28 hx hb hts hown hKK hin hI e0 (by decide) (kc91 hk0) (x := some 98) (fun _ => TF0 _ _) dX12_init_57 (fun σ H locs hI ew ho => ?_)
  have e0 := ew
  have e26 := (ho 26 (nn rfl)).trans e26
  have fr := frs fr ho (by decide)
  refine lv_aload_n hx hb dX12_init_60 rfl (lv_at hl 0 rfl) ?_
  refine lv_bipush (v := 40) hx hb dX12_init_61 (by decide) ?_
  refine r_newa hx hb hts hKK hI (kd := 44) (N := 40) (t0 := 0) (a0 := (40, .inl (fun _ => 0))) (ty := .int) rfl rfl (gtb_t 100 (by decide +kernel) (by decide +kernel)) (fun C h => by cases h) rfl (fun _ => rfl) (by decide) (by decide +kernel) (by decide) (kc99 hk0) (Nat.le_of_ble_eq_true rfl) (Nat.le_of_ble_eq_true rfl) dX12_init_63 (fun H hI => ?_)
  refine pt_X12_31 hx hb hts hown hKK hin hI e0 (by decide) (kc91 hk0) (x := some 99) (fun _ => TF0 _ _) dX12_init_65 (fun σ H locs hI ew ho => ?_)
  have e0 := ew
  have e26 := (ho 26 (nn rfl)).trans e26
  have fr := frs fr ho (by decide)
  refine lv_aload_n hx hb dX12_init_68 rfl (lv_at hl 0 rfl) ?_
  refine lv_bipush (v := 40) hx hb dX12_init_69 (by decide) ?_
  refine r_newa hx hb hts hKK hI (kd := 44) (N := 40) (t0 := 0) (a0 := (40, .inl (fun _ => 0))) (ty := .int) rfl rfl (gtb_t 100 (by decide +kernel) (by decide +kernel)) (fun C h => by cases h) rfl (fun _ => rfl) (by decide) (by decide +kernel) (by decide) (kc100 hk0) (Nat.le_of_ble_eq_true rfl) (Nat.le_of_ble_eq_true rfl) dX12_init_71 (fun H hI => ?_)
  refine pt_X12_34 hx hb hts hown hKK hin hI e0 (by decide) (kc91 hk0) (x := some 100) (fun _ => TF0 _ _) dX12_init_73 (fun σ H locs hI ew ho => ?_)
  have e0 := ew
  have e26 := (ho 26 (nn rfl)).trans e26
  have fr := frs fr ho (by decide)
  refine lv_aload_n hx hb dX12_init_76 rfl (lv_at hl 0 rfl) ?_
  refine lv_bipush (v := 40) hx hb dX12_init_77 (by decide) ?_
  refine r_newa hx hb hts hKK hI (kd := 44) (N := 40) (t0 := 0) (a0 := (40, .inl (fun _ => 0))) (ty := .int) rfl rfl (gtb_t 100 (by decide +kernel) (by decide +kernel)) (fun C h => by cases h) rfl (fun _ => rfl) (by decide) (by decide +kernel) (by decide) (kc101 hk0) (Nat.le_of_ble_eq_true rfl) (Nat.le_of_ble_eq_true rfl) dX12_init_79 (fun H hI => ?_)
  refine pt_X12_37 hx hb hts hown hKK hin hI e0 (by decide) (kc91 hk0) (x := some 101) (fun _ => TF0 _ _) dX12_init_81 (fun σ H locs hI ew ho => ?_)
  have e0 := ew
  have e26 := (ho 26 (nn rfl)).trans e26
  have fr := frs fr ho (by decide)
  refine lv_aload_n hx hb dX12_init_84 rfl (lv_at hl 0 rfl) ?_
  refine lv_bipush (v := 40) hx hb dX12_init_85 (by decide) ?_
  refine r_newa hx hb hts hKK hI (kd := 44) (N := 40) (t0 := 0) (a0 := (40, .inl (fun _ => 0))) (ty := .int) rfl rfl (gtb_t 100 (by decide +kernel) (by decide +kernel)) (fun C h => by cases h) rfl (fun _ => rfl) (by decide) (by decide +kernel) (by decide) (kc102 hk0) (Nat.le_of_ble_eq_true rfl) (Nat.le_of_ble_eq_true rfl) dX12_init_87 (fun H hI => ?_)
  refine pt_X12_40 hx hb hts hown hKK hin hI e0 (by decide) (kc91 hk0) (x := some 102) (fun _ => TF0 _ _) dX12_init_89 (fun σ H locs hI ew ho => ?_)
  have e0 := ew
  have e26 := (ho 26 (nn rfl)).trans e26
  have fr := frs fr ho (by decide)
  refine lv_aload_n hx hb dX12_init_92 rfl (lv_at hl 0 rfl) ?_
  refine lv_bipush (v := 40) hx hb dX12_init_93 (by decide) ?_
  refine r_newa hx hb hts hKK hI (kd := 44) (N := 40) (t0 := 0) (a0 := (40, .inl (fun _ => 0))) (ty := .int) rfl rfl (gtb_t 100 (by decide +kernel) (by decide +kernel)) (fun C h => by cases h) rfl (fun _ => rfl) (by decide) (by decide +kernel) (by decide) (kc103 hk0) (Nat.le_of_ble_eq_true rfl) (Nat.le_of_ble_eq_true rfl) dX12_init_95 (fun H hI => ?_)
  refine pt_X12_43 hx hb hts hown hKK hin hI e0 (by decide) (kc91 hk0) (x := some 103) (fun _ => TF0 _ _) dX12_init_97 (fun σ H locs hI ew ho => ?_)
  have e0 := ew
  have e26 := (ho 26 (nn rfl)).trans e26
  have fr := frs fr ho (by decide)
  refine lv_aload_n hx hb dX12_init_100 rfl (lv_at hl 0 rfl) ?_
  refine lv_bipush (v := 40) hx hb dX12_init_101 (by decide) ?_
  refine r_newa hx hb hts hKK hI (kd := 44) (N := 40) (t0 := 0) (a0 := (40, .inl (fun _ => 0))) (ty := .int) rfl rfl (gtb_t 100 (by decide +kernel) (by decide +kernel)) (fun C h => by cases h) rfl (fun _ => rfl) (by decide) (by decide +kernel) (by decide) (kc104 hk0) (Nat.le_of_ble_eq_true rfl) (Nat.le_of_ble_eq_true rfl) dX12_init_103 (fun H hI => ?_)
  refine pt_X12_46 hx hb hts hown hKK hin hI e0 (by decide) (kc91 hk0) (x := some 104) (fun _ => TF0 _ _) dX12_init_105 (fun σ H locs hI ew ho => ?_)
  have e0 := ew
  have e26 := (ho 26 (nn rfl)).trans e26
  have fr := frs fr ho (by decide)
  refine lv_aload_n hx hb dX12_init_108 rfl (lv_at hl 0 rfl) ?_
  refine lv_bipush (v := 8) hx hb dX12_init_109 (by decide) ?_
  refine r_newa hx hb hts hKK hI (kd := 45) (N := 8) (t0 := 0) (a0 := (8, .inl (fun _ => 0))) (ty := .int) rfl rfl (gtb_t 100 (by decide +kernel) (by decide +kernel)) (fun C h => by cases h) rfl (fun _ => rfl) (by decide) (by decide +kernel) (by decide) (kc105 hk0) (Nat.le_of_ble_eq_true rfl) (Nat.le_of_ble_eq_true rfl) dX12_init_111 (fun H hI => ?_)
  refine pt_X12_49 hx hb hts hown hKK hin hI e0 (by decide) (kc91 hk0) (x := some 105) (fun _ => TF0 _ _) dX12_init_113 (fun σ H locs hI ew ho => ?_)
  have e0 := ew
  have e26 := (ho 26 (nn rfl)).trans e26
  have fr := frs fr ho (by decide)
  refine lv_aload_n hx hb dX12_init_116 rfl (lv_at hl 0 rfl) ?_
  refine lv_sipush (v := 240) hx hb dX12_init_117 (by decide) ?_
  refine r_newa hx hb hts hKK hI (kd := 46) (N := 240) (t0 := 3) (a0 := (240, .inl (fun _ => 0))) (ty := .byte) rfl rfl (gtb_t 1531 (by decide +kernel) (by decide +kernel)) (fun C h => by cases h) rfl (fun _ => rfl) (by decide) (by decide +kernel) (by decide) (kc106 hk0) (Nat.le_of_ble_eq_true rfl) (Nat.le_of_ble_eq_true rfl) dX12_init_120 (fun H hI => ?_)
  refine pt_X12_52 hx hb hts hown hKK hin hI e0 (by decide) (kc91 hk0) (x := some 106) (fun _ => TF0 _ _) dX12_init_122 (fun σ H locs hI ew ho => ?_)
  have e0 := ew
  have e26 := (ho 26 (nn rfl)).trans e26
  have fr := frs fr ho (by decide)
  refine lv_aload_n hx hb dX12_init_125 rfl (lv_at hl 0 rfl) ?_
  refine lv_sipush (v := 420) hx hb dX12_init_126 (by decide) ?_
  refine r_newa hx hb hts hKK hI (kd := 47) (N := 420) (t0 := 0) (a0 := (420, .inl (fun _ => 0))) (ty := .int) rfl rfl (gtb_t 100 (by decide +kernel) (by decide +kernel)) (fun C h => by cases h) rfl (fun _ => rfl) (by decide) (by decide +kernel) (by decide) (kc107 hk0) (Nat.le_of_ble_eq_true rfl) (Nat.le_of_ble_eq_true rfl) dX12_init_129 (fun H hI => ?_)
  refine pt_X12_56 hx hb hts hown hKK hin hI e0 (by decide) (kc91 hk0) (x := some 107) (fun _ => TF0 _ _) dX12_init_131 (fun σ H locs hI ew ho => ?_)
  have e0 := ew
  have e26 := (ho 26 (nn rfl)).trans e26
  have fr := frs fr ho (by decide)
  refine lv_aload_n hx hb dX12_init_134 rfl (lv_at hl 0 rfl) ?_
  refine lv_sipush (v := 420) hx hb dX12_init_135 (by decide) ?_
  refine r_newa hx hb hts hKK hI (kd := 47) (N := 420) (t0 := 0) (a0 := (420, .inl (fun _ => 0))) (ty := .int) rfl rfl (gtb_t 100 (by decide +kernel) (by decide +kernel)) (fun C h => by cases h) rfl (fun _ => rfl) (by decide) (by decide +kernel) (by decide) (kc108 hk0) (Nat.le_of_ble_eq_true rfl) (Nat.le_of_ble_eq_true rfl) dX12_init_138 (fun H hI => ?_)
  refine pt_X12_59 hx hb hts hown hKK hin hI e0 (by decide) (kc91 hk0) (x := some 108) (fun _ => TF0 _ _) dX12_init_140 (fun σ H locs hI ew ho => ?_)
  have e0 := ew
  have e26 := (ho 26 (nn rfl)).trans e26
  have fr := frs fr ho (by decide)
  refine lv_aload_n hx hb dX12_init_143 rfl (lv_at hl 0 rfl) ?_
  refine lv_sipush (v := 420) hx hb dX12_init_144 (by decide) ?_
  refine r_newa hx hb hts hKK hI (kd := 47) (N := 420) (t0 := 0) (a0 := (420, .inl (fun _ => 0))) (ty := .int) rfl rfl (gtb_t 100 (by decide +kernel) (by decide +kernel)) (fun C h => by cases h) rfl (fun _ => rfl) (by decide) (by decide +kernel) (by decide) (kc109 hk0) (Nat.le_of_ble_eq_true rfl) (Nat.le_of_ble_eq_true rfl) dX12_init_147 (fun H hI => ?_)
  refine pt_X12_62 hx hb hts hown hKK hin hI e0 (by decide) (kc91 hk0) (x := some 109) (fun _ => TF0 _ _) dX12_init_149 (fun σ H locs hI ew ho => ?_)
  have e0 := ew
  have e26 := (ho 26 (nn rfl)).trans e26
  have fr := frs fr ho (by decide)
  refine lv_aload_n hx hb dX12_init_152 rfl (lv_at hl 0 rfl) ?_
  refine lv_sipush (v := 420) hx hb dX12_init_153 (by decide) ?_
  refine r_newa hx hb hts hKK hI (kd := 47) (N := 420) (t0 := 0) (a0 := (420, .inl (fun _ => 0))) (ty := .int) rfl rfl (gtb_t 100 (by decide +kernel) (by decide +kernel)) (fun C h => by cases h) rfl (fun _ => rfl) (by decide) (by decide +kernel) (by decide) (kc110 hk0) (Nat.le_of_ble_eq_true rfl) (Nat.le_of_ble_eq_true rfl) dX12_init_156 (fun H hI => ?_)
  refine pt_X12_65 hx hb hts hown hKK hin hI e0 (by decide) (kc91 hk0) (x := some 110) (fun _ => TF0 _ _) dX12_init_158 (fun σ H locs hI ew ho => ?_)
  have e0 := ew
  have e26 := (ho 26 (nn rfl)).trans e26
  have fr := frs fr ho (by decide)
  refine lv_aload_n hx hb dX12_init_161 rfl (lv_at hl 0 rfl) ?_
  refine lv_sipush (v := 420) hx hb dX12_init_162 (by decide) ?_
  refine r_newa hx hb hts hKK hI (kd := 48) (N := 420) (t0 := 0) (a0 := (420, .inl (fun _ => 0))) (ty := .int) rfl rfl (gtb_t 100 (by decide +kernel) (by decide +kernel)) (fun C h => by cases h) rfl (fun _ => rfl) (by decide) (by decide +kernel) (by decide) (kc111 hk0) (Nat.le_of_ble_eq_true rfl) (Nat.le_of_ble_eq_true rfl) dX12_init_165 (fun H hI => ?_)
  refine pt_X12_68 hx hb hts hown hKK hin hI e0 (by decide) (kc91 hk0) (x := some 111) (fun _ => TF0 _ _) dX12_init_167 (fun σ H locs hI ew ho => ?_)
  have e0 := ew
  have e26 := (ho 26 (nn rfl)).trans e26
  have fr := frs fr ho (by decide)
  refine lv_aload_n hx hb dX12_init_170 rfl (lv_at hl 0 rfl) ?_
  refine lv_sipush (v := 420) hx hb dX12_init_171 (by decide) ?_
  refine r_newa hx hb hts hKK hI (kd := 48) (N := 420) (t0 := 0) (a0 := (420, .inl (fun _ => 0))) (ty := .int) rfl rfl (gtb_t 100 (by decide +kernel) (by decide +kernel)) (fun C h => by cases h) rfl (fun _ => rfl) (by decide) (by decide +kernel) (by decide) (kc112 hk0) (Nat.le_of_ble_eq_true rfl) (Nat.le_of_ble_eq_true rfl) dX12_init_174 (fun H hI => ?_)
  refine pt_X12_71 hx hb hts hown hKK hin hI e0 (by decide) (kc91 hk0) (x := some 112) (fun _ => TF0 _ _) dX12_init_176 (fun σ H locs hI ew ho => ?_)
  have e0 := ew
  have e26 := (ho 26 (nn rfl)).trans e26
  have fr := frs fr ho (by decide)
  refine lv_aload_n hx hb dX12_init_179 rfl (lv_at hl 0 rfl) ?_
  refine lv_sipush (v := 420) hx hb dX12_init_180 (by decide) ?_
  refine r_newa hx hb hts hKK hI (kd := 48) (N := 420) (t0 := 0) (a0 := (420, .inl (fun _ => 0))) (ty := .int) rfl rfl (gtb_t 100 (by decide +kernel) (by decide +kernel)) (fun C h => by cases h) rfl (fun _ => rfl) (by decide) (by decide +kernel) (by decide) (kc113 hk0) (Nat.le_of_ble_eq_true rfl) (Nat.le_of_ble_eq_true rfl) dX12_init_183 (fun H hI => ?_)
  refine pt_X12_74 hx hb hts hown hKK hin hI e0 (by decide) (kc91 hk0) (x := some 113) (fun _ => TF0 _ _) dX12_init_185 (fun σ H locs hI ew ho => ?_)
  have e0 := ew
  have e26 := (ho 26 (nn rfl)).trans e26
  have fr := frs fr ho (by decide)
  refine lv_aload_n hx hb dX12_init_188 rfl (lv_at hl 0 rfl) ?_
  refine lv_sipush (v := 420) hx hb dX12_init_189 (by decide) ?_
  refine r_newa hx hb hts hKK hI (kd := 48) (N := 420) (t0 := 0) (a0 := (420, .inl (fun _ => 0))) (ty := .int) rfl rfl (gtb_t 100 (by decide +kernel) (by decide +kernel)) (fun C h => by cases h) rfl (fun _ => rfl) (by decide) (by decide +kernel) (by decide) (kc114 hk0) (Nat.le_of_ble_eq_true rfl) (Nat.le_of_ble_eq_true rfl) dX12_init_192 (fun H hI => ?_)
  refine pt_X12_77 hx hb hts hown hKK hin hI e0 (by decide) (kc91 hk0) (x := some 114) (fun _ => TF0 _ _) dX12_init_194 (fun σ H locs hI ew ho => ?_)
  have e0 := ew
  have e26 := (ho 26 (nn rfl)).trans e26
  have fr := frs fr ho (by decide)
  refine lv_aload_n hx hb dX12_init_197 rfl (lv_at hl 0 rfl) ?_
  refine lv_bipush (v := 12) hx hb dX12_init_198 (by decide) ?_
  refine r_newa hx hb hts hKK hI (kd := 49) (N := 12) (t0 := 0) (a0 := (12, .inl (fun _ => 0))) (ty := .int) rfl rfl (gtb_t 100 (by decide +kernel) (by decide +kernel)) (fun C h => by cases h) rfl (fun _ => rfl) (by decide) (by decide +kernel) (by decide) (kc115 hk0) (Nat.le_of_ble_eq_true rfl) (Nat.le_of_ble_eq_true rfl) dX12_init_200 (fun H hI => ?_)
  refine pt_X12_80 hx hb hts hown hKK hin hI e0 (by decide) (kc91 hk0) (x := some 115) (fun _ => TF0 _ _) dX12_init_202 (fun σ H locs hI ew ho => ?_)
  have e0 := ew
  have e26 := (ho 26 (nn rfl)).trans e26
  have fr := frs fr ho (by decide)
  refine lv_aload_n hx hb dX12_init_205 rfl (lv_at hl 0 rfl) ?_
  refine lv_bipush (v := 12) hx hb dX12_init_206 (by decide) ?_
  refine r_newa hx hb hts hKK hI (kd := 49) (N := 12) (t0 := 0) (a0 := (12, .inl (fun _ => 0))) (ty := .int) rfl rfl (gtb_t 100 (by decide +kernel) (by decide +kernel)) (fun C h => by cases h) rfl (fun _ => rfl) (by decide) (by decide +kernel) (by decide) (kc116 hk0) (Nat.le_of_ble_eq_true rfl) (Nat.le_of_ble_eq_true rfl) dX12_init_208 (fun H hI => ?_)
  refine pt_X12_83 hx hb hts hown hKK hin hI e0 (by decide) (kc91 hk0) (x := some 116) (fun _ => TF0 _ _) dX12_init_210 (fun σ H locs hI ew ho => ?_)
  have e0 := ew
  have e26 := (ho 26 (nn rfl)).trans e26
  have fr := frs fr ho (by decide)
  refine lv_aload_n hx hb dX12_init_213 rfl (lv_at hl 0 rfl) ?_
  refine lv_bipush (v := 12) hx hb dX12_init_214 (by decide) ?_
  refine r_newa hx hb hts hKK hI (kd := 50) (N := 12) (t0 := 0) (a0 := (12, .inl (fun _ => 0))) (ty := .int) rfl rfl (gtb_t 100 (by decide +kernel) (by decide +kernel)) (fun C h => by cases h) rfl (fun _ => rfl) (by decide) (by decide +kernel) (by decide) (kc117 hk0) (Nat.le_of_ble_eq_true rfl) (Nat.le_of_ble_eq_true rfl) dX12_init_216 (fun H hI => ?_)
  refine pt_X12_86 hx hb hts hown hKK hin hI e0 (by decide) (kc91 hk0) (x := some 117) (fun _ => TF0 _ _) dX12_init_218 (fun σ H locs hI ew ho => ?_)
  have e0 := ew
  have e26 := (ho 26 (nn rfl)).trans e26
  have fr := frs fr ho (by decide)
  refine lv_aload_n hx hb dX12_init_221 rfl (lv_at hl 0 rfl) ?_
  refine lv_bipush (v := 12) hx hb dX12_init_222 (by decide) ?_
  refine r_newa hx hb hts hKK hI (kd := 50) (N := 12) (t0 := 0) (a0 := (12, .inl (fun _ => 0))) (ty := .int) rfl rfl (gtb_t 100 (by decide +kernel) (by decide +kernel)) (fun C h => by cases h) rfl (fun _ => rfl) (by decide) (by decide +kernel) (by decide) (kc118 hk0) (Nat.le_of_ble_eq_true rfl) (Nat.le_of_ble_eq_true rfl) dX12_init_224 (fun H hI => ?_)
  refine pt_X12_89 hx hb hts hown hKK hin hI e0 (by decide) (kc91 hk0) (x := some 118) (fun _ => TF0 _ _) dX12_init_226 (fun σ H locs hI ew ho => ?_)
  have e0 := ew
  have e26 := (ho 26 (nn rfl)).trans e26
  have fr := frs fr ho (by decide)
  refine lv_aload_n hx hb dX12_init_229 rfl (lv_at hl 0 rfl) ?_
  refine lv_sipush (v := 220) hx hb dX12_init_230 (by decide) ?_
  refine r_newa hx hb hts hKK hI (kd := 51) (N := 220) (t0 := 0) (a0 := (220, .inl (fun _ => 0))) (ty := .int) rfl rfl (gtb_t 100 (by decide +kernel) (by decide +kernel)) (fun C h => by cases h) rfl (fun _ => rfl) (by decide) (by decide +kernel) (by decide) (kc119 hk0) (Nat.le_of_ble_eq_true rfl) (Nat.le_of_ble_eq_true rfl) dX12_init_233 (fun H hI => ?_)
  refine pt_X12_92 hx hb hts hown hKK hin hI e0 (by decide) (kc91 hk0) (x := some 119) (fun _ => TF0 _ _) dX12_init_235 (fun σ H locs hI ew ho => ?_)
  have e0 := ew
  have e26 := (ho 26 (nn rfl)).trans e26
  have fr := frs fr ho (by decide)
  refine lv_aload_n hx hb dX12_init_238 rfl (lv_at hl 0 rfl) ?_
  refine lv_bipush (v := 8) hx hb dX12_init_239 (by decide) ?_
  refine r_newa hx hb hts hKK hI (kd := 52) (N := 8) (t0 := 0) (a0 := (8, .inl (fun _ => 0))) (ty := .int) rfl rfl (gtb_t 100 (by decide +kernel) (by decide +kernel)) (fun C h => by cases h) rfl (fun _ => rfl) (by decide) (by decide +kernel) (by decide) (kc120 hk0) (Nat.le_of_ble_eq_true rfl) (Nat.le_of_ble_eq_true rfl) dX12_init_241 (fun H hI => ?_)
  refine pt_X12_95 hx hb hts hown hKK hin hI e0 (by decide) (kc91 hk0) (x := some 120) (fun _ => TF0 _ _) dX12_init_243 (fun σ H locs hI ew ho => ?_)
  have e0 := ew
  have e26 := (ho 26 (nn rfl)).trans e26
  have fr := frs fr ho (by decide)
  refine lv_aload_n hx hb dX12_init_246 rfl (lv_at hl 0 rfl) ?_
  refine lv_bipush (v := 8) hx hb dX12_init_247 (by decide) ?_
  refine r_newa hx hb hts hKK hI (kd := 52) (N := 8) (t0 := 0) (a0 := (8, .inl (fun _ => 0))) (ty := .int) rfl rfl (gtb_t 100 (by decide +kernel) (by decide +kernel)) (fun C h => by cases h) rfl (fun _ => rfl) (by decide) (by decide +kernel) (by decide) (kc121 hk0) (Nat.le_of_ble_eq_true rfl) (Nat.le_of_ble_eq_true rfl) dX12_init_249 (fun H hI => ?_)
  refine pt_X12_98 hx hb hts hown hKK hin hI e0 (by decide) (kc91 hk0) (x := some 121) (fun _ => TF0 _ _) dX12_init_251 (fun σ H locs hI ew ho => ?_)
  have e0 := ew
  have e26 := (ho 26 (nn rfl)).trans e26
  have fr := frs fr ho (by decide)
  refine lv_aload_n hx hb dX12_init_254 rfl (lv_at hl 0 rfl) ?_
  refine lv_ldc (v := 202860) hx hb hown (hts _ lk_X12_101) dX12_init_255 ?_
  refine r_newa hx hb hts hKK hI (kd := 53) (N := 202860) (t0 := 1) (a0 := (202860, .inr (.inl (fun _ => 0)))) (ty := .long) rfl rfl (gtb_t 304 (by decide +kernel) (by decide +kernel)) (fun C h => by cases h) rfl (fun _ => rfl) (by decide) (by decide +kernel) (by decide) (kc122 hk0) (Nat.le_of_ble_eq_true rfl) (Nat.le_of_ble_eq_true rfl) dX12_init_257 (fun H hI => ?_)
  refine pt_X12_102 hx hb hts hown hKK hin hI e0 (by decide) (kc91 hk0) (x := some 122) (fun _ => TF0 _ _) dX12_init_259 (fun σ H locs hI ew ho => ?_)
  have e0 := ew
  have e26 := (ho 26 (nn rfl)).trans e26
  have fr := frs fr ho (by decide)
  refine lv_aload_n hx hb dX12_init_262 rfl (lv_at hl 0 rfl) ?_
  refine lv_sipush (v := 160) hx hb dX12_init_263 (by decide) ?_
  refine r_newa hx hb hts hKK hI (kd := 54) (N := 160) (t0 := 3) (a0 := (160, .inl (fun _ => 0))) (ty := .byte) rfl rfl (gtb_t 1531 (by decide +kernel) (by decide +kernel)) (fun C h => by cases h) rfl (fun _ => rfl) (by decide) (by decide +kernel) (by decide) (kc123 hk0) (Nat.le_of_ble_eq_true rfl) (Nat.le_of_ble_eq_true rfl) dX12_init_266 (fun H hI => ?_)
  refine pt_X12_106 hx hb hts hown hKK hin hI e0 (by decide) (kc91 hk0) (x := some 123) (fun _ => TF0 _ _) dX12_init_268 (fun σ H locs hI ew ho => ?_)
  have e0 := ew
  have e26 := (ho 26 (nn rfl)).trans e26
  have fr := frs fr ho (by decide)
  refine lv_aload_n hx hb dX12_init_271 rfl (lv_at hl 0 rfl) ?_
  refine lv_sipush (v := 160) hx hb dX12_init_272 (by decide) ?_
  refine r_newa hx hb hts hKK hI (kd := 55) (N := 160) (t0 := 0) (a0 := (160, .inl (fun _ => 0))) (ty := .int) rfl rfl (gtb_t 100 (by decide +kernel) (by decide +kernel)) (fun C h => by cases h) rfl (fun _ => rfl) (by decide) (by decide +kernel) (by decide) (kc124 hk0) (Nat.le_of_ble_eq_true rfl) (Nat.le_of_ble_eq_true rfl) dX12_init_275 (fun H hI => ?_)
  refine pt_X12_109 hx hb hts hown hKK hin hI e0 (by decide) (kc91 hk0) (x := some 124) (fun _ => TF0 _ _) dX12_init_277 (fun σ H locs hI ew ho => ?_)
  have e0 := ew
  have e26 := (ho 26 (nn rfl)).trans e26
  have fr := frs fr ho (by decide)
  refine lv_aload_n hx hb dX12_init_280 rfl (lv_at hl 0 rfl) ?_
  refine lv_sipush (v := 160) hx hb dX12_init_281 (by decide) ?_
  refine r_newa hx hb hts hKK hI (kd := 55) (N := 160) (t0 := 0) (a0 := (160, .inl (fun _ => 0))) (ty := .int) rfl rfl (gtb_t 100 (by decide +kernel) (by decide +kernel)) (fun C h => by cases h) rfl (fun _ => rfl) (by decide) (by decide +kernel) (by decide) (kc125 hk0) (Nat.le_of_ble_eq_true rfl) (Nat.le_of_ble_eq_true rfl) dX12_init_284 (fun H hI => ?_)
  refine pt_X12_112 hx hb hts hown hKK hin hI e0 (by decide) (kc91 hk0) (x := some 125) (fun _ => TF0 _ _) dX12_init_286 (fun σ H locs hI ew ho => ?_)
  have e0 := ew
  have e26 := (ho 26 (nn rfl)).trans e26
  have fr := frs fr ho (by decide)
  refine lv_aload_n hx hb dX12_init_289 rfl (lv_at hl 0 rfl) ?_
  refine lv_sipush (v := 160) hx hb dX12_init_290 (by decide) ?_
  refine r_newa hx hb hts hKK hI (kd := 55) (N := 160) (t0 := 0) (a0 := (160, .inl (fun _ => 0))) (ty := .int) rfl rfl (gtb_t 100 (by decide +kernel) (by decide +kernel)) (fun C h => by cases h) rfl (fun _ => rfl) (by decide) (by decide +kernel) (by decide) (kc126 hk0) (Nat.le_of_ble_eq_true rfl) (Nat.le_of_ble_eq_true rfl) dX12_init_293 (fun H hI => ?_)
  refine pt_X12_115 hx hb hts hown hKK hin hI e0 (by decide) (kc91 hk0) (x := some 126) (fun _ => TF0 _ _) dX12_init_295 (fun σ H locs hI ew ho => ?_)
  have e0 := ew
  have e26 := (ho 26 (nn rfl)).trans e26
  have fr := frs fr ho (by decide)
  refine lv_aload_n hx hb dX12_init_298 rfl (lv_at hl 0 rfl) ?_
  refine lv_sipush (v := 160) hx hb dX12_init_299 (by decide) ?_
  refine r_newa hx hb hts hKK hI (kd := 55) (N := 160) (t0 := 0) (a0 := (160, .inl (fun _ => 0))) (ty := .int) rfl rfl (gtb_t 100 (by decide +kernel) (by decide +kernel)) (fun C h => by cases h) rfl (fun _ => rfl) (by decide) (by decide +kernel) (by decide) (kc127 hk0) (Nat.le_of_ble_eq_true rfl) (Nat.le_of_ble_eq_true rfl) dX12_init_302 (fun H hI => ?_)
  refine pt_X12_118 hx hb hts hown hKK hin hI e0 (by decide) (kc91 hk0) (x := some 127) (fun _ => TF0 _ _) dX12_init_304 (fun σ H locs hI ew ho => ?_)
  have e0 := ew
  have e26 := (ho 26 (nn rfl)).trans e26
  have fr := frs fr ho (by decide)
  refine lv_aload_n hx hb dX12_init_307 rfl (lv_at hl 0 rfl) ?_
  refine lv_sipush (v := 160) hx hb dX12_init_308 (by decide) ?_
  refine r_newa hx hb hts hKK hI (kd := 56) (N := 160) (t0 := 0) (a0 := (160, .inl (fun _ => 0))) (ty := .int) rfl rfl (gtb_t 100 (by decide +kernel) (by decide +kernel)) (fun C h => by cases h) rfl (fun _ => rfl) (by decide) (by decide +kernel) (by decide) (kc128 hk0) (Nat.le_of_ble_eq_true rfl) (Nat.le_of_ble_eq_true rfl) dX12_init_311 (fun H hI => ?_)
  refine pt_X12_121 hx hb hts hown hKK hin hI e0 (by decide) (kc91 hk0) (x := some 128) (fun _ => TF0 _ _) dX12_init_313 (fun σ H locs hI ew ho => ?_)
  have e0 := ew
  have e26 := (ho 26 (nn rfl)).trans e26
  have fr := frs fr ho (by decide)
  refine lv_aload_n hx hb dX12_init_316 rfl (lv_at hl 0 rfl) ?_
  refine lv_sipush (v := 160) hx hb dX12_init_317 (by decide) ?_
  refine r_newa hx hb hts hKK hI (kd := 56) (N := 160) (t0 := 0) (a0 := (160, .inl (fun _ => 0))) (ty := .int) rfl rfl (gtb_t 100 (by decide +kernel) (by decide +kernel)) (fun C h => by cases h) rfl (fun _ => rfl) (by decide) (by decide +kernel) (by decide) (kc129 hk0) (Nat.le_of_ble_eq_true rfl) (Nat.le_of_ble_eq_true rfl) dX12_init_320 (fun H hI => ?_)
  refine pt_X12_124 hx hb hts hown hKK hin hI e0 (by decide) (kc91 hk0) (x := some 129) (fun _ => TF0 _ _) dX12_init_322 (fun σ H locs hI ew ho => ?_)
  have e0 := ew
  have e26 := (ho 26 (nn rfl)).trans e26
  have fr := frs fr ho (by decide)
  refine lv_aload_n hx hb dX12_init_325 rfl (lv_at hl 0 rfl) ?_
  refine lv_sipush (v := 160) hx hb dX12_init_326 (by decide) ?_
  refine r_newa hx hb hts hKK hI (kd := 56) (N := 160) (t0 := 0) (a0 := (160, .inl (fun _ => 0))) (ty := .int) rfl rfl (gtb_t 100 (by decide +kernel) (by decide +kernel)) (fun C h => by cases h) rfl (fun _ => rfl) (by decide) (by decide +kernel) (by decide) (kc130 hk0) (Nat.le_of_ble_eq_true rfl) (Nat.le_of_ble_eq_true rfl) dX12_init_329 (fun H hI => ?_)
  refine pt_X12_127 hx hb hts hown hKK hin hI e0 (by decide) (kc91 hk0) (x := some 130) (fun _ => TF0 _ _) dX12_init_331 (fun σ H locs hI ew ho => ?_)
  have e0 := ew
  have e26 := (ho 26 (nn rfl)).trans e26
  have fr := frs fr ho (by decide)
  refine lv_aload_n hx hb dX12_init_334 rfl (lv_at hl 0 rfl) ?_
  refine lv_sipush (v := 160) hx hb dX12_init_335 (by decide) ?_
  refine r_newa hx hb hts hKK hI (kd := 56) (N := 160) (t0 := 0) (a0 := (160, .inl (fun _ => 0))) (ty := .int) rfl rfl (gtb_t 100 (by decide +kernel) (by decide +kernel)) (fun C h => by cases h) rfl (fun _ => rfl) (by decide) (by decide +kernel) (by decide) (kc131 hk0) (Nat.le_of_ble_eq_true rfl) (Nat.le_of_ble_eq_true rfl) dX12_init_338 (fun H hI => ?_)
  refine pt_X12_130 hx hb hts hown hKK hin hI e0 (by decide) (kc91 hk0) (x := some 131) (fun _ => TF0 _ _) dX12_init_340 (fun σ H locs hI ew ho => ?_)
  have e0 := ew
  have e26 := (ho 26 (nn rfl)).trans e26
  have fr := frs fr ho (by decide)
  refine lv_aload_n hx hb dX12_init_343 rfl (lv_at hl 0 rfl) ?_
  refine lv_sipush (v := 200) hx hb dX12_init_344 (by decide) ?_
  refine r_newa hx hb hts hKK hI (kd := 57) (N := 200) (t0 := 0) (a0 := (200, .inl (fun _ => 0))) (ty := .int) rfl rfl (gtb_t 100 (by decide +kernel) (by decide +kernel)) (fun C h => by cases h) rfl (fun _ => rfl) (by decide) (by decide +kernel) (by decide) (kc132 hk0) (Nat.le_of_ble_eq_true rfl) (Nat.le_of_ble_eq_true rfl) dX12_init_347 (fun H hI => ?_)
  refine pt_X12_133 hx hb hts hown hKK hin hI e0 (by decide) (kc91 hk0) (x := some 132) (fun _ => TF0 _ _) dX12_init_349 (fun σ H locs hI ew ho => ?_)
  have e0 := ew
  have e26 := (ho 26 (nn rfl)).trans e26
  have fr := frs fr ho (by decide)
  refine lv_aload_n hx hb dX12_init_352 rfl (lv_at hl 0 rfl) ?_
  refine lv_sipush (v := 200) hx hb dX12_init_353 (by decide) ?_
  refine r_newa hx hb hts hKK hI (kd := 57) (N := 200) (t0 := 0) (a0 := (200, .inl (fun _ => 0))) (ty := .int) rfl rfl (gtb_t 100 (by decide +kernel) (by decide +kernel)) (fun C h => by cases h) rfl (fun _ => rfl) (by decide) (by decide +kernel) (by decide) (kc133 hk0) (Nat.le_of_ble_eq_true rfl) (Nat.le_of_ble_eq_true rfl) dX12_init_356 (fun H hI => ?_)
  refine pt_X12_136 hx hb hts hown hKK hin hI e0 (by decide) (kc91 hk0) (x := some 133) (fun _ => TF0 _ _) dX12_init_358 (fun σ H locs hI ew ho => ?_)
  have e0 := ew
  have e26 := (ho 26 (nn rfl)).trans e26
  have fr := frs fr ho (by decide)
  refine lv_aload_n hx hb dX12_init_361 rfl (lv_at hl 0 rfl) ?_
  refine lv_sipush (v := 200) hx hb dX12_init_362 (by decide) ?_
  refine r_newa hx hb hts hKK hI (kd := 57) (N := 200) (t0 := 0) (a0 := (200, .inl (fun _ => 0))) (ty := .int) rfl rfl (gtb_t 100 (by decide +kernel) (by decide +kernel)) (fun C h => by cases h) rfl (fun _ => rfl) (by decide) (by decide +kernel) (by decide) (kc134 hk0) (Nat.le_of_ble_eq_true rfl) (Nat.le_of_ble_eq_true rfl) dX12_init_365 (fun H hI => ?_)
  refine pt_X12_139 hx hb hts hown hKK hin hI e0 (by decide) (kc91 hk0) (x := some 134) (fun _ => TF0 _ _) dX12_init_367 (fun σ H locs hI ew ho => ?_)
  have e0 := ew
  have e26 := (ho 26 (nn rfl)).trans e26
  have fr := frs fr ho (by decide)
  refine lv_aload_n hx hb dX12_init_370 rfl (lv_at hl 0 rfl) ?_
  refine lv_sipush (v := 200) hx hb dX12_init_371 (by decide) ?_
  refine r_newa hx hb hts hKK hI (kd := 57) (N := 200) (t0 := 0) (a0 := (200, .inl (fun _ => 0))) (ty := .int) rfl rfl (gtb_t 100 (by decide +kernel) (by decide +kernel)) (fun C h => by cases h) rfl (fun _ => rfl) (by decide) (by decide +kernel) (by decide) (kc135 hk0) (Nat.le_of_ble_eq_true rfl) (Nat.le_of_ble_eq_true rfl) dX12_init_374 (fun H hI => ?_)
  refine pt_X12_142 hx hb hts hown hKK hin hI e0 (by decide) (kc91 hk0) (x := some 135) (fun _ => TF0 _ _) dX12_init_376 (fun σ H locs hI ew ho => ?_)
  have e0 := ew
  have e26 := (ho 26 (nn rfl)).trans e26
  have fr := frs fr ho (by decide)
  refine lv_aload_n hx hb dX12_init_379 rfl (lv_at hl 0 rfl) ?_
  refine lv_sipush (v := 200) hx hb dX12_init_380 (by decide) ?_
  refine r_newa hx hb hts hKK hI (kd := 57) (N := 200) (t0 := 0) (a0 := (200, .inl (fun _ => 0))) (ty := .int) rfl rfl (gtb_t 100 (by decide +kernel) (by decide +kernel)) (fun C h => by cases h) rfl (fun _ => rfl) (by decide) (by decide +kernel) (by decide) (kc136 hk0) (Nat.le_of_ble_eq_true rfl) (Nat.le_of_ble_eq_true rfl) dX12_init_383 (fun H hI => ?_)
  refine pt_X12_145 hx hb hts hown hKK hin hI e0 (by decide) (kc91 hk0) (x := some 136) (fun _ => TF0 _ _) dX12_init_385 (fun σ H locs hI ew ho => ?_)
  have e0 := ew
  have e26 := (ho 26 (nn rfl)).trans e26
  have fr := frs fr ho (by decide)
  refine lv_aload_n hx hb dX12_init_388 rfl (lv_at hl 0 rfl) ?_
  refine lv_sipush (v := 200) hx hb dX12_init_389 (by decide) ?_
  refine r_newa hx hb hts hKK hI (kd := 57) (N := 200) (t0 := 0) (a0 := (200, .inl (fun _ => 0))) (ty := .int) rfl rfl (gtb_t 100 (by decide +kernel) (by decide +kernel)) (fun C h => by cases h) rfl (fun _ => rfl) (by decide) (by decide +kernel) (by decide) (kc137 hk0) (Nat.le_of_ble_eq_true rfl) (Nat.le_of_ble_eq_true rfl) dX12_init_392 (fun H hI => ?_)
  refine pt_X12_148 hx hb hts hown hKK hin hI e0 (by decide) (kc91 hk0) (x := some 137) (fun _ => TF0 _ _) dX12_init_394 (fun σ H locs hI ew ho => ?_)
  have e0 := ew
  have e26 := (ho 26 (nn rfl)).trans e26
  have fr := frs fr ho (by decide)
  refine lv_aload_n hx hb dX12_init_397 rfl (lv_at hl 0 rfl) ?_
  refine lv_sipush (v := 200) hx hb dX12_init_398 (by decide) ?_
  refine r_newa hx hb hts hKK hI (kd := 57) (N := 200) (t0 := 0) (a0 := (200, .inl (fun _ => 0))) (ty := .int) rfl rfl (gtb_t 100 (by decide +kernel) (by decide +kernel)) (fun C h => by cases h) rfl (fun _ => rfl) (by decide) (by decide +kernel) (by decide) (kc138 hk0) (Nat.le_of_ble_eq_true rfl) (Nat.le_of_ble_eq_true rfl) dX12_init_401 (fun H hI => ?_)
  refine pt_X12_151 hx hb hts hown hKK hin hI e0 (by decide) (kc91 hk0) (x := some 138) (fun _ => TF0 _ _) dX12_init_403 (fun σ H locs hI ew ho => ?_)
  have e0 := ew
  have e26 := (ho 26 (nn rfl)).trans e26
  have fr := frs fr ho (by decide)
  refine lv_aload_n hx hb dX12_init_406 rfl (lv_at hl 0 rfl) ?_
  refine lv_sipush (v := 200) hx hb dX12_init_407 (by decide) ?_
  refine r_newa hx hb hts hKK hI (kd := 57) (N := 200) (t0 := 0) (a0 := (200, .inl (fun _ => 0))) (ty := .int) rfl rfl (gtb_t 100 (by decide +kernel) (by decide +kernel)) (fun C h => by cases h) rfl (fun _ => rfl) (by decide) (by decide +kernel) (by decide) (kc139 hk0) (Nat.le_of_ble_eq_true rfl) (Nat.le_of_ble_eq_true rfl) dX12_init_410 (fun H hI => ?_)
  refine pt_X12_154 hx hb hts hown hKK hin hI e0 (by decide) (kc91 hk0) (x := some 139) (fun _ => TF0 _ _) dX12_init_412 (fun σ H locs hI ew ho => ?_)
  have e0 := ew
  have e26 := (ho 26 (nn rfl)).trans e26
  have fr := frs fr ho (by decide)
  refine lv_aload_n hx hb dX12_init_415 rfl (lv_at hl 0 rfl) ?_
  refine lv_sipush (v := 200) hx hb dX12_init_416 (by decide) ?_
  refine r_newa hx hb hts hKK hI (kd := 57) (N := 200) (t0 := 0) (a0 := (200, .inl (fun _ => 0))) (ty := .int) rfl rfl (gtb_t 100 (by decide +kernel) (by decide +kernel)) (fun C h => by cases h) rfl (fun _ => rfl) (by decide) (by decide +kernel) (by decide) (kc140 hk0) (Nat.le_of_ble_eq_true rfl) (Nat.le_of_ble_eq_true rfl) dX12_init_419 (fun H hI => ?_)
  refine pt_X12_157 hx hb hts hown hKK hin hI e0 (by decide) (kc91 hk0) (x := some 140) (fun _ => TF0 _ _) dX12_init_421 (fun σ H locs hI ew ho => ?_)
  have e0 := ew
  have e26 := (ho 26 (nn rfl)).trans e26
  have fr := frs fr ho (by decide)
  refine lv_aload_n hx hb dX12_init_424 rfl (lv_at hl 0 rfl) ?_
  refine lv_sipush (v := 800) hx hb dX12_init_425 (by decide) ?_
  refine r_newa hx hb hts hKK hI (kd := 58) (N := 800) (t0 := 0) (a0 := (800, .inl (fun _ => 0))) (ty := .int) rfl rfl (gtb_t 100 (by decide +kernel) (by decide +kernel)) (fun C h => by cases h) rfl (fun _ => rfl) (by decide) (by decide +kernel) (by decide) (kc141 hk0) (Nat.le_of_ble_eq_true rfl) (Nat.le_of_ble_eq_true rfl) dX12_init_428 (fun H hI => ?_)
  refine pt_X12_160 hx hb hts hown hKK hin hI e0 (by decide) (kc91 hk0) (x := some 141) (fun _ => TF0 _ _) dX12_init_430 (fun σ H locs hI ew ho => ?_)
  have e0 := ew
  have e26 := (ho 26 (nn rfl)).trans e26
  have fr := frs fr ho (by decide)
  refine lv_aload_n hx hb dX12_init_433 rfl (lv_at hl 0 rfl) ?_
  refine lv_sipush (v := 1200) hx hb dX12_init_434 (by decide) ?_
  refine r_newa hx hb hts hKK hI (kd := 59) (N := 1200) (t0 := 0) (a0 := (1200, .inl (fun _ => 0))) (ty := .int) rfl rfl (gtb_t 100 (by decide +kernel) (by decide +kernel)) (fun C h => by cases h) rfl (fun _ => rfl) (by decide) (by decide +kernel) (by decide) (kc142 hk0) (Nat.le_of_ble_eq_true rfl) (Nat.le_of_ble_eq_true rfl) dX12_init_437 (fun H hI => ?_)
  refine pt_X12_163 hx hb hts hown hKK hin hI e0 (by decide) (kc91 hk0) (x := some 142) (fun _ => TF0 _ _) dX12_init_439 (fun σ H locs hI ew ho => ?_)
  have e0 := ew
  have e26 := (ho 26 (nn rfl)).trans e26
  have fr := frs fr ho (by decide)
  refine lv_aload_n hx hb dX12_init_442 rfl (lv_at hl 0 rfl) ?_
  refine lv_sipush (v := 32000) hx hb dX12_init_443 (by decide) ?_
  refine r_newa hx hb hts hKK hI (kd := 60) (N := 32000) (t0 := 3) (a0 := (32000, .inl (fun _ => 0))) (ty := .byte) rfl rfl (gtb_t 1531 (by decide +kernel) (by decide +kernel)) (fun C h => by cases h) rfl (fun _ => rfl) (by decide) (by decide +kernel) (by decide) (kc143 hk0) (Nat.le_of_ble_eq_true rfl) (Nat.le_of_ble_eq_true rfl) dX12_init_446 (fun H hI => ?_)
  refine pt_X12_166 hx hb hts hown hKK hin hI e0 (by decide) (kc91 hk0) (x := some 143) (fun _ => TF0 _ _) dX12_init_448 (fun σ H locs hI ew ho => ?_)
  have e0 := ew
  have e26 := (ho 26 (nn rfl)).trans e26
  have fr := frs fr ho (by decide)
  refine lv_aload_n hx hb dX12_init_451 rfl (lv_at hl 0 rfl) ?_
  refine lv_sipush (v := 1300) hx hb dX12_init_452 (by decide) ?_
  refine r_newa hx hb hts hKK hI (kd := 61) (N := 1300) (t0 := 0) (a0 := (1300, .inl (fun _ => 0))) (ty := .int) rfl rfl (gtb_t 100 (by decide +kernel) (by decide +kernel)) (fun C h => by cases h) rfl (fun _ => rfl) (by decide) (by decide +kernel) (by decide) (kc144 hk0) (Nat.le_of_ble_eq_true rfl) (Nat.le_of_ble_eq_true rfl) dX12_init_455 (fun H hI => ?_)
  refine pt_X12_169 hx hb hts hown hKK hin hI e0 (by decide) (kc91 hk0) (x := some 144) (fun _ => TF0 _ _) dX12_init_457 (fun σ H locs hI ew ho => ?_)
  have e0 := ew
  have e26 := (ho 26 (nn rfl)).trans e26
  have fr := frs fr ho (by decide)
  refine lv_aload_n hx hb dX12_init_460 rfl (lv_at hl 0 rfl) ?_
  refine lv_sipush (v := 1300) hx hb dX12_init_461 (by decide) ?_
  refine r_newa hx hb hts hKK hI (kd := 61) (N := 1300) (t0 := 0) (a0 := (1300, .inl (fun _ => 0))) (ty := .int) rfl rfl (gtb_t 100 (by decide +kernel) (by decide +kernel)) (fun C h => by cases h) rfl (fun _ => rfl) (by decide) (by decide +kernel) (by decide) (kc145 hk0) (Nat.le_of_ble_eq_true rfl) (Nat.le_of_ble_eq_true rfl) dX12_init_464 (fun H hI => ?_)
  refine pt_X12_172 hx hb hts hown hKK hin hI e0 (by decide) (kc91 hk0) (x := some 145) (fun _ => TF0 _ _) dX12_init_466 (fun σ H locs hI ew ho => ?_)
  have e0 := ew
  have e26 := (ho 26 (nn rfl)).trans e26
  have fr := frs fr ho (by decide)
  refine lv_aload_n hx hb dX12_init_469 rfl (lv_at hl 0 rfl) ?_
  refine lv_sipush (v := 1300) hx hb dX12_init_470 (by decide) ?_
  refine r_newa hx hb hts hKK hI (kd := 62) (N := 1300) (t0 := 4) (a0 := (1300, .inl (fun _ => 0))) (ty := .boolean) rfl rfl (gtb_t 261 (by decide +kernel) (by decide +kernel)) (fun C h => by cases h) rfl (fun _ => rfl) (by decide) (by decide +kernel) (by decide) (kc146 hk0) (Nat.le_of_ble_eq_true rfl) (Nat.le_of_ble_eq_true rfl) dX12_init_473 (fun H hI => ?_)
  refine pt_X12_175 hx hb hts hown hKK hin hI e0 (by decide) (kc91 hk0) (x := some 146) (fun _ => TF0 _ _) dX12_init_475 (fun σ H locs hI ew ho => ?_)
  have e0 := ew
  have e26 := (ho 26 (nn rfl)).trans e26
  have fr := frs fr ho (by decide)
  refine lv_aload_n hx hb dX12_init_478 rfl (lv_at hl 0 rfl) ?_
  refine lv_bipush (v := 32) hx hb dX12_init_479 (by decide) ?_
  refine r_newa hx hb hts hKK hI (kd := 63) (N := 32) (t0 := 0) (a0 := (32, .inl (fun _ => 0))) (ty := .int) rfl rfl (gtb_t 100 (by decide +kernel) (by decide +kernel)) (fun C h => by cases h) rfl (fun _ => rfl) (by decide) (by decide +kernel) (by decide) (kc147 hk0) (Nat.le_of_ble_eq_true rfl) (Nat.le_of_ble_eq_true rfl) dX12_init_481 (fun H hI => ?_)
  refine pt_X12_179 hx hb hts hown hKK hin hI e0 (by decide) (kc91 hk0) (x := some 147) (fun _ => TF0 _ _) dX12_init_483 (fun σ H locs hI ew ho => ?_)
  have e0 := ew
  have e26 := (ho 26 (nn rfl)).trans e26
  have fr := frs fr ho (by decide)
  refine lv_aload_n hx hb dX12_init_486 rfl (lv_at hl 0 rfl) ?_
  refine lv_sipush (v := 128) hx hb dX12_init_487 (by decide) ?_
  refine r_newa hx hb hts hKK hI (kd := 64) (N := 128) (t0 := 0) (a0 := (128, .inl (fun _ => 0))) (ty := .int) rfl rfl (gtb_t 100 (by decide +kernel) (by decide +kernel)) (fun C h => by cases h) rfl (fun _ => rfl) (by decide) (by decide +kernel) (by decide) (kc148 hk0) (Nat.le_of_ble_eq_true rfl) (Nat.le_of_ble_eq_true rfl) dX12_init_490 (fun H hI => ?_)
  refine pt_X12_182 hx hb hts hown hKK hin hI e0 (by decide) (kc91 hk0) (x := some 148) (fun _ => TF0 _ _) dX12_init_492 (fun σ H locs hI ew ho => ?_)
  have e0 := ew
  have e26 := (ho 26 (nn rfl)).trans e26
  have fr := frs fr ho (by decide)
  refine lv_aload_n hx hb dX12_init_495 rfl (lv_at hl 0 rfl) ?_
  refine lv_bipush (v := 6) hx hb dX12_init_496 (by decide) ?_
  refine r_newa hx hb hts hKK hI (kd := 65) (N := 6) (t0 := 0) (a0 := (6, .inl (fun _ => 0))) (ty := .int) rfl rfl (gtb_t 100 (by decide +kernel) (by decide +kernel)) (fun C h => by cases h) rfl (fun _ => rfl) (by decide) (by decide +kernel) (by decide) (kc149 hk0) (Nat.le_of_ble_eq_true rfl) (Nat.le_of_ble_eq_true rfl) dX12_init_498 (fun H hI => ?_)
  refine pt_X12_185 hx hb hts hown hKK hin hI e0 (by decide) (kc91 hk0) (x := some 149) (fun _ => TF0 _ _) dX12_init_500 (fun σ H locs hI ew ho => ?_)
  have e0 := ew
  have e26 := (ho 26 (nn rfl)).trans e26
  have fr := frs fr ho (by decide)
  refine lv_aload_n hx hb dX12_init_503 rfl (lv_at hl 0 rfl) ?_
  refine lv_bipush (v := 6) hx hb dX12_init_504 (by decide) ?_
  refine r_newa hx hb hts hKK hI (kd := 65) (N := 6) (t0 := 0) (a0 := (6, .inl (fun _ => 0))) (ty := .int) rfl rfl (gtb_t 100 (by decide +kernel) (by decide +kernel)) (fun C h => by cases h) rfl (fun _ => rfl) (by decide) (by decide +kernel) (by decide) (kc150 hk0) (Nat.le_of_ble_eq_true rfl) (Nat.le_of_ble_eq_true rfl) dX12_init_506 (fun H hI => ?_)
  refine pt_X12_188 hx hb hts hown hKK hin hI e0 (by decide) (kc91 hk0) (x := some 150) (fun _ => TF0 _ _) dX12_init_508 (fun σ H locs hI ew ho => ?_)
  have e0 := ew
  have e26 := (ho 26 (nn rfl)).trans e26
  have fr := frs fr ho (by decide)
  refine lv_aload_n hx hb dX12_init_511 rfl (lv_at hl 0 rfl) ?_
  refine lv_bipush (v := 6) hx hb dX12_init_512 (by decide) ?_
  refine r_newa hx hb hts hKK hI (kd := 65) (N := 6) (t0 := 0) (a0 := (6, .inl (fun _ => 0))) (ty := .int) rfl rfl (gtb_t 100 (by decide +kernel) (by decide +kernel)) (fun C h => by cases h) rfl (fun _ => rfl) (by decide) (by decide +kernel) (by decide) (kc151 hk0) (Nat.le_of_ble_eq_true rfl) (Nat.le_of_ble_eq_true rfl) dX12_init_514 (fun H hI => ?_)
  refine pt_X12_191 hx hb hts hown hKK hin hI e0 (by decide) (kc91 hk0) (x := some 151) (fun _ => TF0 _ _) dX12_init_516 (fun σ H locs hI ew ho => ?_)
  have e0 := ew
  have e26 := (ho 26 (nn rfl)).trans e26
  have fr := frs fr ho (by decide)
  refine lv_aload_n hx hb dX12_init_519 rfl (lv_at hl 0 rfl) ?_
  refine lv_bipush (v := 6) hx hb dX12_init_520 (by decide) ?_
  refine r_newa hx hb hts hKK hI (kd := 65) (N := 6) (t0 := 0) (a0 := (6, .inl (fun _ => 0))) (ty := .int) rfl rfl (gtb_t 100 (by decide +kernel) (by decide +kernel)) (fun C h => by cases h) rfl (fun _ => rfl) (by decide) (by decide +kernel) (by decide) (kc152 hk0) (Nat.le_of_ble_eq_true rfl) (Nat.le_of_ble_eq_true rfl) dX12_init_522 (fun H hI => ?_)
  refine pt_X12_194 hx hb hts hown hKK hin hI e0 (by decide) (kc91 hk0) (x := some 152) (fun _ => TF0 _ _) dX12_init_524 (fun σ H locs hI ew ho => ?_)
  have e0 := ew
  have e26 := (ho 26 (nn rfl)).trans e26
  have fr := frs fr ho (by decide)
  refine lv_aload_n hx hb dX12_init_527 rfl (lv_at hl 0 rfl) ?_
  refine lv_bipush (v := 6) hx hb dX12_init_528 (by decide) ?_
  refine r_newa hx hb hts hKK hI (kd := 66) (N := 6) (t0 := 0) (a0 := (6, .inl (fun _ => 0))) (ty := .int) rfl rfl (gtb_t 100 (by decide +kernel) (by decide +kernel)) (fun C h => by cases h) rfl (fun _ => rfl) (by decide) (by decide +kernel) (by decide) (kc153 hk0) (Nat.le_of_ble_eq_true rfl) (Nat.le_of_ble_eq_true rfl) dX12_init_530 (fun H hI => ?_)
  refine pt_X12_197 hx hb hts hown hKK hin hI e0 (by decide) (kc91 hk0) (x := some 153) (fun _ => TF0 _ _) dX12_init_532 (fun σ H locs hI ew ho => ?_)
  have e0 := ew
  have e26 := (ho 26 (nn rfl)).trans e26
  have fr := frs fr ho (by decide)
  refine lv_aload_n hx hb dX12_init_535 rfl (lv_at hl 0 rfl) ?_
  refine lv_bipush (v := 6) hx hb dX12_init_536 (by decide) ?_
  refine r_newa hx hb hts hKK hI (kd := 66) (N := 6) (t0 := 0) (a0 := (6, .inl (fun _ => 0))) (ty := .int) rfl rfl (gtb_t 100 (by decide +kernel) (by decide +kernel)) (fun C h => by cases h) rfl (fun _ => rfl) (by decide) (by decide +kernel) (by decide) (kc154 hk0) (Nat.le_of_ble_eq_true rfl) (Nat.le_of_ble_eq_true rfl) dX12_init_538 (fun H hI => ?_)
  refine pt_X12_200 hx hb hts hown hKK hin hI e0 (by decide) (kc91 hk0) (x := some 154) (fun _ => TF0 _ _) dX12_init_540 (fun σ H locs hI ew ho => ?_)
  have e0 := ew
  have e26 := (ho 26 (nn rfl)).trans e26
  have fr := frs fr ho (by decide)
  refine lv_aload_n hx hb dX12_init_543 rfl (lv_at hl 0 rfl) ?_
  refine lv_bipush (v := 6) hx hb dX12_init_544 (by decide) ?_
  refine r_newa hx hb hts hKK hI (kd := 66) (N := 6) (t0 := 0) (a0 := (6, .inl (fun _ => 0))) (ty := .int) rfl rfl (gtb_t 100 (by decide +kernel) (by decide +kernel)) (fun C h => by cases h) rfl (fun _ => rfl) (by decide) (by decide +kernel) (by decide) (kc155 hk0) (Nat.le_of_ble_eq_true rfl) (Nat.le_of_ble_eq_true rfl) dX12_init_546 (fun H hI => ?_)
  refine pt_X12_203 hx hb hts hown hKK hin hI e0 (by decide) (kc91 hk0) (x := some 155) (fun _ => TF0 _ _) dX12_init_548 (fun σ H locs hI ew ho => ?_)
  have e0 := ew
  have e26 := (ho 26 (nn rfl)).trans e26
  have fr := frs fr ho (by decide)
  refine lv_aload_n hx hb dX12_init_551 rfl (lv_at hl 0 rfl) ?_
  refine lv_bipush (v := 6) hx hb dX12_init_552 (by decide) ?_
  refine r_newa hx hb hts hKK hI (kd := 66) (N := 6) (t0 := 0) (a0 := (6, .inl (fun _ => 0))) (ty := .int) rfl rfl (gtb_t 100 (by decide +kernel) (by decide +kernel)) (fun C h => by cases h) rfl (fun _ => rfl) (by decide) (by decide +kernel) (by decide) (kc156 hk0) (Nat.le_of_ble_eq_true rfl) (Nat.le_of_ble_eq_true rfl) dX12_init_554 (fun H hI => ?_)
  refine pt_X12_206 hx hb hts hown hKK hin hI e0 (by decide) (kc91 hk0) (x := some 156) (fun _ => TF0 _ _) dX12_init_556 (fun σ H locs hI ew ho => ?_)
  have e0 := ew
  have e26 := (ho 26 (nn rfl)).trans e26
  have fr := frs fr ho (by decide)
  refine lv_aload_n hx hb dX12_init_559 rfl (lv_at hl 0 rfl) ?_
  refine lv_bipush (v := 6) hx hb dX12_init_560 (by decide) ?_
  refine r_newa hx hb hts hKK hI (kd := 67) (N := 6) (t0 := 1) (a0 := (6, .inr (.inl (fun _ => 0)))) (ty := .long) rfl rfl (gtb_t 304 (by decide +kernel) (by decide +kernel)) (fun C h => by cases h) rfl (fun _ => rfl) (by decide) (by decide +kernel) (by decide) (kc157 hk0) (Nat.le_of_ble_eq_true rfl) (Nat.le_of_ble_eq_true rfl) dX12_init_562 (fun H hI => ?_)
  refine pt_X12_209 hx hb hts hown hKK hin hI e0 (by decide) (kc91 hk0) (x := some 157) (fun _ => TF0 _ _) dX12_init_564 (fun σ H locs hI ew ho => ?_)
  have e0 := ew
  have e26 := (ho 26 (nn rfl)).trans e26
  have fr := frs fr ho (by decide)
  refine lv_aload_n hx hb dX12_init_567 rfl (lv_at hl 0 rfl) ?_
  refine lv_bipush (v := 16) hx hb dX12_init_568 (by decide) ?_
  refine r_newa hx hb hts hKK hI (kd := 68) (N := 16) (t0 := 1) (a0 := (16, .inr (.inl (fun _ => 0)))) (ty := .long) rfl rfl (gtb_t 304 (by decide +kernel) (by decide +kernel)) (fun C h => by cases h) rfl (fun _ => rfl) (by decide) (by decide +kernel) (by decide) (kc158 hk0) (Nat.le_of_ble_eq_true rfl) (Nat.le_of_ble_eq_true rfl) dX12_init_570 (fun H hI => ?_)
  refine pt_X12_212 hx hb hts hown hKK hin hI e0 (by decide) (kc91 hk0) (x := some 158) (fun _ => TF0 _ _) dX12_init_572 (fun σ H locs hI ew ho => ?_)
  have e0 := ew
  have e26 := (ho 26 (nn rfl)).trans e26
  have fr := frs fr ho (by decide)
  refine lv_aload_n hx hb dX12_init_575 rfl (lv_at hl 0 rfl) ?_
  refine lv_bipush (v := 16) hx hb dX12_init_576 (by decide) ?_
  refine r_newa hx hb hts hKK hI (kd := 69) (N := 16) (t0 := 0) (a0 := (16, .inl (fun _ => 0))) (ty := .int) rfl rfl (gtb_t 100 (by decide +kernel) (by decide +kernel)) (fun C h => by cases h) rfl (fun _ => rfl) (by decide) (by decide +kernel) (by decide) (kc159 hk0) (Nat.le_of_ble_eq_true rfl) (Nat.le_of_ble_eq_true rfl) dX12_init_578 (fun H hI => ?_)
  refine pt_X12_215 hx hb hts hown hKK hin hI e0 (by decide) (kc91 hk0) (x := some 159) (fun _ => TF0 _ _) dX12_init_580 (fun σ H locs hI ew ho => ?_)
  have e0 := ew
  have e26 := (ho 26 (nn rfl)).trans e26
  have fr := frs fr ho (by decide)
  refine lv_aload_n hx hb dX12_init_583 rfl (lv_at hl 0 rfl) ?_
  refine lv_bipush (v := 16) hx hb dX12_init_584 (by decide) ?_
  refine r_newa hx hb hts hKK hI (kd := 69) (N := 16) (t0 := 0) (a0 := (16, .inl (fun _ => 0))) (ty := .int) rfl rfl (gtb_t 100 (by decide +kernel) (by decide +kernel)) (fun C h => by cases h) rfl (fun _ => rfl) (by decide) (by decide +kernel) (by decide) (kc160 hk0) (Nat.le_of_ble_eq_true rfl) (Nat.le_of_ble_eq_true rfl) dX12_init_586 (fun H hI => ?_)
  refine pt_X12_218 hx hb hts hown hKK hin hI e0 (by decide) (kc91 hk0) (x := some 160) (fun _ => TF0 _ _) dX12_init_588 (fun σ H locs hI ew ho => ?_)
  have e0 := ew
  have e26 := (ho 26 (nn rfl)).trans e26
  have fr := frs fr ho (by decide)
  refine lv_aload_n hx hb dX12_init_591 rfl (lv_at hl 0 rfl) ?_
  refine lv_bipush (v := 12) hx hb dX12_init_592 (by decide) ?_
  refine r_newa hx hb hts hKK hI (kd := 70) (N := 12) (t0 := 0) (a0 := (12, .inl (fun _ => 0))) (ty := .int) rfl rfl (gtb_t 100 (by decide +kernel) (by decide +kernel)) (fun C h => by cases h) rfl (fun _ => rfl) (by decide) (by decide +kernel) (by decide) (kc161 hk0) (Nat.le_of_ble_eq_true rfl) (Nat.le_of_ble_eq_true rfl) dX12_init_594 (fun H hI => ?_)
  refine pt_X12_221 hx hb hts hown hKK hin hI e0 (by decide) (kc91 hk0) (x := some 161) (fun _ => TF0 _ _) dX12_init_596 (fun σ H locs hI ew ho => ?_)
  have e0 := ew
  have e26 := (ho 26 (nn rfl)).trans e26
  have fr := frs fr ho (by decide)
  refine lv_aload_n hx hb dX12_init_599 rfl (lv_at hl 0 rfl) ?_
  refine lv_bipush (v := 12) hx hb dX12_init_600 (by decide) ?_
  refine r_newa hx hb hts hKK hI (kd := 70) (N := 12) (t0 := 0) (a0 := (12, .inl (fun _ => 0))) (ty := .int) rfl rfl (gtb_t 100 (by decide +kernel) (by decide +kernel)) (fun C h => by cases h) rfl (fun _ => rfl) (by decide) (by decide +kernel) (by decide) (kc162 hk0) (Nat.le_of_ble_eq_true rfl) (Nat.le_of_ble_eq_true rfl) dX12_init_602 (fun H hI => ?_)
  refine pt_X12_224 hx hb hts hown hKK hin hI e0 (by decide) (kc91 hk0) (x := some 162) (fun _ => TF0 _ _) dX12_init_604 (fun σ H locs hI ew ho => ?_)
  have e0 := ew
  have e26 := (ho 26 (nn rfl)).trans e26
  have fr := frs fr ho (by decide)
  refine lv_aload_n hx hb dX12_init_607 rfl (lv_at hl 0 rfl) ?_
  refine lv_bipush (v := 12) hx hb dX12_init_608 (by decide) ?_
  refine r_newa hx hb hts hKK hI (kd := 70) (N := 12) (t0 := 0) (a0 := (12, .inl (fun _ => 0))) (ty := .int) rfl rfl (gtb_t 100 (by decide +kernel) (by decide +kernel)) (fun C h => by cases h) rfl (fun _ => rfl) (by decide) (by decide +kernel) (by decide) (kc163 hk0) (Nat.le_of_ble_eq_true rfl) (Nat.le_of_ble_eq_true rfl) dX12_init_610 (fun H hI => ?_)
  refine pt_X12_227 hx hb hts hown hKK hin hI e0 (by decide) (kc91 hk0) (x := some 163) (fun _ => TF0 _ _) dX12_init_612 (fun σ H locs hI ew ho => ?_)
  have e0 := ew
  have e26 := (ho 26 (nn rfl)).trans e26
  have fr := frs fr ho (by decide)
  refine lv_aload_n hx hb dX12_init_615 rfl (lv_at hl 0 rfl) ?_
  refine lv_bipush (v := 12) hx hb dX12_init_616 (by decide) ?_
  refine r_newa hx hb hts hKK hI (kd := 71) (N := 12) (t0 := 4) (a0 := (12, .inl (fun _ => 0))) (ty := .boolean) rfl rfl (gtb_t 261 (by decide +kernel) (by decide +kernel)) (fun C h => by cases h) rfl (fun _ => rfl) (by decide) (by decide +kernel) (by decide) (kc164 hk0) (Nat.le_of_ble_eq_true rfl) (Nat.le_of_ble_eq_true rfl) dX12_init_618 (fun H hI => ?_)
  refine pt_X12_230 hx hb hts hown hKK hin hI e0 (by decide) (kc91 hk0) (x := some 164) (fun _ => TF0 _ _) dX12_init_620 (fun σ H locs hI ew ho => ?_)
  have e0 := ew
  have e26 := (ho 26 (nn rfl)).trans e26
  have fr := frs fr ho (by decide)
  refine lv_aload_n hx hb dX12_init_623 rfl (lv_at hl 0 rfl) ?_
  refine lv_bipush (v := 100) hx hb dX12_init_624 (by decide) ?_
  refine r_newa hx hb hts hKK hI (kd := 72) (N := 100) (t0 := 0) (a0 := (100, .inl (fun _ => 0))) (ty := .int) rfl rfl (gtb_t 100 (by decide +kernel) (by decide +kernel)) (fun C h => by cases h) rfl (fun _ => rfl) (by decide) (by decide +kernel) (by decide) (kc165 hk0) (Nat.le_of_ble_eq_true rfl) (Nat.le_of_ble_eq_true rfl) dX12_init_626 (fun H hI => ?_)
  refine pt_X12_233 hx hb hts hown hKK hin hI e0 (by decide) (kc91 hk0) (x := some 165) (fun _ => TF0 _ _) dX12_init_628 (fun σ H locs hI ew ho => ?_)
  have e0 := ew
  have e26 := (ho 26 (nn rfl)).trans e26
  have fr := frs fr ho (by decide)
  refine lv_aload_n hx hb dX12_init_631 rfl (lv_at hl 0 rfl) ?_
  refine lv_bipush (v := 100) hx hb dX12_init_632 (by decide) ?_
  refine r_newa hx hb hts hKK hI (kd := 72) (N := 100) (t0 := 0) (a0 := (100, .inl (fun _ => 0))) (ty := .int) rfl rfl (gtb_t 100 (by decide +kernel) (by decide +kernel)) (fun C h => by cases h) rfl (fun _ => rfl) (by decide) (by decide +kernel) (by decide) (kc166 hk0) (Nat.le_of_ble_eq_true rfl) (Nat.le_of_ble_eq_true rfl) dX12_init_634 (fun H hI => ?_)
  refine pt_X12_236 hx hb hts hown hKK hin hI e0 (by decide) (kc91 hk0) (x := some 166) (fun _ => TF0 _ _) dX12_init_636 (fun σ H locs hI ew ho => ?_)
  have e0 := ew
  have e26 := (ho 26 (nn rfl)).trans e26
  have fr := frs fr ho (by decide)
  refine lv_aload_n hx hb dX12_init_639 rfl (lv_at hl 0 rfl) ?_
  refine lv_bipush (v := 100) hx hb dX12_init_640 (by decide) ?_
  refine r_newa hx hb hts hKK hI (kd := 72) (N := 100) (t0 := 0) (a0 := (100, .inl (fun _ => 0))) (ty := .int) rfl rfl (gtb_t 100 (by decide +kernel) (by decide +kernel)) (fun C h => by cases h) rfl (fun _ => rfl) (by decide) (by decide +kernel) (by decide) (kc167 hk0) (Nat.le_of_ble_eq_true rfl) (Nat.le_of_ble_eq_true rfl) dX12_init_642 (fun H hI => ?_)
  refine pt_X12_239 hx hb hts hown hKK hin hI e0 (by decide) (kc91 hk0) (x := some 167) (fun _ => TF0 _ _) dX12_init_644 (fun σ H locs hI ew ho => ?_)
  have e0 := ew
  have e26 := (ho 26 (nn rfl)).trans e26
  have fr := frs fr ho (by decide)
  refine lv_aload_n hx hb dX12_init_647 rfl (lv_at hl 0 rfl) ?_
  refine lv_bipush (v := 16) hx hb dX12_init_648 (by decide) ?_
  refine r_newa hx hb hts hKK hI (kd := 73) (N := 16) (t0 := 0) (a0 := (16, .inl (fun _ => 0))) (ty := .int) rfl rfl (gtb_t 100 (by decide +kernel) (by decide +kernel)) (fun C h => by cases h) rfl (fun _ => rfl) (by decide) (by decide +kernel) (by decide) (kc168 hk0) (Nat.le_of_ble_eq_true rfl) (Nat.le_of_ble_eq_true rfl) dX12_init_650 (fun H hI => ?_)
  refine pt_X12_242 hx hb hts hown hKK hin hI e0 (by decide) (kc91 hk0) (x := some 168) (fun _ => TF0 _ _) dX12_init_652 (fun σ H locs hI ew ho => ?_)
  have e0 := ew
  have e26 := (ho 26 (nn rfl)).trans e26
  have fr := frs fr ho (by decide)
  refine lv_aload_n hx hb dX12_init_655 rfl (lv_at hl 0 rfl) ?_
  refine lv_bipush (v := 16) hx hb dX12_init_656 (by decide) ?_
  refine r_newa hx hb hts hKK hI (kd := 73) (N := 16) (t0 := 0) (a0 := (16, .inl (fun _ => 0))) (ty := .int) rfl rfl (gtb_t 100 (by decide +kernel) (by decide +kernel)) (fun C h => by cases h) rfl (fun _ => rfl) (by decide) (by decide +kernel) (by decide) (kc169 hk0) (Nat.le_of_ble_eq_true rfl) (Nat.le_of_ble_eq_true rfl) dX12_init_658 (fun H hI => ?_)
  refine pt_X12_245 hx hb hts hown hKK hin hI e0 (by decide) (kc91 hk0) (x := some 169) (fun _ => TF0 _ _) dX12_init_660 (fun σ H locs hI ew ho => ?_)
  have e0 := ew
  have e26 := (ho 26 (nn rfl)).trans e26
  have fr := frs fr ho (by decide)
  refine lv_aload_n hx hb dX12_init_663 rfl (lv_at hl 0 rfl) ?_
  refine lv_bipush (v := 6) hx hb dX12_init_664 (by decide) ?_
  refine r_newa hx hb hts hKK hI (kd := 74) (N := 6) (t0 := 0) (a0 := (6, .inl (fun _ => 0))) (ty := .int) rfl rfl (gtb_t 100 (by decide +kernel) (by decide +kernel)) (fun C h => by cases h) rfl (fun _ => rfl) (by decide) (by decide +kernel) (by decide) (kc170 hk0) (Nat.le_of_ble_eq_true rfl) (Nat.le_of_ble_eq_true rfl) dX12_init_666 (fun H hI => ?_)
  refine pt_X12_248 hx hb hts hown hKK hin hI e0 (by decide) (kc91 hk0) (x := some 170) (fun _ => TF0 _ _) dX12_init_668 (fun σ H locs hI ew ho => ?_)
  have e0 := ew
  have e26 := (ho 26 (nn rfl)).trans e26
  have fr := frs fr ho (by decide)
  refine lv_aload_n hx hb dX12_init_671 rfl (lv_at hl 0 rfl) ?_
  refine lv_bipush (v := 6) hx hb dX12_init_672 (by decide) ?_
  refine r_newa hx hb hts hKK hI (kd := 74) (N := 6) (t0 := 0) (a0 := (6, .inl (fun _ => 0))) (ty := .int) rfl rfl (gtb_t 100 (by decide +kernel) (by decide +kernel)) (fun C h => by cases h) rfl (fun _ => rfl) (by decide) (by decide +kernel) (by decide) (kc171 hk0) (Nat.le_of_ble_eq_true rfl) (Nat.le_of_ble_eq_true rfl) dX12_init_674 (fun H hI => ?_)
  refine pt_X12_251 hx hb hts hown hKK hin hI e0 (by decide) (kc91 hk0) (x := some 171) (fun _ => TF0 _ _) dX12_init_676 (fun σ H locs hI ew ho => ?_)
  have e0 := ew
  have e26 := (ho 26 (nn rfl)).trans e26
  have fr := frs fr ho (by decide)
  refine lv_aload_n hx hb dX12_init_679 rfl (lv_at hl 0 rfl) ?_
  refine lv_bipush (v := 16) hx hb dX12_init_680 (by decide) ?_
  refine r_newa hx hb hts hKK hI (kd := 75) (N := 16) (t0 := 4) (a0 := (16, .inl (fun _ => 0))) (ty := .boolean) rfl rfl (gtb_t 261 (by decide +kernel) (by decide +kernel)) (fun C h => by cases h) rfl (fun _ => rfl) (by decide) (by decide +kernel) (by decide) (kc172 hk0) (Nat.le_of_ble_eq_true rfl) (Nat.le_of_ble_eq_true rfl) dX12_init_682 (fun H hI => ?_)
  refine pt_X12_254 hx hb hts hown hKK hin hI e0 (by decide) (kc91 hk0) (x := some 172) (fun _ => TF0 _ _) dX12_init_684 (fun σ H locs hI ew ho => ?_)
  have e0 := ew
  have e26 := (ho 26 (nn rfl)).trans e26
  have fr := frs fr ho (by decide)
  refine lv_aload_n hx hb dX12_init_687 rfl (lv_at hl 0 rfl) ?_
  refine lv_bipush (v := 16) hx hb dX12_init_688 (by decide) ?_
  refine r_newa hx hb hts hKK hI (kd := 76) (N := 16) (t0 := 0) (a0 := (16, .inl (fun _ => 0))) (ty := .int) rfl rfl (gtb_t 100 (by decide +kernel) (by decide +kernel)) (fun C h => by cases h) rfl (fun _ => rfl) (by decide) (by decide +kernel) (by decide) (kc173 hk0) (Nat.le_of_ble_eq_true rfl) (Nat.le_of_ble_eq_true rfl) dX12_init_690 (fun H hI => ?_)
  refine pt_X12_257 hx hb hts hown hKK hin hI e0 (by decide) (kc91 hk0) (x := some 173) (fun _ => TF0 _ _) dX12_init_692 (fun σ H locs hI ew ho => ?_)
  have e0 := ew
  have e26 := (ho 26 (nn rfl)).trans e26
  have fr := frs fr ho (by decide)
  refine lv_aload_n hx hb dX12_init_695 rfl (lv_at hl 0 rfl) ?_
  refine gt_X12_49 hx hb hts hown hKK hI e0 (by decide) (kc91 hk0) dX12_init_696 ?_
  refine topr (t := 105) rfl ?_
  refine lv_iconst (v := 0) hx hb dX12_init_699 (by decide) ?_
  refine lv_bipush (v := 7) hx hb dX12_init_700 (by decide) ?_
  refine sa_45 hx hb hKK hI e26 (by decide) (kc105 hk0) (i := 0) (by unfold vp_in; decide) dX12_init_702 (fun σ H locs hI ew ho => ?_)
  have e26 := ew
  have e0 := (ho 0 (nn rfl)).trans e0
  have fr := frs fr ho (by decide)
  refine lv_aload_n hx hb dX12_init_703 rfl (lv_at hl 0 rfl) ?_
  refine gt_X12_49 hx hb hts hown hKK hI e0 (by decide) (kc91 hk0) dX12_init_704 ?_
  refine topr (t := 105) rfl ?_
  refine lv_iconst (v := 1) hx hb dX12_init_707 (by decide) ?_
  refine lv_iconst (v := 2) hx hb dX12_init_708 (by decide) ?_
  refine sa_45 hx hb hKK hI e26 (by decide) (kc105 hk0) (i := 1) (by unfold vp_in; decide) dX12_init_709 (fun σ H locs hI ew ho => ?_)
  have e26 := ew
  have e0 := (ho 0 (nn rfl)).trans e0
  have fr := frs fr ho (by decide)
  refine lv_aload_n hx hb dX12_init_710 rfl (lv_at hl 0 rfl) ?_
  refine gt_X12_49 hx hb hts hown hKK hI e0 (by decide) (kc91 hk0) dX12_init_711 ?_
  refine topr (t := 105) rfl ?_
  refine lv_iconst (v := 2) hx hb dX12_init_714 (by decide) ?_
  refine lv_iconst (v := 5) hx hb dX12_init_715 (by decide) ?_
  refine sa_45 hx hb hKK hI e26 (by decide) (kc105 hk0) (i := 2) (by unfold vp_in; decide) dX12_init_716 (fun σ H locs hI ew ho => ?_)
  have e26 := ew
  have e0 := (ho 0 (nn rfl)).trans e0
  have fr := frs fr ho (by decide)
  refine lv_aload_n hx hb dX12_init_717 rfl (lv_at hl 0 rfl) ?_
  refine gt_X12_49 hx hb hts hown hKK hI e0 (by decide) (kc91 hk0) dX12_init_718 ?_
  refine topr (t := 105) rfl ?_
  refine lv_iconst (v := 3) hx hb dX12_init_721 (by decide) ?_
  refine lv_iconst (v := 3) hx hb dX12_init_722 (by decide) ?_
  refine sa_45 hx hb hKK hI e26 (by decide) (kc105 hk0) (i := 3) (by unfold vp_in; decide) dX12_init_723 (fun σ H locs hI ew ho => ?_)
  have e26 := ew
  have e0 := (ho 0 (nn rfl)).trans e0
  have fr := frs fr ho (by decide)
  refine lv_aload_n hx hb dX12_init_724 rfl (lv_at hl 0 rfl) ?_
  refine gt_X12_49 hx hb hts hown hKK hI e0 (by decide) (kc91 hk0) dX12_init_725 ?_
  refine topr (t := 105) rfl ?_
  refine lv_iconst (v := 4) hx hb dX12_init_728 (by decide) ?_
  refine lv_bipush (v := 60) hx hb dX12_init_729 (by decide) ?_
  refine sa_45 hx hb hKK hI e26 (by decide) (kc105 hk0) (i := 4) (by unfold vp_in; decide) dX12_init_731 (fun σ H locs hI ew ho => ?_)
  have e26 := ew
  have e0 := (ho 0 (nn rfl)).trans e0
  have fr := frs fr ho (by decide)
  refine lv_aload_n hx hb dX12_init_732 rfl (lv_at hl 0 rfl) ?_
  refine gt_X12_49 hx hb hts hown hKK hI e0 (by decide) (kc91 hk0) dX12_init_733 ?_
  refine topr (t := 105) rfl ?_
  refine lv_iconst (v := 5) hx hb dX12_init_736 (by decide) ?_
  refine lv_bipush (v := 10) hx hb dX12_init_737 (by decide) ?_
  refine sa_45 hx hb hKK hI e26 (by decide) (kc105 hk0) (i := 5) (by unfold vp_in; decide) dX12_init_739 (fun σ H locs hI ew ho => ?_)
  have e26 := ew
  have e0 := (ho 0 (nn rfl)).trans e0
  have fr := frs fr ho (by decide)
  refine lv_aload_n hx hb dX12_init_740 rfl (lv_at hl 0 rfl) ?_
  refine gt_X12_49 hx hb hts hown hKK hI e0 (by decide) (kc91 hk0) dX12_init_741 ?_
  refine topr (t := 105) rfl ?_
  refine lv_bipush (v := 6) hx hb dX12_init_744 (by decide) ?_
  refine lv_bipush (v := 40) hx hb dX12_init_746 (by decide) ?_
  refine sa_45 hx hb hKK hI e26 (by decide) (kc105 hk0) (i := 6) (by unfold vp_in; decide) dX12_init_748 (fun σ H locs hI ew ho => ?_)
  have e26 := ew
  have e0 := (ho 0 (nn rfl)).trans e0
  have fr := frs fr ho (by decide)
  refine lv_aload_n hx hb dX12_init_749 rfl (lv_at hl 0 rfl) ?_
  refine gt_X12_49 hx hb hts hown hKK hI e0 (by decide) (kc91 hk0) dX12_init_750 ?_
  refine topr (t := 105) rfl ?_
  refine lv_bipush (v := 7) hx hb dX12_init_753 (by decide) ?_
  refine lv_sipush (v := 5000) hx hb dX12_init_755 (by decide) ?_
  refine sa_45 hx hb hKK hI e26 (by decide) (kc105 hk0) (i := 7) (by unfold vp_in; decide) dX12_init_758 (fun σ H locs hI ew ho => ?_)
  have e26 := ew
  have e0 := (ho 0 (nn rfl)).trans e0
  have fr := frs fr ho (by decide)
  exact W.vret hx hb hr (fun t ht hW => qc_mk rfl (by rw [ht]; exact ⟨σ, hI.nil, e0, e26, fr⟩)) hI.2.2 dX12_init_759 hlocks
