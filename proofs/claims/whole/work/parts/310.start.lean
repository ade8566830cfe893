abbrev tin (i : Nat) {w : Cond} (h : tables_1[i]? = some w) : w ∈ lw_tbl := List.mem_append_right _ (List.mem_of_getElem? h)
theorem nest_in : ∀ q ∈ nestQ, Cond.methodLinkNest q.1 q.2.1 q.2.2.1 q.2.2.2 ∈ lw_tbl := by
  intro q hq
  simp only [nestQ, List.mem_cons, List.not_mem_nil, or_false] at hq
  rcases hq with rfl | rfl | rfl | rfl | rfl | rfl | rfl | rfl | rfl | rfl | rfl | rfl | rfl | rfl | rfl | rfl | rfl | rfl | rfl
  · exact tin 27 (by decide +kernel)
  · exact tin 103 (by decide +kernel)
  · exact tin 146 (by decide +kernel)
  · exact tin 224 (by decide +kernel)
  · exact tin 264 (by decide +kernel)
  · exact tin 271 (by decide +kernel)
  · exact tin 375 (by decide +kernel)
  · exact tin 380 (by decide +kernel)
  · exact tin 402 (by decide +kernel)
  · exact tin 484 (by decide +kernel)
  · exact tin 624 (by decide +kernel)
  · exact tin 648 (by decide +kernel)
  · exact tin 698 (by decide +kernel)
  · exact tin 699 (by decide +kernel)
  · exact tin 703 (by decide +kernel)
  · exact tin 822 (by decide +kernel)
  · exact tin 976 (by decide +kernel)
  · exact tin 1018 (by decide +kernel)
  · exact tin 1136 (by decide +kernel)
theorem st_arr {args : Array Value} {s : State} {ty : FieldType} (hn : ∀ C, ty ≠ .object C) (h : (Cond.arrayClass ty).before args s = true) : ∃ cA : ClassId, ArrOfT s cA ty ∧ va_RA s cA ty := by
  obtain ⟨cA, kA, comp, h1, h2, h3⟩ := Cond.arrayClass_spec h
  refine ⟨cA, fun n z => ⟨(fun k h => by cases h), kA, h2, comp, h3⟩, ?_⟩
  cases ty with
  | object C => exact absurd rfl (hn C)
  | _ => exact h1
theorem st_arq {args : Array Value} {s : State} {C : String} (h : (Cond.arrayOver (.object C)).before args s = true) : ∃ cA : ClassId, ArrOfT s cA (.object C) ∧ va_RA s cA (.object C) := by
  obtain ⟨comp, c, k, h1, -, h2, h3, h4⟩ := Cond.arrayOver_spec h
  exact ⟨c, fun n z => ⟨(fun k h => by cases h), k, h2, comp, h3⟩, k, comp, h2, h3, h1, h4⟩
theorem st_K {args : Array Value} {s : State} (hts0 : ∀ w ∈ lw_tbl, w.before args s = true) : ∃ (D : va_G) (y : Nat → ClassId), va_K D vwCl (tysL y) s := by
  have hts : ∀ w ∈ gtb, w.before args s = true := fun w hw => hts0 w (List.mem_filter.mp hw).1
  obtain ⟨c0, i0, hK0⟩ := u_known (C := RX0) (T := TX0) (N := 8) (n := 8) hts in_X0 (hts0 (.instantiable RX0 8) (tin 270 (by decide +kernel)))
  obtain ⟨c1, i1, hK1⟩ := u_known (C := RX1) (T := TX1) (N := 13) (n := 13) hts in_X1 (hts0 (.instantiable RX1 13) (tin 326 (by decide +kernel)))
  obtain ⟨c2, i2, hK2⟩ := u_known (C := RX2) (T := TX2) (N := 9) (n := 9) hts in_X2 (hts0 (.instantiable RX2 9) (tin 102 (by decide +kernel)))
  obtain ⟨c3, i3, hK3⟩ := u_known (C := RX3) (T := TX3) (N := 16) (n := 16) hts in_X3 (hts0 (.instantiable RX3 16) (tin 145 (by decide +kernel)))
  obtain ⟨c4, i4, hK4⟩ := u_known (C := RX4) (T := TX4) (N := 12) (n := 12) hts in_X4 (hts0 (.instantiable RX4 12) (tin 731 (by decide +kernel)))
  obtain ⟨c5, i5, hK5⟩ := u_known (C := RX5) (T := TX5) (N := 9) (n := 9) hts in_X5 (hts0 (.instantiable RX5 9) (tin 526 (by decide +kernel)))
  obtain ⟨c6, i6, hK6⟩ := u_known (C := RX6) (T := TX6) (N := 11) (n := 11) hts in_X6 (hts0 (.instantiable RX6 11) (tin 216 (by decide +kernel)))
  obtain ⟨c7, i7, hK7⟩ := u_known (C := RX7) (T := TX7) (N := 19) (n := 19) hts in_X7 (hts0 (.instantiable RX7 19) (tin 26 (by decide +kernel)))
  obtain ⟨c8, i8, hK8⟩ := u_known (C := RX8) (T := TX8) (N := 3) (n := 3) hts in_X8 (hts0 (.instantiable RX8 3) (tin 401 (by decide +kernel)))
  obtain ⟨c9, i9, hK9⟩ := u_known (C := RX9) (T := TX9) (N := 6) (n := 6) hts in_X9 (hts0 (.instantiable RX9 6) (tin 263 (by decide +kernel)))
  obtain ⟨c10, i10, hK10⟩ := u_known (C := RX10) (T := TX10) (N := 6) (n := 6) hts in_X10 (hts0 (.instantiable RX10 6) (tin 374 (by decide +kernel)))
  obtain ⟨c11, i11, hK11⟩ := u_known (C := RX11) (T := TX11) (N := 13) (n := 13) hts in_X11 (hts0 (.instantiable RX11 13) (tin 18 (by decide +kernel)))
  obtain ⟨c12, i12, hK12⟩ := u_known (C := RX12) (T := TX12) (N := 114) (n := 114) hts in_X12 (hts0 (.instantiable RX12 114) (tin 1182 (by decide +kernel)))
  obtain ⟨y0, hy0⟩ := st_arr (ty := .int) (fun C h => by cases h) (hts0 _ (tin 100 (by decide +kernel)))
  obtain ⟨y1, hy1⟩ := st_arr (ty := .long) (fun C h => by cases h) (hts0 _ (tin 304 (by decide +kernel)))
  obtain ⟨y2, hy2⟩ := st_arr (ty := .char) (fun C h => by cases h) (hts0 _ (tin 99 (by decide +kernel)))
  obtain ⟨y3, hy3⟩ := st_arr (ty := .byte) (fun C h => by cases h) (hts0 _ (tin 1531 (by decide +kernel)))
  obtain ⟨y4, hy4⟩ := st_arr (ty := .boolean) (fun C h => by cases h) (hts0 _ (tin 261 (by decide +kernel)))
  obtain ⟨y5, hy5⟩ := st_arq (C := "ChildLetters$Letter") (hts0 _ (tin 222 (by decide +kernel)))
  obtain ⟨y6, hy6⟩ := st_arq (C := "ChildLetters$Pair") (hts0 _ (tin 151 (by decide +kernel)))
  refine ⟨(fun k => [c0, c1, c2, c3, c4, c5, c6, c7, c8, c9, c10, c11, c12].getD k 0, fun k => [i0, i1, i2, i3, i4, i5, i6, i7, i8, i9, i10, i11, i12].getD k i0), fun k => [y0, y1, y2, y3, y4, y5, y6].getD k 0, fun k q hq => ?_, fun k q hq => ?_⟩
  · match k, hq with
    | 0, hq => cases hq; exact hK0
    | 1, hq => cases hq; exact hK1
    | 2, hq => cases hq; exact hK2
    | 3, hq => cases hq; exact hK3
    | 4, hq => cases hq; exact hK4
    | 5, hq => cases hq; exact hK5
    | 6, hq => cases hq; exact hK6
    | 7, hq => cases hq; exact hK7
    | 8, hq => cases hq; exact hK8
    | 9, hq => cases hq; exact hK9
    | 10, hq => cases hq; exact hK10
    | 11, hq => cases hq; exact hK11
    | 12, hq => cases hq; exact hK12
    | k + 13, hq => simp [vwCl] at hq
  · match k, hq with
    | 0, hq => cases hq; exact hy0
    | 1, hq => cases hq; exact hy1
    | 2, hq => cases hq; exact hy2
    | 3, hq => cases hq; exact hy3
    | 4, hq => cases hq; exact hy4
    | 5, hq => cases hq; exact hy5
    | 6, hq => cases hq; exact hy6
    | k + 7, hq => simp [tysL] at hq
set_option maxHeartbeats 4000000 in
set_option maxRecDepth 100000 in
theorem st_Z {args : Array Value} {s : State} (hts0 : ∀ w ∈ lw_tbl, w.before args s = true) (hgv : (Jvm.Cond.and given_1 narrow_1).before args s = true) : ZZ s.heap s := by
  have hs := flat_of_before _ hgv
  have hini : (Cond.initialized "ChildLetters").before args s = true := hts0 _ (tin 1 (by decide +kernel))
  have hA : ∀ a : Nat, a < s.heap.size → ¬ (fun q : Nat => s.heap.size ≤ q) a := fun a h => Nat.not_le.mpr h
  have z_LEAST_NUMBER : ∃ t : Nat, va_Z "ChildLetters" "LEAST_NUMBER" "[I" (.ref t) (fun q => s.heap.size ≤ q) s s.heap ∧ va_T .int t 8 (fun j => .int (lnF j)) (fun q => s.heap.size ≤ q) s s.heap := by
    have hel : ∀ j : Nat, j < 8 → (Term.elem (.static "ChildLetters" "LEAST_NUMBER" "[I") (.int (Int32.ofNat j))).eval args s none [] s = some (.int (lnF j)) := by
      intro j hj
      match j, hj with
      | 0, _ => exact va_eqt (hs (.eq (.elem (.static "ChildLetters" "LEAST_NUMBER" "[I") (.int 0)) (.int 1)) (by decide +kernel))
      | 1, _ => exact va_eqt (hs (.eq (.elem (.static "ChildLetters" "LEAST_NUMBER" "[I") (.int 1)) (.int 1)) (by decide +kernel))
      | 2, _ => exact va_eqt (hs (.eq (.elem (.static "ChildLetters" "LEAST_NUMBER" "[I") (.int 2)) (.int 1)) (by decide +kernel))
      | 3, _ => exact va_eqt (hs (.eq (.elem (.static "ChildLetters" "LEAST_NUMBER" "[I") (.int 3)) (.int 1)) (by decide +kernel))
      | 4, _ => exact va_eqt (hs (.eq (.elem (.static "ChildLetters" "LEAST_NUMBER" "[I") (.int 4)) (.int 0)) (by decide +kernel))
      | 5, _ => exact va_eqt (hs (.eq (.elem (.static "ChildLetters" "LEAST_NUMBER" "[I") (.int 5)) (.int 0)) (by decide +kernel))
      | 6, _ => exact va_eqt (hs (.eq (.elem (.static "ChildLetters" "LEAST_NUMBER" "[I") (.int 6)) (.int 0)) (by decide +kernel))
      | 7, _ => exact va_eqt (hs (.eq (.elem (.static "ChildLetters" "LEAST_NUMBER" "[I") (.int 7)) (.int 0)) (by decide +kernel))
      | j + 8, hj => exact absurd hj (by omega)
    obtain ⟨t, h1, h2⟩ := va_Tof (tm := .static "ChildLetters" "LEAST_NUMBER" "[I") (ty := .int) (N := 8) (f := fun j => .int (lnF j)) (by decide) (hs _ (by decide +kernel)) (va_eqt (hs (.eq (.length (.static "ChildLetters" "LEAST_NUMBER" "[I")) (.int 8)) (by decide +kernel))) hel hA
    exact ⟨t, va_Zof (hts0 (.laysStatic "ChildLetters" "LEAST_NUMBER" "[I") (tin 590 (by decide +kernel))) hini h1 hA, h2⟩
  have z_MOST_NUMBER : ∃ t : Nat, va_Z "ChildLetters" "MOST_NUMBER" "[I" (.ref t) (fun q => s.heap.size ≤ q) s s.heap ∧ va_T .int t 8 (fun j => .int (mnF j)) (fun q => s.heap.size ≤ q) s s.heap := by
    have hel : ∀ j : Nat, j < 8 → (Term.elem (.static "ChildLetters" "MOST_NUMBER" "[I") (.int (Int32.ofNat j))).eval args s none [] s = some (.int (mnF j)) := by
      intro j hj
      match j, hj with
      | 0, _ => exact va_eqt (hs (.eq (.elem (.static "ChildLetters" "MOST_NUMBER" "[I") (.int 0)) (.int 60)) (by decide +kernel))
      | 1, _ => exact va_eqt (hs (.eq (.elem (.static "ChildLetters" "MOST_NUMBER" "[I") (.int 1)) (.int 127)) (by decide +kernel))
      | 2, _ => exact va_eqt (hs (.eq (.elem (.static "ChildLetters" "MOST_NUMBER" "[I") (.int 2)) (.int 20)) (by decide +kernel))
      | 3, _ => exact va_eqt (hs (.eq (.elem (.static "ChildLetters" "MOST_NUMBER" "[I") (.int 3)) (.int 8)) (by decide +kernel))
      | 4, _ => exact va_eqt (hs (.eq (.elem (.static "ChildLetters" "MOST_NUMBER" "[I") (.int 4)) (.int 400)) (by decide +kernel))
      | 5, _ => exact va_eqt (hs (.eq (.elem (.static "ChildLetters" "MOST_NUMBER" "[I") (.int 5)) (.int 100)) (by decide +kernel))
      | 6, _ => exact va_eqt (hs (.eq (.elem (.static "ChildLetters" "MOST_NUMBER" "[I") (.int 6)) (.int 100)) (by decide +kernel))
      | 7, _ => exact va_eqt (hs (.eq (.elem (.static "ChildLetters" "MOST_NUMBER" "[I") (.int 7)) (.int 1000000)) (by decide +kernel))
      | j + 8, hj => exact absurd hj (by omega)
    obtain ⟨t, h1, h2⟩ := va_Tof (tm := .static "ChildLetters" "MOST_NUMBER" "[I") (ty := .int) (N := 8) (f := fun j => .int (mnF j)) (by decide) (hs _ (by decide +kernel)) (va_eqt (hs (.eq (.length (.static "ChildLetters" "MOST_NUMBER" "[I")) (.int 8)) (by decide +kernel))) hel hA
    exact ⟨t, va_Zof (hts0 (.laysStatic "ChildLetters" "MOST_NUMBER" "[I") (tin 592 (by decide +kernel))) hini h1 hA, h2⟩
  exact ⟨z_LEAST_NUMBER, z_MOST_NUMBER⟩
theorem st_KK {args : Array Value} {s : State} (hts0 : ∀ w ∈ lw_tbl, w.before args s = true) (hgv : (Jvm.Cond.and given_1 narrow_1).before args s = true) : ∃ (D : va_G) (y : Nat → ClassId), KKo s.heap D y s := by
  obtain ⟨D, y, hK⟩ := st_K hts0
  exact ⟨D, y, ⟨hK, fun q hq => va_Nw.of rfl (hts0 _ (nest_in q hq)), st_Z hts0 hgv⟩, va_AO.of (hts0 _ (tin 222 (by decide +kernel))), va_AO.of (hts0 _ (tin 151 (by decide +kernel)))⟩
def zG : Grp := (fun _ _ => 0, fun _ _ => 0, fun _ _ => none)
def sig0 : St := fun j => if j = 0 then i_X12_91_0 (i_X11_0_0 zG) else if j = 1 then i_X11_0_1 zG else if j = 2 then i_X11_0_2 zG else if j = 3 then i_X11_0_3 zG else if j = 5 then i_X11_0_5 zG else if j = 26 then i_X12_91_26 zG else zG
def tOK (a : Nat) (q : Nat × Nat × Nat) : Bool := match (sig0 q.1).2.2 a q.2.1 with
  | none => true
  | some t => decide (t < 174 ∧ K0 t = q.2.2)
set_option maxRecDepth 100000 in
theorem sig0_fin : ∀ q ∈ FINL, (sig0 0).2.2 q.1 q.2.1 = some q.2.2 := by decide +kernel
set_option maxRecDepth 100000 in
theorem sig0_own : ∀ a : Nat, a < 174 → ∀ q ∈ ownL (K0 a), (sig0 0).2.2 a q.1 = some (a + q.2.1) ∧ a + q.2.1 < 174 ∧ K0 (a + q.2.1) = q.2.2 := by decide +kernel
set_option maxRecDepth 100000 in
theorem sig0_typ : ∀ a : Nat, a < 174 → ∀ q ∈ typL (K0 a), tOK a q = true := by decide +kernel
theorem tarL_in {k : Nat} {q : Nat × Nat} (h : q ∈ tarL k) : q.1 = 7 ∨ q.1 = 10 ∨ q.1 = 16 := by
  unfold tarL at h
  split at h
  · rw [List.mem_singleton.mp h]; exact Or.inl rfl
  · rw [List.mem_singleton.mp h]; exact Or.inr (Or.inl rfl)
  · rw [List.mem_singleton.mp h]; exact Or.inr (Or.inr rfl)
  · exact absurd h List.not_mem_nil
theorem sig0_TF : TF 174 K0 sig0 := by
  refine ⟨fun _ => sig0_fin, fun a ha => ⟨sig0_own a ha, fun q hq t ht => ?_, fun q hq j t ht => ?_⟩⟩
  · have h := sig0_typ a ha q hq
    unfold tOK at h
    rw [ht] at h
    exact of_decide_eq_true h
  · have h : sig0 q.1 = zG := by rcases tarL_in hq with e | e | e <;> rw [e] <;> rfl
    rw [h] at ht
    cases ht
theorem st_sig {σ1 σ2 : St} (e0 : σ1 0 = i_X11_0_0 zG) (e1 : σ1 1 = i_X11_0_1 zG) (e2 : σ1 2 = i_X11_0_2 zG) (e3 : σ1 3 = i_X11_0_3 zG) (e5 : σ1 5 = i_X11_0_5 zG) (ho : ∀ j, j ∉ ([0, 1, 2, 3, 5] : List Nat) → σ1 j = zG) (f0 : σ2 0 = i_X12_91_0 (σ1 0)) (f26 : σ2 26 = i_X12_91_26 (σ1 26)) (hp : ∀ j, j ∉ ([0, 26] : List Nat) → σ2 j = σ1 j) : σ2 = sig0 := by
  funext j
  unfold sig0
  by_cases h0 : j = 0
  · subst h0; rw [f0, e0]; rfl
  by_cases h26 : j = 26
  · subst h26; rw [f26, ho 26 (by decide)]; rfl
  rw [hp j (by simp [h0, h26]), if_neg h0]
  by_cases h1 : j = 1
  · subst h1; rw [e1]; rfl
  rw [if_neg h1]
  by_cases h2 : j = 2
  · subst h2; rw [e2]; rfl
  rw [if_neg h2]
  by_cases h3 : j = 3
  · subst h3; rw [e3]; rfl
  rw [if_neg h3]
  by_cases h5 : j = 5
  · subst h5; rw [e5]; rfl
  rw [if_neg h5, if_neg h26, ho j (by simp [h0, h1, h2, h3, h5])]
set_option maxHeartbeats 4000000 in
set_option maxRecDepth 100000 in
theorem start_of {p : Program} {e : Env} {s : State} {m : MethodId} {below : List Frame} {meth : Method} {c : Code} (l : Launch) {b L : Nat} {xs : Nat → Int32} (hL : L ≤ 4096) (C0 : lw_At p s m meth c b L xs) (hpure : ∃ F fu : Nat, f_law F xs L fu 174 sig0 0 = some 1) : W p l e room_1 s m #[Value.ref b] below meth c s.heap [] 0 0 (lw_Z below #[Value.ref b] s) (entryFrame m ([Value.ref b] : List Value).toArray 4) := by
  obtain ⟨F, fu, hpure⟩ := hpure
  obtain ⟨hx, hb, hr, hml, hown, hts0, hX, hbl, hlocks, hgv⟩ := id C0
  have hts : ∀ w ∈ gtb, w.before #[Value.ref b] s = true := fun w hw => hts0 w (List.mem_filter.mp hw).1
  have hown : s.vm.findClass RL = some m.cls := hown
  obtain ⟨D, y, hKo⟩ := st_KK hts0 hgv
  have hKK := hKo.1
  have hI : IV s.heap D y 0 0 K0 (fun _ => zG) [] s.heap := ⟨⟨rfl, fun _ _ => rfl, fun a h => absurd h (Nat.not_lt_zero a), fun _ _ _ _ => ⟨rfl, rfl, rfl⟩, fun _ _ => rfl⟩, ⟨Nat.le_refl _, TF0 _ _⟩, fun _ h => absurd h List.not_mem_nil⟩
  have hl := lv_entry ([.ref b]) (n := 4) (Nat.le_of_ble_eq_true rfl)
  rw [lg_entry_eq]
  generalize (lg_sl ([.ref b]) ++ List.replicate (4 - (lg_sl ([.ref b])).length) Slot.unset).toArray = ls at hl ⊢
  have hl : lv_has ls 4 [(0, .ref b)] := hl
  refine r_new hx hb hts hown hKK hI (kd := 11) (T := TX11) (ty := tyX11) (ci := 11) rfl rfl in_X11 tyX11_ok (hz11 s.heap.size) lx_L_7 (gtb_t 18 (by decide +kernel) (by decide +kernel)) (gtb_t 1 (by decide +kernel) (by decide +kernel)) rfl (Nat.le_of_ble_eq_true rfl) (Nat.le_of_ble_eq_true rfl) dL_law_0 (fun H hI => ?_)
  refine lv_dup hx hb dL_law_3 rfl ?_
  refine r_callIo (As := []) (rest := [.ref (s.heap.size + 0)]) (cells' := 91) (slots' := 8192) hx hb hml hts hown (k_X11_0 l s.heap D y K0 (fun _ => zG) (fun _ _ => rfl)) cal_X11_init rfl im_X11_init lm_L_9 ⟨Nat.le_of_ble_eq_true rfl, Nat.le_of_ble_eq_true rfl⟩ hI.nil hKo rfl hl.1 hI.2.2 rfl (Nat.le_of_ble_eq_true rfl) dL_law_4 ⟨Nat.le_of_ble_eq_true rfl, Nat.le_of_ble_eq_true rfl⟩ rfl rfl rfl (fun H locs hB hlo => ?_)
  obtain ⟨σ1, hB, e0, e1, e2, e3, e5, ho⟩ := hB
  have hI := hB.re hlo
  refine lv_astore_n (lv' := [(1, .ref (s.heap.size + 0)), (0, .ref b)]) hx hb dL_law_7 rfl hl (by decide) rfl (fun ls hl => ?_)
  refine r_new hx hb hts hown hKK hI (kd := 12) (T := TX12) (ty := tyX12) (ci := 12) rfl rfl in_X12 tyX12_ok (hz12 s.heap.size) lx_L_10 (gtb_t 1182 (by decide +kernel) (by decide +kernel)) (gtb_t 11 (by decide +kernel) (by decide +kernel)) rfl (Nat.le_of_ble_eq_true rfl) (Nat.le_of_ble_eq_true rfl) dL_law_8 (fun H hI => ?_)
  refine lv_dup hx hb dL_law_11 rfl ?_
  refine r_callIo (As := []) (rest := [.ref (s.heap.size + 91)]) (cells' := 174) (slots' := 257216) hx hb hml hts hown (k_X12_91 l s.heap D y K0 σ1 (fun _ _ => rfl)) cal_X12_init rfl im_X12_init lm_L_12 ⟨Nat.le_of_ble_eq_true rfl, Nat.le_of_ble_eq_true rfl⟩ hI.nil hKo rfl hl.1 hI.2.2 rfl (Nat.le_of_ble_eq_true rfl) dL_law_12 ⟨Nat.le_of_ble_eq_true rfl, Nat.le_of_ble_eq_true rfl⟩ rfl rfl rfl (fun H locs hB hlo => ?_)
  obtain ⟨σ2, hB, f0, f26, hp⟩ := hB
  have hI := hB.re hlo
  have es : σ2 = sig0 := st_sig e0 e1 e2 e3 e5 ho f0 f26 hp
  subst es
  have hI : IV s.heap D y 174 174 K0 sig0 locs H := ⟨hI.1, ⟨Nat.le_refl _, sig0_TF⟩, hI.2.2⟩
  refine lv_astore_n (lv' := [(2, .ref (s.heap.size + 91)), (1, .ref (s.heap.size + 0)), (0, .ref b)]) hx hb dL_law_15 rfl hl (by decide) rfl (fun ls hl => ?_)
  refine lv_iconst (v := 0) hx hb dL_law_16 (by decide) ?_
  refine lv_istore_n (lv' := [(3, .int 0), (2, .ref (s.heap.size + 91)), (1, .ref (s.heap.size + 0)), (0, .ref b)]) hx hb dL_law_17 rfl hl (by decide) rfl (fun ls hl => ?_)
  exact law_loop l hL C0 D y hKK F fu 0 174 K0 sig0 0 H locs ls rfl (by decide) (Nat.le_refl _) hI (lv_sub hl [3, 2, 1, 0] rfl) hpure
