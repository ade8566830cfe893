def R_law : String := "ChildLettersLaw"
def lw_P (b : Addr) (xs : List Int32) (args : Array Value) (s : State) : Prop := args = #[.ref b] ∧ s.IntsAt b xs ∧ xs.length ≤ 4096 ∧ (Jvm.Cond.and given_1 narrow_1).before args s = true
def lw_Q (_ : Array Value) (s : State) (o : Outcome) (t : State) : Prop := o = .returned (some (.int 1)) ∧ Framed s o t [] 600000 7302250
def lw_Z (below : List Frame) (a : Array Value) (s : State) : State → Prop := fun t => ∃ o, t.status = .running ∧ Ended t below o ∧ lw_Q a s o t
/-- the law's own end, with 1 on the stack, nothing written that was there before, its room as the claim has it -/
theorem lw_ret {p : Program} {l : Launch} {e : Env} {s : State} {m : MethodId} {below : List Frame} {meth : Method} {c : Code} {b : Nat} (hx : p.tables.exec = Jvm.exec) (hb : c.code = code) (hr : meth.sig.returnType = ret) (hlocks : meth.locks = false) {pc : Nat} {H : Heap} {ls : Array Slot} (hdg : decode code pc = .ok (.ireturn, 1)) : W p l e room_1 s m #[Value.ref b] below meth c H [] 600000 7302250 (lw_Z below #[Value.ref b] s) (F0 m pc ls [.int 1]) := by
  intro T hT X
  obtain ⟨fs, hret, hrun, hended, hW, hframe⟩ := X.leave (v := some (.int 1)) (hlocks := hlocks) (fun h => by rw [hr] at h; cases h)
  have hmeth' : T.vm.method? m = some meth := X.method'
  refine ⟨T.setFrames fs, ?_, .returned (some (.int 1)), hrun, hended, rfl, ⟨_, rfl⟩, hW, hframe⟩
  jvm_step X.here [X.here.top, hx, hb, hdg, hmeth', hr, ret, narrow_b1]
  (try refine ⟨rfl, ?_⟩); (try refine ⟨rfl, ?_⟩)
  first | (intro acts; rw [hret _ acts rfl rfl rfl]) | rw [hret _ _ rfl rfl rfl]
  exact Steps.refl _
/-- what holds at the law's entry: the machine, the code, the tables' words (any of lw_tbl by 'hts w (by decide +kernel)'), the script of L ints xs at the cell b, what the Statement gives of the start (any of its parts by flat_of_before) -/
def lw_At (p : Program) (s : State) (m : MethodId) (meth : Method) (c : Code) (b L : Nat) (xs : Nat → Int32) : Prop :=
  p.tables.exec = Jvm.exec ∧ c.code = code ∧ meth.sig.returnType = ret ∧ c.maxLocals = 4 ∧ s.vm.findClass R_law = some m.cls ∧ (∀ w ∈ lw_tbl, w.before #[Value.ref b] s = true) ∧ va_X b L xs s s.heap ∧ b < s.heap.size ∧ meth.locks = false ∧ (Jvm.Cond.and given_1 narrow_1).before #[Value.ref b] s = true

def lkS : Nat → List (Nat × Grp) → Option Grp
  | _, [] => none
  | j, (g, G) :: r => if j = g then some G else lkS j r
def sgs (σ : St) (l : List (Nat × Grp)) : St := fun j => (lkS j l).getD (σ j)
theorem lkS_mem {j : Nat} {G : Grp} : ∀ {l : List (Nat × Grp)}, lkS j l = some G → (j, G) ∈ l
  | [], h => by cases h
  | (g, G') :: r, h => by
    unfold lkS at h
    split at h
    · rename_i e; cases h; subst e; exact List.mem_cons_self
    · exact List.mem_cons_of_mem _ (lkS_mem h)
theorem lkS_none {j : Nat} : ∀ {l : List (Nat × Grp)}, lkS j l = none → j ∉ l.map (fun q => q.1)
  | [], _ => List.not_mem_nil
  | (g, G') :: r, h => by
    unfold lkS at h
    split at h
    · cases h
    · rename_i e
      intro hm
      rcases List.mem_cons.mp hm with q | q
      · exact e q
      · exact lkS_none h q
theorem sgs_eq {σ σ' : St} {l : List (Nat × Grp)} (h1 : ∀ q ∈ l, σ' q.1 = q.2) (h2 : ∀ j, j ∉ l.map (fun q => q.1) → σ' j = σ j) : σ' = sgs σ l := by
  funext j
  unfold sgs
  cases h : lkS j l with
  | none => exact h2 j (lkS_none h)
  | some G => exact h1 (j, G) (lkS_mem h)
theorem IV.S {HB : Heap} {D : va_G} {y : Nat → ClassId} {m n : Nat} {κ : Nat → Nat} {σ : St} {locs : List Loc} {H : Heap} (h : IV HB D y m n κ σ locs H) : va_S (fun q => HB.size ≤ q) HB H locs := ⟨by have := h.1.1; omega, fun q hq _ => h.1.2.1 q hq, h.2.2⟩
theorem lawc {L k : Nat} {v : Int32} (hL : L ≤ 4096) (hv : v = nI (8 * k)) (hk : 8 * k ≤ 4096) (hc : ¬ nI L - 8 < v) : 8 * k + 8 ≤ L := by
  have h1 : (nI L).toInt = L := nI_toInt (by omega)
  have h2 : v.toInt = ((8 * k : Nat) : Int) := by rw [hv]; exact nI_toInt (by omega)
  have h8 : (8 : Int32) = nI 8 := rfl
  have h3 : (nI L - nI 8).toInt = (L : Int) - (8 : Nat) := pk_sub_toInt (by omega) (by omega)
  rw [h8, Int32.lt_iff_toInt_lt, h2, h3] at hc
  omega
theorem lawv {k : Nat} {v w : Int32} (hv : v = nI (8 * k)) (q : w = v + 8) : w = nI (8 * (k + 1)) := by
  rw [q, hv]
  show nI (8 * k) + nI 8 = _
  rw [nI_add]
  rfl
noncomputable def f_law_0 (F : Nat) (xs : Nat → Int32) (L : Nat) (k18 : Nat → St → Int32 → Option Int32) (n : Nat) (σ : St) (v3 : Int32) : Option Int32 :=
  ck (v3 + 1) L (ck (v3 + 2) L (ob (f_X11_village F (σ 6) (xs (v3 + 1).toNatClampNeg) (xs (v3 + 2).toNatClampNeg)) (fun q_199 => bn (sgs σ [(6, q_199.2)]) (fun σ_199 => ck (v3 + 1) L (ck (v3 + 2) L (ob (f_X12_village F (σ_199 24) (xs (v3 + 1).toNatClampNeg) (xs (v3 + 2).toNatClampNeg)) (fun q_213 => bn (sgs σ_199 [(24, q_213.2)]) (fun σ_213 => if q_199.1 = q_213.1 then bn (v3 + 8) (fun v3n => k18 n σ_213 v3n) else some 0))))))))
noncomputable def f_law_1 (F : Nat) (xs : Nat → Int32) (L : Nat) (k18 : Nat → St → Int32 → Option Int32) (n : Nat) (σ : St) (v3 : Int32) : Option Int32 :=
  ck (v3 + 1) L (ob (f_X11_giver F (σ 6) (xs (v3 + 1).toNatClampNeg)) (fun q_227 => bn (sgs σ [(6, q_227.2)]) (fun σ_227 => ck (v3 + 1) L (ob (f_X12_giver F (σ_227 24) (xs (v3 + 1).toNatClampNeg)) (fun q_236 => bn (sgs σ_227 [(24, q_236.2)]) (fun σ_236 => if q_227.1 = q_236.1 then bn (v3 + 8) (fun v3n => k18 n σ_236 v3n) else some 0))))))
noncomputable def f_law_2 (F : Nat) (xs : Nat → Int32) (L : Nat) (k18 : Nat → St → Int32 → Option Int32) (n : Nat) (σ : St) (v3 : Int32) : Option Int32 :=
  ck (v3 + 1) L (ck (v3 + 2) L (ck (v3 + 3) L (ck (v3 + 4) L (ob (f_X11_child F (σ 6) (xs (v3 + 1).toNatClampNeg) (xs (v3 + 2).toNatClampNeg) (xs (v3 + 3).toNatClampNeg) (xs (v3 + 4).toNatClampNeg)) (fun q_265 => bn (sgs σ [(6, q_265.2)]) (fun σ_265 => ck (v3 + 1) L (ck (v3 + 2) L (ck (v3 + 3) L (ck (v3 + 4) L (ob (f_X12_child F (σ_265 24) (xs (v3 + 1).toNatClampNeg) (xs (v3 + 2).toNatClampNeg) (xs (v3 + 3).toNatClampNeg) (xs (v3 + 4).toNatClampNeg)) (fun q_289 => bn (sgs σ_265 [(24, q_289.2)]) (fun σ_289 => if q_265.1 = q_289.1 then bn (v3 + 8) (fun v3n => k18 n σ_289 v3n) else some 0))))))))))))
noncomputable def f_law_3 (F : Nat) (xs : Nat → Int32) (L : Nat) (k18 : Nat → St → Int32 → Option Int32) (n : Nat) (σ : St) (v3 : Int32) : Option Int32 :=
  ck (v3 + 1) L (ck (v3 + 2) L (ob (f_X11_pair F n (σ 1) (σ 6) (σ 7) (σ 8) (σ 9) (xs (v3 + 1).toNatClampNeg) (xs (v3 + 2).toNatClampNeg)) (fun q_308 => bn (sgs σ [(7, q_308.2.2.1), (9, q_308.2.2.2)]) (fun σ_308 => ck (v3 + 1) L (ck (v3 + 2) L (ob (f_X12_pair F (σ_308 23) (σ_308 24) (σ_308 25) (σ_308 41) (xs (v3 + 1).toNatClampNeg) (xs (v3 + 2).toNatClampNeg)) (fun q_322 => bn (sgs σ_308 [(25, q_322.2)]) (fun σ_322 => if q_308.1 = q_322.1 then bn (v3 + 8) (fun v3n => k18 (q_308.2.1) σ_322 v3n) else some 0))))))))
noncomputable def f_law_4 (F : Nat) (xs : Nat → Int32) (L : Nat) (k18 : Nat → St → Int32 → Option Int32) (n : Nat) (σ : St) (v3 : Int32) : Option Int32 :=
  ck (v3 + 1) L (ob (f_X11_end F (σ 1) (σ 7) (σ 9) (xs (v3 + 1).toNatClampNeg)) (fun q_336 => bn (sgs σ [(9, q_336.2)]) (fun σ_336 => ck (v3 + 1) L (ob (f_X12_end F (σ_336 23) (σ_336 25) (xs (v3 + 1).toNatClampNeg)) (fun q_345 => bn (sgs σ_336 [(25, q_345.2)]) (fun σ_345 => if q_336.1 = q_345.1 then bn (v3 + 8) (fun v3n => k18 n σ_345 v3n) else some 0))))))
noncomputable def f_law_5 (F : Nat) (xs : Nat → Int32) (L : Nat) (k18 : Nat → St → Int32 → Option Int32) (n : Nat) (σ : St) (v3 : Int32) : Option Int32 :=
  ck (v3 + 1) L (ck (v3 + 2) L (ob (f_X11_number F (σ 2) (xs (v3 + 1).toNatClampNeg) (xs (v3 + 2).toNatClampNeg)) (fun q_364 => bn (sgs σ [(2, q_364.2)]) (fun σ_364 => ck (v3 + 1) L (ck (v3 + 2) L (ob (f_X12_number F (σ_364 26) (xs (v3 + 1).toNatClampNeg) (xs (v3 + 2).toNatClampNeg)) (fun q_378 => bn (sgs σ_364 [(26, q_378.2)]) (fun σ_378 => if q_364.1 = q_378.1 then bn (v3 + 8) (fun v3n => k18 n σ_378 v3n) else some 0))))))))
noncomputable def f_law_6 (F : Nat) (xs : Nat → Int32) (L : Nat) (k18 : Nat → St → Int32 → Option Int32) (n : Nat) (σ : St) (v3 : Int32) : Option Int32 :=
  ck (v3 + 1) L (ck (v3 + 2) L (ck (v3 + 3) L (ck (v3 + 4) L (ck (v3 + 5) L (ob (f_X11_feed F (σ 1) (σ 3) (xs (v3 + 1).toNatClampNeg) (xs (v3 + 2).toNatClampNeg) (xs (v3 + 3).toNatClampNeg) (xs (v3 + 4).toNatClampNeg) (xs (v3 + 5).toNatClampNeg)) (fun q_412 => bn (sgs σ [(1, q_412.2.1), (3, q_412.2.2)]) (fun σ_412 => ck (v3 + 1) L (ck (v3 + 2) L (ck (v3 + 3) L (ck (v3 + 4) L (ck (v3 + 5) L (ob (f_X12_feed F (σ_412 27) (xs (v3 + 1).toNatClampNeg) (xs (v3 + 2).toNatClampNeg) (xs (v3 + 3).toNatClampNeg) (xs (v3 + 4).toNatClampNeg) (xs (v3 + 5).toNatClampNeg)) (fun q_441 => bn (sgs σ_412 [(27, q_441.2)]) (fun σ_441 => if q_412.1 = q_441.1 then bn (v3 + 8) (fun v3n => k18 n σ_441 v3n) else some 0))))))))))))))
noncomputable def f_law_7 (F : Nat) (xs : Nat → Int32) (L : Nat) (k18 : Nat → St → Int32 → Option Int32) (n : Nat) (σ : St) (v3 : Int32) : Option Int32 :=
  ck (v3 + 1) L (ob (f_X11_rules F (σ 1) (σ 3) (σ 4) (xs (v3 + 1).toNatClampNeg)) (fun q_455 => bn (sgs σ [(1, q_455.2.1), (4, q_455.2.2)]) (fun σ_455 => ck (v3 + 1) L (ob (f_X12_rules F (σ_455 27) (σ_455 28) (σ_455 29) (xs (v3 + 1).toNatClampNeg)) (fun q_464 => bn (sgs σ_455 [(27, q_464.2.1), (28, q_464.2.2.1), (29, q_464.2.2.2)]) (fun σ_464 => if q_455.1 = q_464.1 then bn (v3 + 8) (fun v3n => k18 n σ_464 v3n) else some 0))))))
noncomputable def f_law_8 (F : Nat) (xs : Nat → Int32) (L : Nat) (k18 : Nat → St → Int32 → Option Int32) (n : Nat) (σ : St) (v3 : Int32) : Option Int32 :=
  ck (v3 + 1) L (ob (f_X11_look F (σ 1) (σ 3) (σ 4) (σ 5) (xs (v3 + 1).toNatClampNeg)) (fun q_478 => bn (sgs σ [(5, q_478.2)]) (fun σ_478 => ck (v3 + 1) L (ob (f_X12_look F (σ_478 27) (σ_478 29) (σ_478 30) (σ_478 31) (xs (v3 + 1).toNatClampNeg)) (fun q_487 => bn (sgs σ_478 [(30, q_487.2.1), (31, q_487.2.2)]) (fun σ_487 => if q_478.1 = q_487.1 then bn (v3 + 8) (fun v3n => k18 n σ_487 v3n) else some 0))))))
noncomputable def f_law_9 (F : Nat) (xs : Nat → Int32) (L : Nat) (k18 : Nat → St → Int32 → Option Int32) (n : Nat) (σ : St) (v3 : Int32) : Option Int32 :=
  ck (v3 + 1) L (ck (v3 + 2) L (ob (f_X11_found F (σ 5) (xs (v3 + 1).toNatClampNeg) (xs (v3 + 2).toNatClampNeg)) (fun q_506 => ck (v3 + 1) L (ck (v3 + 2) L (ob (f_X12_found F (σ 31) (xs (v3 + 1).toNatClampNeg) (xs (v3 + 2).toNatClampNeg)) (fun q_520 => if q_506 = q_520 then bn (v3 + 8) (fun v3n => k18 n σ v3n) else some 0))))))
noncomputable def f_law_10 (F : Nat) (xs : Nat → Int32) (L : Nat) (k18 : Nat → St → Int32 → Option Int32) (n : Nat) (σ : St) (v3 : Int32) : Option Int32 :=
  ck (v3 + 1) L (ck (v3 + 2) L (ck (v3 + 3) L (ck (v3 + 4) L (ck (v3 + 5) L (ck (v3 + 6) L (ck (v3 + 7) L (ob (f_X11_letter F n (σ 0) (σ 1) (σ 3) (σ 7) (σ 9) (σ 10) (σ 13) (σ 14) (xs (v3 + 1).toNatClampNeg) (xs (v3 + 2).toNatClampNeg) (xs (v3 + 3).toNatClampNeg) (xs (v3 + 4).toNatClampNeg) (xs (v3 + 5).toNatClampNeg) (xs (v3 + 6).toNatClampNeg) (xs (v3 + 7).toNatClampNeg)) (fun q_566 => bn (sgs σ [(0, q_566.2.2.1), (1, q_566.2.2.2.1), (3, q_566.2.2.2.2.1), (9, q_566.2.2.2.2.2.1), (10, q_566.2.2.2.2.2.2.1), (13, q_566.2.2.2.2.2.2.2.1), (14, q_566.2.2.2.2.2.2.2.2)]) (fun σ_566 => ck (v3 + 1) L (ck (v3 + 2) L (ck (v3 + 3) L (ck (v3 + 4) L (ck (v3 + 5) L (ck (v3 + 6) L (ck (v3 + 7) L (ob (f_X12_letter F (σ_566 23) (σ_566 25) (σ_566 27) (σ_566 32) (σ_566 33) (xs (v3 + 1).toNatClampNeg) (xs (v3 + 2).toNatClampNeg) (xs (v3 + 3).toNatClampNeg) (xs (v3 + 4).toNatClampNeg) (xs (v3 + 5).toNatClampNeg) (xs (v3 + 6).toNatClampNeg) (xs (v3 + 7).toNatClampNeg)) (fun q_607 => bn (sgs σ_566 [(27, q_607.2.1), (32, q_607.2.2.1), (33, q_607.2.2.2)]) (fun σ_607 => if q_566.1 = q_607.1 then bn (v3 + 8) (fun v3n => k18 (q_566.2.1) σ_607 v3n) else some 0))))))))))))))))))
noncomputable def f_law_11 (F : Nat) (xs : Nat → Int32) (L : Nat) (k18 : Nat → St → Int32 → Option Int32) (n : Nat) (σ : St) (v3 : Int32) : Option Int32 :=
  ck (v3 + 1) L (ck (v3 + 2) L (ck (v3 + 3) L (ck (v3 + 4) L (ob (f_X11_translator F (σ 16) (xs (v3 + 1).toNatClampNeg) (xs (v3 + 2).toNatClampNeg) (xs (v3 + 3).toNatClampNeg) (xs (v3 + 4).toNatClampNeg)) (fun q_636 => bn (sgs σ [(16, q_636.2)]) (fun σ_636 => ck (v3 + 1) L (ck (v3 + 2) L (ck (v3 + 3) L (ck (v3 + 4) L (ob (f_X12_translator F (σ_636 37) (xs (v3 + 1).toNatClampNeg) (xs (v3 + 2).toNatClampNeg) (xs (v3 + 3).toNatClampNeg) (xs (v3 + 4).toNatClampNeg)) (fun q_660 => bn (sgs σ_636 [(37, q_660.2)]) (fun σ_660 => if q_636.1 = q_660.1 then bn (v3 + 8) (fun v3n => k18 n σ_660 v3n) else some 0))))))))))))
noncomputable def f_law_12 (F : Nat) (xs : Nat → Int32) (L : Nat) (k18 : Nat → St → Int32 → Option Int32) (n : Nat) (σ : St) (v3 : Int32) : Option Int32 :=
  ob (f_X11_day F (σ 1) (σ 2) (σ 3) (σ 4) (σ 5) (σ 6) (σ 9) (σ 10) (σ 11) (σ 12) (σ 13) (σ 14) (σ 15) (σ 16) (σ 17)) (fun q_669 => bn (sgs σ [(1, q_669.2.1), (3, q_669.2.2.1), (5, q_669.2.2.2.1), (9, q_669.2.2.2.2.1), (11, q_669.2.2.2.2.2.1), (12, q_669.2.2.2.2.2.2.1), (13, q_669.2.2.2.2.2.2.2.1), (15, q_669.2.2.2.2.2.2.2.2.1), (16, q_669.2.2.2.2.2.2.2.2.2.1), (17, q_669.2.2.2.2.2.2.2.2.2.2)]) (fun σ_669 => ob (f_X12_day F (σ_669 23) (σ_669 24) (σ_669 25) (σ_669 26) (σ_669 29) (σ_669 30) (σ_669 32) (σ_669 33) (σ_669 34) (σ_669 35) (σ_669 36) (σ_669 37) (σ_669 38)) (fun q_673 => bn (sgs σ_669 [(23, q_673.2.1), (25, q_673.2.2.1), (30, q_673.2.2.2.1), (32, q_673.2.2.2.2.1), (34, q_673.2.2.2.2.2.1), (35, q_673.2.2.2.2.2.2.1), (36, q_673.2.2.2.2.2.2.2.1), (38, q_673.2.2.2.2.2.2.2.2)]) (fun σ_673 => if q_669.1 = q_673.1 then bn (v3 + 8) (fun v3n => k18 n σ_673 v3n) else some 0))))
noncomputable def f_law_13 (F : Nat) (xs : Nat → Int32) (L : Nat) (k18 : Nat → St → Int32 → Option Int32) (n : Nat) (σ : St) (v3 : Int32) : Option Int32 :=
  ck (v3 + 1) L (ck (v3 + 2) L (if (xs (v3 + 2).toNatClampNeg) = 0 then ob (f_X11_decide F (σ 1) (σ 3) (σ 4) (σ 5) (σ 6) (σ 9) (σ 10) (σ 12) (σ 13) (σ 14) (xs (v3 + 1).toNatClampNeg) 0) (fun q_700 => bn (sgs σ [(3, q_700.2.1), (5, q_700.2.2.1), (9, q_700.2.2.2.1), (12, q_700.2.2.2.2.1), (13, q_700.2.2.2.2.2)]) (fun σ_700 => ck (v3 + 1) L (ck (v3 + 2) L (if (xs (v3 + 2).toNatClampNeg) = 0 then ob (f_X12_decide F (σ_700 23) (σ_700 24) (σ_700 25) (σ_700 29) (σ_700 30) (σ_700 32) (σ_700 33) (σ_700 36) (xs (v3 + 1).toNatClampNeg) 0) (fun q_722 => bn (sgs σ_700 [(25, q_722.2.1), (30, q_722.2.2.1), (32, q_722.2.2.2.1), (36, q_722.2.2.2.2)]) (fun σ_722 => if q_700.1 = q_722.1 then bn (v3 + 8) (fun v3n => k18 n σ_722 v3n) else some 0)) else ob (f_X12_decide F (σ_700 23) (σ_700 24) (σ_700 25) (σ_700 29) (σ_700 30) (σ_700 32) (σ_700 33) (σ_700 36) (xs (v3 + 1).toNatClampNeg) 1) (fun q_722 => bn (sgs σ_700 [(25, q_722.2.1), (30, q_722.2.2.1), (32, q_722.2.2.2.1), (36, q_722.2.2.2.2)]) (fun σ_722 => if q_700.1 = q_722.1 then bn (v3 + 8) (fun v3n => k18 n σ_722 v3n) else some 0)))))) else ob (f_X11_decide F (σ 1) (σ 3) (σ 4) (σ 5) (σ 6) (σ 9) (σ 10) (σ 12) (σ 13) (σ 14) (xs (v3 + 1).toNatClampNeg) 1) (fun q_700 => bn (sgs σ [(3, q_700.2.1), (5, q_700.2.2.1), (9, q_700.2.2.2.1), (12, q_700.2.2.2.2.1), (13, q_700.2.2.2.2.2)]) (fun σ_700 => ck (v3 + 1) L (ck (v3 + 2) L (if (xs (v3 + 2).toNatClampNeg) = 0 then ob (f_X12_decide F (σ_700 23) (σ_700 24) (σ_700 25) (σ_700 29) (σ_700 30) (σ_700 32) (σ_700 33) (σ_700 36) (xs (v3 + 1).toNatClampNeg) 0) (fun q_722 => bn (sgs σ_700 [(25, q_722.2.1), (30, q_722.2.2.1), (32, q_722.2.2.2.1), (36, q_722.2.2.2.2)]) (fun σ_722 => if q_700.1 = q_722.1 then bn (v3 + 8) (fun v3n => k18 n σ_722 v3n) else some 0)) else ob (f_X12_decide F (σ_700 23) (σ_700 24) (σ_700 25) (σ_700 29) (σ_700 30) (σ_700 32) (σ_700 33) (σ_700 36) (xs (v3 + 1).toNatClampNeg) 1) (fun q_722 => bn (sgs σ_700 [(25, q_722.2.1), (30, q_722.2.2.1), (32, q_722.2.2.2.1), (36, q_722.2.2.2.2)]) (fun σ_722 => if q_700.1 = q_722.1 then bn (v3 + 8) (fun v3n => k18 n σ_722 v3n) else some 0))))))))
noncomputable def f_law_14 (F : Nat) (xs : Nat → Int32) (L : Nat) (k18 : Nat → St → Int32 → Option Int32) (n : Nat) (σ : St) (v3 : Int32) : Option Int32 :=
  ck (v3 + 1) L (ob (f_X11_lose F (σ 1) (σ 10) (σ 11) (σ 13) (xs (v3 + 1).toNatClampNeg)) (fun q_736 => bn (sgs σ [(11, q_736.2.1), (13, q_736.2.2)]) (fun σ_736 => ck (v3 + 1) L (ob (f_X12_lose F (σ_736 23) (σ_736 32) (σ_736 35) (xs (v3 + 1).toNatClampNeg)) (fun q_745 => bn (sgs σ_736 [(32, q_745.2.1), (35, q_745.2.2)]) (fun σ_745 => if q_736.1 = q_745.1 then bn (v3 + 8) (fun v3n => k18 n σ_745 v3n) else some 0))))))
noncomputable def f_law_15 (F : Nat) (xs : Nat → Int32) (L : Nat) (k18 : Nat → St → Int32 → Option Int32) (n : Nat) (σ : St) (v3 : Int32) : Option Int32 :=
  ck (v3 + 1) L (ck (v3 + 2) L (ob (f_X11_about F (σ 3) (σ 9) (σ 10) (σ 13) (σ 15) (xs (v3 + 1).toNatClampNeg) (xs (v3 + 2).toNatClampNeg)) (fun q_764 => ck (v3 + 1) L (ck (v3 + 2) L (ob (f_X12_about F (σ 32) (σ 34) (xs (v3 + 1).toNatClampNeg) (xs (v3 + 2).toNatClampNeg)) (fun q_778 => if q_764 = q_778 then bn (v3 + 8) (fun v3n => k18 n σ v3n) else some 0))))))
noncomputable def f_law_16 (F : Nat) (xs : Nat → Int32) (L : Nat) (k18 : Nat → St → Int32 → Option Int32) (n : Nat) (σ : St) (v3 : Int32) : Option Int32 :=
  ck (v3 + 1) L (ob (f_X11_hints F (σ 7) (σ 9) (xs (v3 + 1).toNatClampNeg)) (fun q_792 => ck (v3 + 1) L (ob (f_X12_hints F (σ 25) (xs (v3 + 1).toNatClampNeg)) (fun q_801 => if q_792 = q_801 then bn (v3 + 8) (fun v3n => k18 n σ v3n) else some 0))))
noncomputable def f_law_17 (F : Nat) (xs : Nat → Int32) (L : Nat) (k18 : Nat → St → Int32 → Option Int32) (n : Nat) (σ : St) (v3 : Int32) : Option Int32 :=
  ck (v3 + 1) L (ob (f_X11_unlike F (σ 2) (σ 9) (σ 10) (σ 12) (σ 13) (σ 14) (xs (v3 + 1).toNatClampNeg)) (fun q_815 => ck (v3 + 1) L (ob (f_X12_unlike F (σ 25) (σ 26) (σ 32) (σ 33) (σ 36) (xs (v3 + 1).toNatClampNeg)) (fun q_824 => if q_815 = q_824 then bn (v3 + 8) (fun v3n => k18 n σ v3n) else some 0))))
noncomputable def f_law_18 (F : Nat) (xs : Nat → Int32) (L : Nat) (k18 : Nat → St → Int32 → Option Int32) (n : Nat) (σ : St) (v3 : Int32) : Option Int32 :=
  ck (v3 + 1) L (ob (f_X11_lag F (σ 10) (σ 15) (xs (v3 + 1).toNatClampNeg)) (fun q_838 => ck (v3 + 1) L (ob (f_X12_lag F (σ 32) (σ 34) (xs (v3 + 1).toNatClampNeg)) (fun q_847 => if q_838 = q_847 then bn (v3 + 8) (fun v3n => k18 n σ v3n) else some 0))))
noncomputable def f_law_19 (F : Nat) (xs : Nat → Int32) (L : Nat) (k18 : Nat → St → Int32 → Option Int32) (n : Nat) (σ : St) (v3 : Int32) : Option Int32 :=
  ck (v3 + 1) L (ck (v3 + 2) L (ob (f_X11_gift F (σ 1) (σ 2) (σ 6) (σ 7) (σ 9) (σ 18) (xs (v3 + 1).toNatClampNeg) (xs (v3 + 2).toNatClampNeg)) (fun q_866 => bn (sgs σ [(18, q_866.2)]) (fun σ_866 => ck (v3 + 1) L (ck (v3 + 2) L (ob (f_X12_gift F (σ_866 23) (σ_866 24) (σ_866 25) (σ_866 26) (σ_866 39) (xs (v3 + 1).toNatClampNeg) (xs (v3 + 2).toNatClampNeg)) (fun q_880 => bn (sgs σ_866 [(39, q_880.2)]) (fun σ_880 => if q_866.1 = q_880.1 then bn (v3 + 8) (fun v3n => k18 n σ_880 v3n) else some 0))))))))
noncomputable def f_law_20 (F : Nat) (xs : Nat → Int32) (L : Nat) (k18 : Nat → St → Int32 → Option Int32) (n : Nat) (σ : St) (v3 : Int32) : Option Int32 :=
  ck (v3 + 1) L (ob (f_X11_coin F (σ 1) (σ 18) (xs (v3 + 1).toNatClampNeg)) (fun q_894 => ck (v3 + 1) L (ob (f_X12_coin F (σ 23) (σ 24) (σ 39) (xs (v3 + 1).toNatClampNeg)) (fun q_903 => if (lg_cmp q_894 q_903) = 0 then bn (v3 + 8) (fun v3n => k18 n σ v3n) else some 0))))
noncomputable def f_law_21 (F : Nat) (xs : Nat → Int32) (L : Nat) (k18 : Nat → St → Int32 → Option Int32) (n : Nat) (σ : St) (v3 : Int32) : Option Int32 :=
  ck (v3 + 1) L (ck (v3 + 2) L (ck (v3 + 3) L (ob (f_X11_project F (σ 6) (σ 19) (xs (v3 + 1).toNatClampNeg) (xs (v3 + 2).toNatClampNeg) (xs (v3 + 3).toNatClampNeg)) (fun q_928 => bn (sgs σ [(19, q_928.2)]) (fun σ_928 => ck (v3 + 1) L (ck (v3 + 2) L (ck (v3 + 3) L (ob (f_X12_project F (σ_928 24) (σ_928 40) (xs (v3 + 1).toNatClampNeg) (xs (v3 + 2).toNatClampNeg) (xs (v3 + 3).toNatClampNeg)) (fun q_947 => bn (sgs σ_928 [(40, q_947.2)]) (fun σ_947 => if q_928.1 = q_947.1 then bn (v3 + 8) (fun v3n => k18 n σ_947 v3n) else some 0))))))))))
noncomputable def f_law_22 (F : Nat) (xs : Nat → Int32) (L : Nat) (k18 : Nat → St → Int32 → Option Int32) (n : Nat) (σ : St) (v3 : Int32) : Option Int32 :=
  ck (v3 + 1) L (ob (f_X11_choice F (σ 6) (σ 18) (σ 19) (xs (v3 + 1).toNatClampNeg)) (fun q_961 => ck (v3 + 1) L (ob (f_X12_choice F (σ 24) (σ 39) (σ 40) (xs (v3 + 1).toNatClampNeg)) (fun q_970 => if q_961 = q_970 then bn (v3 + 8) (fun v3n => k18 n σ v3n) else some 0))))
noncomputable def f_law_23 (F : Nat) (xs : Nat → Int32) (L : Nat) (k18 : Nat → St → Int32 → Option Int32) (n : Nat) (σ : St) (v3 : Int32) : Option Int32 :=
  ck (v3 + 1) L (ob (f_X11_build F (σ 6) (σ 18) (σ 19) (xs (v3 + 1).toNatClampNeg)) (fun q_984 => bn (sgs σ [(18, q_984.2.1), (19, q_984.2.2)]) (fun σ_984 => ck (v3 + 1) L (ob (f_X12_build F (σ_984 24) (σ_984 39) (σ_984 40) (xs (v3 + 1).toNatClampNeg)) (fun q_993 => bn (sgs σ_984 [(39, q_993.2.1), (40, q_993.2.2)]) (fun σ_993 => if q_984.1 = q_993.1 then bn (v3 + 8) (fun v3n => k18 n σ_993 v3n) else some 0))))))
noncomputable def f_law_24 (F : Nat) (xs : Nat → Int32) (L : Nat) (k18 : Nat → St → Int32 → Option Int32) (n : Nat) (σ : St) (v3 : Int32) : Option Int32 :=
  ck (v3 + 1) L (ck (v3 + 2) L (ob (f_X11_leaves F (σ 1) (σ 6) (σ 7) (σ 8) (σ 9) (xs (v3 + 1).toNatClampNeg) (xs (v3 + 2).toNatClampNeg)) (fun q_1012 => bn (sgs σ [(8, q_1012.2.1), (9, q_1012.2.2)]) (fun σ_1012 => ck (v3 + 1) L (ck (v3 + 2) L (ob (f_X12_leaves F (σ_1012 23) (σ_1012 24) (σ_1012 25) (σ_1012 41) (xs (v3 + 1).toNatClampNeg) (xs (v3 + 2).toNatClampNeg)) (fun q_1026 => bn (sgs σ_1012 [(25, q_1026.2.1), (41, q_1026.2.2)]) (fun σ_1026 => if q_1012.1 = q_1026.1 then bn (v3 + 8) (fun v3n => k18 n σ_1026 v3n) else some 0))))))))
noncomputable def f_law_25 (F : Nat) (xs : Nat → Int32) (L : Nat) (k18 : Nat → St → Int32 → Option Int32) (n : Nat) (σ : St) (v3 : Int32) : Option Int32 :=
  ck (v3 + 1) L (ck (v3 + 2) L (ob (f_X11_left F (σ 6) (σ 8) (xs (v3 + 1).toNatClampNeg) (xs (v3 + 2).toNatClampNeg)) (fun q_1045 => ck (v3 + 1) L (ck (v3 + 2) L (ob (f_X12_left F (σ 24) (σ 41) (xs (v3 + 1).toNatClampNeg) (xs (v3 + 2).toNatClampNeg)) (fun q_1059 => if q_1045 = q_1059 then bn (v3 + 8) (fun v3n => k18 n σ v3n) else some 0))))))
noncomputable def f_law_26 (F : Nat) (xs : Nat → Int32) (L : Nat) (k18 : Nat → St → Int32 → Option Int32) (n : Nat) (σ : St) (v3 : Int32) : Option Int32 :=
  ck (v3 + 1) L (ob (f_X11_amiss F (σ 8) (σ 9) (σ 10) (σ 13) (xs (v3 + 1).toNatClampNeg)) (fun q_1073 => ck (v3 + 1) L (ob (f_X12_amiss F (σ 25) (σ 32) (σ 41) (xs (v3 + 1).toNatClampNeg)) (fun q_1082 => if q_1073 = q_1082 then bn (v3 + 8) (fun v3n => k18 n σ v3n) else some 0))))
noncomputable def f_law_27 (F : Nat) (xs : Nat → Int32) (L : Nat) (k18 : Nat → St → Int32 → Option Int32) (n : Nat) (σ : St) (v3 : Int32) : Option Int32 :=
  ck (v3 + 1) L (ob (f_X11_silent F (σ 1) (σ 7) (σ 9) (xs (v3 + 1).toNatClampNeg)) (fun q_1096 => ck (v3 + 1) L (ob (f_X12_silent F (σ 23) (σ 25) (σ 32) (xs (v3 + 1).toNatClampNeg)) (fun q_1105 => if q_1096 = q_1105 then bn (v3 + 8) (fun v3n => k18 n σ v3n) else some 0))))
noncomputable def f_law_28 (F : Nat) (xs : Nat → Int32) (L : Nat) (k18 : Nat → St → Int32 → Option Int32) (n : Nat) (σ : St) (v3 : Int32) : Option Int32 :=
  ck (v3 + 1) L (ck (v3 + 2) L (ck (v3 + 3) L (ob (f_X11_wish F (σ 6) (σ 20) (xs (v3 + 1).toNatClampNeg) (xs (v3 + 2).toNatClampNeg) (xs (v3 + 3).toNatClampNeg)) (fun q_1129 => bn (sgs σ [(20, q_1129.2)]) (fun σ_1129 => ck (v3 + 1) L (ck (v3 + 2) L (ck (v3 + 3) L (ob (f_X12_wish F (σ_1129 24) (σ_1129 42) (xs (v3 + 1).toNatClampNeg) (xs (v3 + 2).toNatClampNeg) (xs (v3 + 3).toNatClampNeg)) (fun q_1148 => bn (sgs σ_1129 [(42, q_1148.2)]) (fun σ_1148 => if q_1129.1 = q_1148.1 then bn (v3 + 8) (fun v3n => k18 n σ_1148 v3n) else some 0))))))))))
noncomputable def f_law_29 (F : Nat) (xs : Nat → Int32) (L : Nat) (k18 : Nat → St → Int32 → Option Int32) (n : Nat) (σ : St) (v3 : Int32) : Option Int32 :=
  ob (f_X11_pairing F n (σ 1) (σ 6) (σ 7) (σ 8) (σ 9) (σ 17) (σ 20) (σ 21)) (fun q_1157 => bn (sgs σ [(7, q_1157.2.2.1), (9, q_1157.2.2.2.1), (17, q_1157.2.2.2.2.1), (20, q_1157.2.2.2.2.2.1), (21, q_1157.2.2.2.2.2.2)]) (fun σ_1157 => ob (f_X12_pairing F (σ_1157 23) (σ_1157 24) (σ_1157 25) (σ_1157 38) (σ_1157 41) (σ_1157 42) (σ_1157 43)) (fun q_1161 => bn (sgs σ_1157 [(25, q_1161.2.1), (38, q_1161.2.2.1), (42, q_1161.2.2.2.1), (43, q_1161.2.2.2.2)]) (fun σ_1161 => if q_1157.1 = q_1161.1 then bn (v3 + 8) (fun v3n => k18 (q_1157.2.1) σ_1161 v3n) else some 0))))
noncomputable def f_law_30 (F : Nat) (xs : Nat → Int32) (L : Nat) (k18 : Nat → St → Int32 → Option Int32) (n : Nat) (σ : St) (v3 : Int32) : Option Int32 :=
  ck (v3 + 1) L (ck (v3 + 2) L (ob (f_X11_trial F (σ 6) (σ 22) (xs (v3 + 1).toNatClampNeg) (xs (v3 + 2).toNatClampNeg)) (fun q_1180 => bn (sgs σ [(22, q_1180.2)]) (fun σ_1180 => ck (v3 + 1) L (ck (v3 + 2) L (ob (f_X12_trial F (σ_1180 24) (σ_1180 44) (xs (v3 + 1).toNatClampNeg) (xs (v3 + 2).toNatClampNeg)) (fun q_1194 => bn (sgs σ_1180 [(44, q_1194.2)]) (fun σ_1194 => if q_1180.1 = q_1194.1 then bn (v3 + 8) (fun v3n => k18 n σ_1194 v3n) else some 0))))))))
noncomputable def f_law_31 (F : Nat) (xs : Nat → Int32) (L : Nat) (k18 : Nat → St → Int32 → Option Int32) (n : Nat) (σ : St) (v3 : Int32) : Option Int32 :=
  ck (v3 + 1) L (ck (v3 + 2) L (ob (f_X11_outcome F (σ 22) (xs (v3 + 1).toNatClampNeg) (xs (v3 + 2).toNatClampNeg)) (fun q_1213 => bn (sgs σ [(22, q_1213.2)]) (fun σ_1213 => ck (v3 + 1) L (ck (v3 + 2) L (ob (f_X12_outcome F (σ_1213 24) (σ_1213 44) (xs (v3 + 1).toNatClampNeg) (xs (v3 + 2).toNatClampNeg)) (fun q_1227 => bn (sgs σ_1213 [(44, q_1227.2)]) (fun σ_1227 => if q_1213.1 = q_1227.1 then bn (v3 + 8) (fun v3n => k18 n σ_1227 v3n) else some 0))))))))
noncomputable def f_law_32 (F : Nat) (xs : Nat → Int32) (L : Nat) (k18 : Nat → St → Int32 → Option Int32) (n : Nat) (σ : St) (v3 : Int32) : Option Int32 :=
  ck (v3 + 1) L (ob (f_X11_doubt F (σ 22) (xs (v3 + 1).toNatClampNeg)) (fun q_1241 => ck (v3 + 1) L (ob (f_X12_doubt F (σ 44) (xs (v3 + 1).toNatClampNeg)) (fun q_1250 => bn (sgs σ [(44, q_1250.2)]) (fun σ_1250 => if q_1241 = q_1250.1 then bn (v3 + 8) (fun v3n => k18 n σ_1250 v3n) else some 0)))))
noncomputable def f_law_33 (F : Nat) (xs : Nat → Int32) (L : Nat) (k18 : Nat → St → Int32 → Option Int32) (n : Nat) (σ : St) (v3 : Int32) : Option Int32 :=
  ck (v3 + 1) L (ck (v3 + 2) L (ob (f_X11_of F (σ 7) (σ 9) (xs (v3 + 1).toNatClampNeg) (xs (v3 + 2).toNatClampNeg)) (fun q_1269 => ck (v3 + 1) L (ck (v3 + 2) L (ob (f_X12_of F (σ 25) (σ 32) (xs (v3 + 1).toNatClampNeg) (xs (v3 + 2).toNatClampNeg)) (fun q_1283 => if q_1269 = q_1283 then bn (v3 + 8) (fun v3n => k18 n σ v3n) else some 0))))))
noncomputable def f_law_34 (F : Nat) (xs : Nat → Int32) (L : Nat) (k18 : Nat → St → Int32 → Option Int32) (n : Nat) (σ : St) (v3 : Int32) : Option Int32 :=
  ck (v3 + 1) L (ob (f_X11_count F (σ 1) (σ 2) (σ 4) (σ 6) (σ 7) (σ 8) (σ 9) (σ 10) (σ 11) (σ 13) (σ 16) (σ 19) (σ 20) (xs (v3 + 1).toNatClampNeg)) (fun q_1297 => ck (v3 + 1) L (ob (f_X12_count F (σ 23) (σ 24) (σ 25) (σ 26) (σ 27) (σ 29) (σ 32) (σ 35) (σ 37) (σ 40) (σ 41) (σ 42) (xs (v3 + 1).toNatClampNeg)) (fun q_1306 => if q_1297 = q_1306 then bn (v3 + 8) (fun v3n => k18 n σ v3n) else some 0))))
noncomputable def f_law_b (F : Nat) (xs : Nat → Int32) (L : Nat) (k18 : Nat → St → Int32 → Option Int32) (n : Nat) (σ : St) (v3 : Int32) : Option Int32 :=
  if nI L - 8 < v3 then some 1 else ck v3 L (if ((xs v3.toNatClampNeg) &&& 63) = 0 then f_law_0 F xs L k18 n σ v3 else if ((xs v3.toNatClampNeg) &&& 63) = 1 then f_law_1 F xs L k18 n σ v3 else if ((xs v3.toNatClampNeg) &&& 63) = 2 then f_law_2 F xs L k18 n σ v3 else if ((xs v3.toNatClampNeg) &&& 63) = 3 then f_law_3 F xs L k18 n σ v3 else if ((xs v3.toNatClampNeg) &&& 63) = 4 then f_law_4 F xs L k18 n σ v3 else if ((xs v3.toNatClampNeg) &&& 63) = 5 then f_law_5 F xs L k18 n σ v3 else if ((xs v3.toNatClampNeg) &&& 63) = 6 then f_law_6 F xs L k18 n σ v3 else if ((xs v3.toNatClampNeg) &&& 63) = 7 then f_law_7 F xs L k18 n σ v3 else if ((xs v3.toNatClampNeg) &&& 63) = 8 then f_law_8 F xs L k18 n σ v3 else if ((xs v3.toNatClampNeg) &&& 63) = 9 then f_law_9 F xs L k18 n σ v3 else if ((xs v3.toNatClampNeg) &&& 63) = 10 then f_law_10 F xs L k18 n σ v3 else if ((xs v3.toNatClampNeg) &&& 63) = 11 then f_law_11 F xs L k18 n σ v3 else if ((xs v3.toNatClampNeg) &&& 63) = 12 then f_law_12 F xs L k18 n σ v3 else if ((xs v3.toNatClampNeg) &&& 63) = 13 then f_law_13 F xs L k18 n σ v3 else if ((xs v3.toNatClampNeg) &&& 63) = 14 then f_law_14 F xs L k18 n σ v3 else if ((xs v3.toNatClampNeg) &&& 63) = 15 then f_law_15 F xs L k18 n σ v3 else if ((xs v3.toNatClampNeg) &&& 63) = 16 then f_law_16 F xs L k18 n σ v3 else if ((xs v3.toNatClampNeg) &&& 63) = 17 then f_law_17 F xs L k18 n σ v3 else if ((xs v3.toNatClampNeg) &&& 63) = 18 then f_law_18 F xs L k18 n σ v3 else if ((xs v3.toNatClampNeg) &&& 63) = 19 then f_law_19 F xs L k18 n σ v3 else if ((xs v3.toNatClampNeg) &&& 63) = 20 then f_law_20 F xs L k18 n σ v3 else if ((xs v3.toNatClampNeg) &&& 63) = 21 then f_law_21 F xs L k18 n σ v3 else if ((xs v3.toNatClampNeg) &&& 63) = 22 then f_law_22 F xs L k18 n σ v3 else if ((xs v3.toNatClampNeg) &&& 63) = 23 then f_law_23 F xs L k18 n σ v3 else if ((xs v3.toNatClampNeg) &&& 63) = 24 then f_law_24 F xs L k18 n σ v3 else if ((xs v3.toNatClampNeg) &&& 63) = 25 then f_law_25 F xs L k18 n σ v3 else if ((xs v3.toNatClampNeg) &&& 63) = 26 then f_law_26 F xs L k18 n σ v3 else if ((xs v3.toNatClampNeg) &&& 63) = 27 then f_law_27 F xs L k18 n σ v3 else if ((xs v3.toNatClampNeg) &&& 63) = 28 then f_law_28 F xs L k18 n σ v3 else if ((xs v3.toNatClampNeg) &&& 63) = 29 then f_law_29 F xs L k18 n σ v3 else if ((xs v3.toNatClampNeg) &&& 63) = 30 then f_law_30 F xs L k18 n σ v3 else if ((xs v3.toNatClampNeg) &&& 63) = 31 then f_law_31 F xs L k18 n σ v3 else if ((xs v3.toNatClampNeg) &&& 63) = 32 then f_law_32 F xs L k18 n σ v3 else if ((xs v3.toNatClampNeg) &&& 63) = 33 then f_law_33 F xs L k18 n σ v3 else if ((xs v3.toNatClampNeg) &&& 63) = 34 then f_law_34 F xs L k18 n σ v3 else bn (v3 + 8) (fun v3n => k18 n σ v3n))
noncomputable def f_law (F : Nat) (xs : Nat → Int32) (L : Nat) (fu : Nat) : Nat → St → Int32 → Option Int32 := Nat.rec (motive := fun _ => Nat → St → Int32 → Option Int32) (fun _ _ _ => none) (fun _ ih => f_law_b F xs L ih) fu
set_option maxRecDepth 100000 in
set_option maxHeartbeats 4000000 in
theorem law_0 {p : Program} {e : Env} {s : State} {m : MethodId} {below : List Frame} {meth : Method} {c : Code} (l : Launch) {b L : Nat} {xs : Nat → Int32} (hL : L ≤ 4096) (C0 : lw_At p s m meth c b L xs) (D : va_G) (y : Nat → ClassId) (hKK : KK s.heap D y s) (F : Nat) (k18 : Nat → St → Int32 → Option Int32) (hk18 : ∀ (k n : Nat) (κ : Nat → Nat) (σ : St) (v3 : Int32) (H : Heap) (locs : List Loc) (ls : Array Slot), v3 = nI (8 * k) → 8 * k ≤ 4096 → N0 ≤ n → IV s.heap D y n n κ σ locs H → lv_has ls 4 [(0, .ref b), (1, .ref (s.heap.size + 0)), (2, .ref (s.heap.size + 91)), (3, .int v3)] → k18 n σ v3 = some 1 → W p l e room_1 s m #[Value.ref b] below meth c H locs (174 + 6 * k) (257216 + 262 * k) (lw_Z below #[Value.ref b] s) (F0 m 18 ls [])) (k n : Nat) (κ : Nat → Nat) (σ : St) (v3 : Int32) (H : Heap) (locs : List Loc) (ls : Array Slot) (hv : v3 = nI (8 * k)) (hk8 : 8 * k + 8 ≤ 4096) (hN : N0 ≤ n) (hI : IV s.heap D y n n κ σ locs H) (hl : lv_has ls 4 [(0, .ref b), (1, .ref (s.heap.size + 0)), (2, .ref (s.heap.size + 91)), (3, .int v3)]) (h : f_law_0 F xs L k18 n σ v3 = some 1) : W p l e room_1 s m #[Value.ref b] below meth c H locs (174 + 6 * k) (257216 + 262 * k) (lw_Z below #[Value.ref b] s) (F0 m 188 ls []) := by
  obtain ⟨hx, hb, hr, hml, hown, hts0, hX, hbl, hlocks, hgv⟩ := id C0
  have hbA : ¬ (fun q : Nat => s.heap.size ≤ q) b := Nat.not_le.mpr hbl
  have hts : ∀ w ∈ gtb, w.before #[Value.ref b] s = true := fun w hw => hts0 w (List.mem_filter.mp hw).1
  have hown : s.vm.findClass RL = some m.cls := hown
  unfold f_law_0 at h
  refine lv_aload_n hx hb dL_law_188 rfl (lv_at hl 1 rfl) ?_
  refine lv_aload_n hx hb dL_law_189 rfl (lv_at hl 0 rfl) ?_
  refine lv_iload_n hx hb dL_law_190 rfl (lv_at hl 3 rfl) ?_
  refine lv_iconst (v := 1) hx hb dL_law_191 (by decide) ?_
  refine lv_iadd hx hb dL_law_192 ?_
  obtain ⟨hin_, h⟩ := ck_e h
  refine va_sld hx hb hX hbl hbA hI.S hin_ dL_law_193 ?_
  refine lv_aload_n hx hb dL_law_194 rfl (lv_at hl 0 rfl) ?_
  refine lv_iload_n hx hb dL_law_195 rfl (lv_at hl 3 rfl) ?_
  refine lv_iconst (v := 2) hx hb dL_law_196 (by decide) ?_
  refine lv_iadd hx hb dL_law_197 ?_
  obtain ⟨hin_, h⟩ := ck_e h
  refine va_sld hx hb hX hbl hbA hI.S hin_ dL_law_198 ?_
  obtain ⟨q_199, hq_199, h⟩ := ob_e h
  refine r_callV (As := [.int (xs (v3 + 1).toNatClampNeg), .int (xs (v3 + 2).toNatClampNeg)]) (rest := []) (cells' := 174 + 6 * k) (slots' := 257216 + 262 * k) hx hb hml hts hown (c_X11_village l s.heap D y F n κ σ hN (xs (v3 + 1).toNatClampNeg) (xs (v3 + 2).toNatClampNeg) (σ 6) rfl q_199 hq_199) cal_X11_village im_X11_village se_X11_village lm_L_13 ⟨Nat.le_of_ble_eq_true rfl, Nat.le_of_ble_eq_true rfl⟩ hI.nil hKK (r_recv hKK hI (hE11 s.heap.size y) rfl (lc0 hN) (kc0 hI.1.2.2.2.2)) rfl hl.1 hI.2.2 rfl (Nat.le_of_ble_eq_true rfl) dL_law_199 ⟨by show 174 + 6 * k + 0 ≤ 600000; omega, by show 257216 + 262 * k + 0 ≤ 7302250; omega⟩ rfl rfl rfl (fun H locs hB hlo => ?_)
  obtain ⟨σ, hB, en6, ho⟩ := hB
  obtain ⟨σ_199, qs, h⟩ := bn_e h
  have es : σ = σ_199 := (sgs_eq (l := [(6, q_199.2)]) (by intro z hz; rw [List.mem_singleton.mp hz]; exact en6) ho).trans qs.symm
  rw [es] at hB
  have hI := hB.re hlo
  refine lv_aload_n hx hb dL_law_202 rfl (lv_at hl 2 rfl) ?_
  refine lv_aload_n hx hb dL_law_203 rfl (lv_at hl 0 rfl) ?_
  refine lv_iload_n hx hb dL_law_204 rfl (lv_at hl 3 rfl) ?_
  refine lv_iconst (v := 1) hx hb dL_law_205 (by decide) ?_
  refine lv_iadd hx hb dL_law_206 ?_
  obtain ⟨hin_, h⟩ := ck_e h
  refine va_sld hx hb hX hbl hbA hI.S hin_ dL_law_207 ?_
  refine lv_aload_n hx hb dL_law_208 rfl (lv_at hl 0 rfl) ?_
  refine lv_iload_n hx hb dL_law_209 rfl (lv_at hl 3 rfl) ?_
  refine lv_iconst (v := 2) hx hb dL_law_210 (by decide) ?_
  refine lv_iadd hx hb dL_law_211 ?_
  obtain ⟨hin_, h⟩ := ck_e h
  refine va_sld hx hb hX hbl hbA hI.S hin_ dL_law_212 ?_
  obtain ⟨q_213, hq_213, h⟩ := ob_e h
  refine r_callV (As := [.int (xs (v3 + 1).toNatClampNeg), .int (xs (v3 + 2).toNatClampNeg)]) (rest := [.int (q_199.1)]) (cells' := 174 + 6 * k) (slots' := 257216 + 262 * k) hx hb hml hts hown (c_X12_village l s.heap D y F n κ σ_199 hN (xs (v3 + 1).toNatClampNeg) (xs (v3 + 2).toNatClampNeg) (σ_199 24) rfl q_213 hq_213) cal_X12_village im_X12_village se_X12_village lm_L_17 ⟨Nat.le_of_ble_eq_true rfl, Nat.le_of_ble_eq_true rfl⟩ hI.nil hKK (r_recv hKK hI (hE12 s.heap.size y) rfl (lc91 hN) (kc91 hI.1.2.2.2.2)) rfl hl.1 hI.2.2 rfl (Nat.le_of_ble_eq_true rfl) dL_law_213 ⟨by show 174 + 6 * k + 0 ≤ 600000; omega, by show 257216 + 262 * k + 0 ≤ 7302250; omega⟩ rfl rfl rfl (fun H locs hB hlo => ?_)
  obtain ⟨σ, hB, en24, ho⟩ := hB
  obtain ⟨σ_213, qs, h⟩ := bn_e h
  have es : σ = σ_213 := (sgs_eq (l := [(24, q_213.2)]) (by intro z hz; rw [List.mem_singleton.mp hz]; exact en24) ho).trans qs.symm
  rw [es] at hB
  have hI := hB.re hlo
  refine lv_icmp_eq (tgt := 1314) hx hb dL_law_216 (by decide) (fun hc => ?_) (fun hc => ?_)
  · replace h := ite_t hc h
    obtain ⟨v3n, qq, h⟩ := bn_e h
    refine lv_iinc (v := v3n) (lv' := [(3, .int v3n), (0, .ref b), (1, .ref (s.heap.size + 0)), (2, .ref (s.heap.size + 91))]) hx hb dL_law_1314 hl (k := 3) rfl (by rw [qq]; rfl) (by decide) rfl (fun ls hl => ?_)
    refine lv_goto (tgt := 18) hx hb dL_law_1317 (by decide) ?_
    refine W.widen (k := 174 + 6 * (k + 1)) (n := 257216 + 262 * (k + 1)) (by omega) (by omega) ?_
    exact hk18 (k + 1) n κ σ_213 v3n H locs ls (lawv hv qq) (by omega) hN hI (lv_sub hl [1, 2, 3, 0] rfl) h
  · replace h := ite_f hc h
    refine lv_iconst (v := 0) hx hb dL_law_219 (by decide) ?_
    exact absurd (Option.some.inj h) (by decide)
set_option maxRecDepth 100000 in
set_option maxHeartbeats 4000000 in
theorem law_1 {p : Program} {e : Env} {s : State} {m : MethodId} {below : List Frame} {meth : Method} {c : Code} (l : Launch) {b L : Nat} {xs : Nat → Int32} (hL : L ≤ 4096) (C0 : lw_At p s m meth c b L xs) (D : va_G) (y : Nat → ClassId) (hKK : KK s.heap D y s) (F : Nat) (k18 : Nat → St → Int32 → Option Int32) (hk18 : ∀ (k n : Nat) (κ : Nat → Nat) (σ : St) (v3 : Int32) (H : Heap) (locs : List Loc) (ls : Array Slot), v3 = nI (8 * k) → 8 * k ≤ 4096 → N0 ≤ n → IV s.heap D y n n κ σ locs H → lv_has ls 4 [(0, .ref b), (1, .ref (s.heap.size + 0)), (2, .ref (s.heap.size + 91)), (3, .int v3)] → k18 n σ v3 = some 1 → W p l e room_1 s m #[Value.ref b] below meth c H locs (174 + 6 * k) (257216 + 262 * k) (lw_Z below #[Value.ref b] s) (F0 m 18 ls [])) (k n : Nat) (κ : Nat → Nat) (σ : St) (v3 : Int32) (H : Heap) (locs : List Loc) (ls : Array Slot) (hv : v3 = nI (8 * k)) (hk8 : 8 * k + 8 ≤ 4096) (hN : N0 ≤ n) (hI : IV s.heap D y n n κ σ locs H) (hl : lv_has ls 4 [(0, .ref b), (1, .ref (s.heap.size + 0)), (2, .ref (s.heap.size + 91)), (3, .int v3)]) (h : f_law_1 F xs L k18 n σ v3 = some 1) : W p l e room_1 s m #[Value.ref b] below meth c H locs (174 + 6 * k) (257216 + 262 * k) (lw_Z below #[Value.ref b] s) (F0 m 221 ls []) := by
  obtain ⟨hx, hb, hr, hml, hown, hts0, hX, hbl, hlocks, hgv⟩ := id C0
  have hbA : ¬ (fun q : Nat => s.heap.size ≤ q) b := Nat.not_le.mpr hbl
  have hts : ∀ w ∈ gtb, w.before #[Value.ref b] s = true := fun w hw => hts0 w (List.mem_filter.mp hw).1
  have hown : s.vm.findClass RL = some m.cls := hown
  unfold f_law_1 at h
  refine lv_aload_n hx hb dL_law_221 rfl (lv_at hl 1 rfl) ?_
  refine lv_aload_n hx hb dL_law_222 rfl (lv_at hl 0 rfl) ?_
  refine lv_iload_n hx hb dL_law_223 rfl (lv_at hl 3 rfl) ?_
  refine lv_iconst (v := 1) hx hb dL_law_224 (by decide) ?_
  refine lv_iadd hx hb dL_law_225 ?_
  obtain ⟨hin_, h⟩ := ck_e h
  refine va_sld hx hb hX hbl hbA hI.S hin_ dL_law_226 ?_
  obtain ⟨q_227, hq_227, h⟩ := ob_e h
  refine r_callV (As := [.int (xs (v3 + 1).toNatClampNeg)]) (rest := []) (cells' := 174 + 6 * k) (slots' := 257216 + 262 * k) hx hb hml hts hown (c_X11_giver l s.heap D y F n κ σ hN (xs (v3 + 1).toNatClampNeg) (σ 6) rfl q_227 hq_227) cal_X11_giver im_X11_giver se_X11_giver lm_L_18 ⟨Nat.le_of_ble_eq_true rfl, Nat.le_of_ble_eq_true rfl⟩ hI.nil hKK (r_recv hKK hI (hE11 s.heap.size y) rfl (lc0 hN) (kc0 hI.1.2.2.2.2)) rfl hl.1 hI.2.2 rfl (Nat.le_of_ble_eq_true rfl) dL_law_227 ⟨by show 174 + 6 * k + 0 ≤ 600000; omega, by show 257216 + 262 * k + 0 ≤ 7302250; omega⟩ rfl rfl rfl (fun H locs hB hlo => ?_)
  obtain ⟨σ, hB, en6, ho⟩ := hB
  obtain ⟨σ_227, qs, h⟩ := bn_e h
  have es : σ = σ_227 := (sgs_eq (l := [(6, q_227.2)]) (by intro z hz; rw [List.mem_singleton.mp hz]; exact en6) ho).trans qs.symm
  rw [es] at hB
  have hI := hB.re hlo
  refine lv_aload_n hx hb dL_law_230 rfl (lv_at hl 2 rfl) ?_
  refine lv_aload_n hx hb dL_law_231 rfl (lv_at hl 0 rfl) ?_
  refine lv_iload_n hx hb dL_law_232 rfl (lv_at hl 3 rfl) ?_
  refine lv_iconst (v := 1) hx hb dL_law_233 (by decide) ?_
  refine lv_iadd hx hb dL_law_234 ?_
  obtain ⟨hin_, h⟩ := ck_e h
  refine va_sld hx hb hX hbl hbA hI.S hin_ dL_law_235 ?_
  obtain ⟨q_236, hq_236, h⟩ := ob_e h
  refine r_callV (As := [.int (xs (v3 + 1).toNatClampNeg)]) (rest := [.int (q_227.1)]) (cells' := 174 + 6 * k) (slots' := 257216 + 262 * k) hx hb hml hts hown (c_X12_giver l s.heap D y F n κ σ_227 hN (xs (v3 + 1).toNatClampNeg) (σ_227 24) rfl q_236 hq_236) cal_X12_giver im_X12_giver se_X12_giver lm_L_22 ⟨Nat.le_of_ble_eq_true rfl, Nat.le_of_ble_eq_true rfl⟩ hI.nil hKK (r_recv hKK hI (hE12 s.heap.size y) rfl (lc91 hN) (kc91 hI.1.2.2.2.2)) rfl hl.1 hI.2.2 rfl (Nat.le_of_ble_eq_true rfl) dL_law_236 ⟨by show 174 + 6 * k + 0 ≤ 600000; omega, by show 257216 + 262 * k + 0 ≤ 7302250; omega⟩ rfl rfl rfl (fun H locs hB hlo => ?_)
  obtain ⟨σ, hB, en24, ho⟩ := hB
  obtain ⟨σ_236, qs, h⟩ := bn_e h
  have es : σ = σ_236 := (sgs_eq (l := [(24, q_236.2)]) (by intro z hz; rw [List.mem_singleton.mp hz]; exact en24) ho).trans qs.symm
  rw [es] at hB
  have hI := hB.re hlo
  refine lv_icmp_eq (tgt := 1314) hx hb dL_law_239 (by decide) (fun hc => ?_) (fun hc => ?_)
  · replace h := ite_t hc h
    obtain ⟨v3n, qq, h⟩ := bn_e h
    refine lv_iinc (v := v3n) (lv' := [(3, .int v3n), (0, .ref b), (1, .ref (s.heap.size + 0)), (2, .ref (s.heap.size + 91))]) hx hb dL_law_1314 hl (k := 3) rfl (by rw [qq]; rfl) (by decide) rfl (fun ls hl => ?_)
    refine lv_goto (tgt := 18) hx hb dL_law_1317 (by decide) ?_
    refine W.widen (k := 174 + 6 * (k + 1)) (n := 257216 + 262 * (k + 1)) (by omega) (by omega) ?_
    exact hk18 (k + 1) n κ σ_236 v3n H locs ls (lawv hv qq) (by omega) hN hI (lv_sub hl [1, 2, 3, 0] rfl) h
  · replace h := ite_f hc h
    refine lv_iconst (v := 0) hx hb dL_law_242 (by decide) ?_
    exact absurd (Option.some.inj h) (by decide)
set_option maxRecDepth 100000 in
set_option maxHeartbeats 4000000 in
theorem law_2 {p : Program} {e : Env} {s : State} {m : MethodId} {below : List Frame} {meth : Method} {c : Code} (l : Launch) {b L : Nat} {xs : Nat → Int32} (hL : L ≤ 4096) (C0 : lw_At p s m meth c b L xs) (D : va_G) (y : Nat → ClassId) (hKK : KK s.heap D y s) (F : Nat) (k18 : Nat → St → Int32 → Option Int32) (hk18 : ∀ (k n : Nat) (κ : Nat → Nat) (σ : St) (v3 : Int32) (H : Heap) (locs : List Loc) (ls : Array Slot), v3 = nI (8 * k) → 8 * k ≤ 4096 → N0 ≤ n → IV s.heap D y n n κ σ locs H → lv_has ls 4 [(0, .ref b), (1, .ref (s.heap.size + 0)), (2, .ref (s.heap.size + 91)), (3, .int v3)] → k18 n σ v3 = some 1 → W p l e room_1 s m #[Value.ref b] below meth c H locs (174 + 6 * k) (257216 + 262 * k) (lw_Z below #[Value.ref b] s) (F0 m 18 ls [])) (k n : Nat) (κ : Nat → Nat) (σ : St) (v3 : Int32) (H : Heap) (locs : List Loc) (ls : Array Slot) (hv : v3 = nI (8 * k)) (hk8 : 8 * k + 8 ≤ 4096) (hN : N0 ≤ n) (hI : IV s.heap D y n n κ σ locs H) (hl : lv_has ls 4 [(0, .ref b), (1, .ref (s.heap.size + 0)), (2, .ref (s.heap.size + 91)), (3, .int v3)]) (h : f_law_2 F xs L k18 n σ v3 = some 1) : W p l e room_1 s m #[Value.ref b] below meth c H locs (174 + 6 * k) (257216 + 262 * k) (lw_Z below #[Value.ref b] s) (F0 m 244 ls []) := by
  obtain ⟨hx, hb, hr, hml, hown, hts0, hX, hbl, hlocks, hgv⟩ := id C0
  have hbA : ¬ (fun q : Nat => s.heap.size ≤ q) b := Nat.not_le.mpr hbl
  have hts : ∀ w ∈ gtb, w.before #[Value.ref b] s = true := fun w hw => hts0 w (List.mem_filter.mp hw).1
  have hown : s.vm.findClass RL = some m.cls := hown
  unfold f_law_2 at h
  refine lv_aload_n hx hb dL_law_244 rfl (lv_at hl 1 rfl) ?_
  refine lv_aload_n hx hb dL_law_245 rfl (lv_at hl 0 rfl) ?_
  refine lv_iload_n hx hb dL_law_246 rfl (lv_at hl 3 rfl) ?_
  refine lv_iconst (v := 1) hx hb dL_law_247 (by decide) ?_
  refine lv_iadd hx hb dL_law_248 ?_
  obtain ⟨hin_, h⟩ := ck_e h
  refine va_sld hx hb hX hbl hbA hI.S hin_ dL_law_249 ?_
  refine lv_aload_n hx hb dL_law_250 rfl (lv_at hl 0 rfl) ?_
  refine lv_iload_n hx hb dL_law_251 rfl (lv_at hl 3 rfl) ?_
  refine lv_iconst (v := 2) hx hb dL_law_252 (by decide) ?_
  refine lv_iadd hx hb dL_law_253 ?_
  obtain ⟨hin_, h⟩ := ck_e h
  refine va_sld hx hb hX hbl hbA hI.S hin_ dL_law_254 ?_
  refine lv_aload_n hx hb dL_law_255 rfl (lv_at hl 0 rfl) ?_
  refine lv_iload_n hx hb dL_law_256 rfl (lv_at hl 3 rfl) ?_
  refine lv_iconst (v := 3) hx hb dL_law_257 (by decide) ?_
  refine lv_iadd hx hb dL_law_258 ?_
  obtain ⟨hin_, h⟩ := ck_e h
  refine va_sld hx hb hX hbl hbA hI.S hin_ dL_law_259 ?_
  refine lv_aload_n hx hb dL_law_260 rfl (lv_at hl 0 rfl) ?_
  refine lv_iload_n hx hb dL_law_261 rfl (lv_at hl 3 rfl) ?_
  refine lv_iconst (v := 4) hx hb dL_law_262 (by decide) ?_
  refine lv_iadd hx hb dL_law_263 ?_
  obtain ⟨hin_, h⟩ := ck_e h
  refine va_sld hx hb hX hbl hbA hI.S hin_ dL_law_264 ?_
  obtain ⟨q_265, hq_265, h⟩ := ob_e h
  refine r_callV (As := [.int (xs (v3 + 1).toNatClampNeg), .int (xs (v3 + 2).toNatClampNeg), .int (xs (v3 + 3).toNatClampNeg), .int (xs (v3 + 4).toNatClampNeg)]) (rest := []) (cells' := 174 + 6 * k) (slots' := 257216 + 262 * k) hx hb hml hts hown (c_X11_child l s.heap D y F n κ σ hN (xs (v3 + 1).toNatClampNeg) (xs (v3 + 2).toNatClampNeg) (xs (v3 + 3).toNatClampNeg) (xs (v3 + 4).toNatClampNeg) (σ 6) rfl q_265 hq_265) cal_X11_child im_X11_child se_X11_child lm_L_23 ⟨Nat.le_of_ble_eq_true rfl, Nat.le_of_ble_eq_true rfl⟩ hI.nil hKK (r_recv hKK hI (hE11 s.heap.size y) rfl (lc0 hN) (kc0 hI.1.2.2.2.2)) rfl hl.1 hI.2.2 rfl (Nat.le_of_ble_eq_true rfl) dL_law_265 ⟨by show 174 + 6 * k + 0 ≤ 600000; omega, by show 257216 + 262 * k + 0 ≤ 7302250; omega⟩ rfl rfl rfl (fun H locs hB hlo => ?_)
  obtain ⟨σ, hB, en6, ho⟩ := hB
  obtain ⟨σ_265, qs, h⟩ := bn_e h
  have es : σ = σ_265 := (sgs_eq (l := [(6, q_265.2)]) (by intro z hz; rw [List.mem_singleton.mp hz]; exact en6) ho).trans qs.symm
  rw [es] at hB
  have hI := hB.re hlo
  refine lv_aload_n hx hb dL_law_268 rfl (lv_at hl 2 rfl) ?_
  refine lv_aload_n hx hb dL_law_269 rfl (lv_at hl 0 rfl) ?_
  refine lv_iload_n hx hb dL_law_270 rfl (lv_at hl 3 rfl) ?_
  refine lv_iconst (v := 1) hx hb dL_law_271 (by decide) ?_
  refine lv_iadd hx hb dL_law_272 ?_
  obtain ⟨hin_, h⟩ := ck_e h
  refine va_sld hx hb hX hbl hbA hI.S hin_ dL_law_273 ?_
  refine lv_aload_n hx hb dL_law_274 rfl (lv_at hl 0 rfl) ?_
  refine lv_iload_n hx hb dL_law_275 rfl (lv_at hl 3 rfl) ?_
  refine lv_iconst (v := 2) hx hb dL_law_276 (by decide) ?_
  refine lv_iadd hx hb dL_law_277 ?_
  obtain ⟨hin_, h⟩ := ck_e h
  refine va_sld hx hb hX hbl hbA hI.S hin_ dL_law_278 ?_
  refine lv_aload_n hx hb dL_law_279 rfl (lv_at hl 0 rfl) ?_
  refine lv_iload_n hx hb dL_law_280 rfl (lv_at hl 3 rfl) ?_
  refine lv_iconst (v := 3) hx hb dL_law_281 (by decide) ?_
  refine lv_iadd hx hb dL_law_282 ?_
  obtain ⟨hin_, h⟩ := ck_e h
  refine va_sld hx hb hX hbl hbA hI.S hin_ dL_law_283 ?_
  refine lv_aload_n hx hb dL_law_284 rfl (lv_at hl 0 rfl) ?_
  refine lv_iload_n hx hb dL_law_285 rfl (lv_at hl 3 rfl) ?_
  refine lv_iconst (v := 4) hx hb dL_law_286 (by decide) ?_
  refine lv_iadd hx hb dL_law_287 ?_
  obtain ⟨hin_, h⟩ := ck_e h
  refine va_sld hx hb hX hbl hbA hI.S hin_ dL_law_288 ?_
  obtain ⟨q_289, hq_289, h⟩ := ob_e h
  refine r_callV (As := [.int (xs (v3 + 1).toNatClampNeg), .int (xs (v3 + 2).toNatClampNeg), .int (xs (v3 + 3).toNatClampNeg), .int (xs (v3 + 4).toNatClampNeg)]) (rest := [.int (q_265.1)]) (cells' := 174 + 6 * k) (slots' := 257216 + 262 * k) hx hb hml hts hown (c_X12_child l s.heap D y F n κ σ_265 hN (xs (v3 + 1).toNatClampNeg) (xs (v3 + 2).toNatClampNeg) (xs (v3 + 3).toNatClampNeg) (xs (v3 + 4).toNatClampNeg) (σ_265 24) rfl q_289 hq_289) cal_X12_child im_X12_child se_X12_child lm_L_27 ⟨Nat.le_of_ble_eq_true rfl, Nat.le_of_ble_eq_true rfl⟩ hI.nil hKK (r_recv hKK hI (hE12 s.heap.size y) rfl (lc91 hN) (kc91 hI.1.2.2.2.2)) rfl hl.1 hI.2.2 rfl (Nat.le_of_ble_eq_true rfl) dL_law_289 ⟨by show 174 + 6 * k + 0 ≤ 600000; omega, by show 257216 + 262 * k + 0 ≤ 7302250; omega⟩ rfl rfl rfl (fun H locs hB hlo => ?_)
  obtain ⟨σ, hB, en24, ho⟩ := hB
  obtain ⟨σ_289, qs, h⟩ := bn_e h
  have es : σ = σ_289 := (sgs_eq (l := [(24, q_289.2)]) (by intro z hz; rw [List.mem_singleton.mp hz]; exact en24) ho).trans qs.symm
  rw [es] at hB
  have hI := hB.re hlo
  refine lv_icmp_eq (tgt := 1314) hx hb dL_law_292 (by decide) (fun hc => ?_) (fun hc => ?_)
  · replace h := ite_t hc h
    obtain ⟨v3n, qq, h⟩ := bn_e h
    refine lv_iinc (v := v3n) (lv' := [(3, .int v3n), (0, .ref b), (1, .ref (s.heap.size + 0)), (2, .ref (s.heap.size + 91))]) hx hb dL_law_1314 hl (k := 3) rfl (by rw [qq]; rfl) (by decide) rfl (fun ls hl => ?_)
    refine lv_goto (tgt := 18) hx hb dL_law_1317 (by decide) ?_
    refine W.widen (k := 174 + 6 * (k + 1)) (n := 257216 + 262 * (k + 1)) (by omega) (by omega) ?_
    exact hk18 (k + 1) n κ σ_289 v3n H locs ls (lawv hv qq) (by omega) hN hI (lv_sub hl [1, 2, 3, 0] rfl) h
  · replace h := ite_f hc h
    refine lv_iconst (v := 0) hx hb dL_law_295 (by decide) ?_
    exact absurd (Option.some.inj h) (by decide)
set_option maxRecDepth 100000 in
set_option maxHeartbeats 4000000 in
theorem law_3 {p : Program} {e : Env} {s : State} {m : MethodId} {below : List Frame} {meth : Method} {c : Code} (l : Launch) {b L : Nat} {xs : Nat → Int32} (hL : L ≤ 4096) (C0 : lw_At p s m meth c b L xs) (D : va_G) (y : Nat → ClassId) (hKK : KK s.heap D y s) (F : Nat) (k18 : Nat → St → Int32 → Option Int32) (hk18 : ∀ (k n : Nat) (κ : Nat → Nat) (σ : St) (v3 : Int32) (H : Heap) (locs : List Loc) (ls : Array Slot), v3 = nI (8 * k) → 8 * k ≤ 4096 → N0 ≤ n → IV s.heap D y n n κ σ locs H → lv_has ls 4 [(0, .ref b), (1, .ref (s.heap.size + 0)), (2, .ref (s.heap.size + 91)), (3, .int v3)] → k18 n σ v3 = some 1 → W p l e room_1 s m #[Value.ref b] below meth c H locs (174 + 6 * k) (257216 + 262 * k) (lw_Z below #[Value.ref b] s) (F0 m 18 ls [])) (k n : Nat) (κ : Nat → Nat) (σ : St) (v3 : Int32) (H : Heap) (locs : List Loc) (ls : Array Slot) (hv : v3 = nI (8 * k)) (hk8 : 8 * k + 8 ≤ 4096) (hN : N0 ≤ n) (hI : IV s.heap D y n n κ σ locs H) (hl : lv_has ls 4 [(0, .ref b), (1, .ref (s.heap.size + 0)), (2, .ref (s.heap.size + 91)), (3, .int v3)]) (h : f_law_3 F xs L k18 n σ v3 = some 1) : W p l e room_1 s m #[Value.ref b] below meth c H locs (174 + 6 * k) (257216 + 262 * k) (lw_Z below #[Value.ref b] s) (F0 m 297 ls []) := by
  obtain ⟨hx, hb, hr, hml, hown, hts0, hX, hbl, hlocks, hgv⟩ := id C0
  have hbA : ¬ (fun q : Nat => s.heap.size ≤ q) b := Nat.not_le.mpr hbl
  have hts : ∀ w ∈ gtb, w.before #[Value.ref b] s = true := fun w hw => hts0 w (List.mem_filter.mp hw).1
  have hown : s.vm.findClass RL = some m.cls := hown
  unfold f_law_3 at h
  refine lv_aload_n hx hb dL_law_297 rfl (lv_at hl 1 rfl) ?_
  refine lv_aload_n hx hb dL_law_298 rfl (lv_at hl 0 rfl) ?_
  refine lv_iload_n hx hb dL_law_299 rfl (lv_at hl 3 rfl) ?_
  refine lv_iconst (v := 1) hx hb dL_law_300 (by decide) ?_
  refine lv_iadd hx hb dL_law_301 ?_
  obtain ⟨hin_, h⟩ := ck_e h
  refine va_sld hx hb hX hbl hbA hI.S hin_ dL_law_302 ?_
  refine lv_aload_n hx hb dL_law_303 rfl (lv_at hl 0 rfl) ?_
  refine lv_iload_n hx hb dL_law_304 rfl (lv_at hl 3 rfl) ?_
  refine lv_iconst (v := 2) hx hb dL_law_305 (by decide) ?_
  refine lv_iadd hx hb dL_law_306 ?_
  obtain ⟨hin_, h⟩ := ck_e h
  refine va_sld hx hb hX hbl hbA hI.S hin_ dL_law_307 ?_
  obtain ⟨q_308, hq_308, h⟩ := ob_e h
  refine r_callV (As := [.int (xs (v3 + 1).toNatClampNeg), .int (xs (v3 + 2).toNatClampNeg)]) (rest := []) (cells' := 174 + 6 * k + 1) (slots' := 257216 + 262 * k + 9) hx hb hml hts hown (c_X11_pair l s.heap D y F n κ σ hN (xs (v3 + 1).toNatClampNeg) (xs (v3 + 2).toNatClampNeg) (σ 1) rfl (σ 6) rfl (σ 7) rfl (σ 8) rfl (σ 9) rfl q_308 hq_308) cal_X11_pair im_X11_pair se_X11_pair lm_L_28 ⟨Nat.le_of_ble_eq_true rfl, Nat.le_of_ble_eq_true rfl⟩ hI.nil hKK (r_recv hKK hI (hE11 s.heap.size y) rfl (lc0 hN) (kc0 hI.1.2.2.2.2)) rfl hl.1 hI.2.2 rfl (Nat.le_of_ble_eq_true rfl) dL_law_308 ⟨by show 174 + 6 * k + 1 ≤ 600000; omega, by show 257216 + 262 * k + 9 ≤ 7302250; omega⟩ rfl rfl rfl (fun H locs hB hlo => ?_)
  obtain ⟨κ, σ, hB, hn2, en7, en9, ho⟩ := hB
  have hN := Nat.le_trans hN hn2
  obtain ⟨σ_308, qs, h⟩ := bn_e h
  have es : σ = σ_308 := (sgs_eq (l := [(7, q_308.2.2.1), (9, q_308.2.2.2)]) (by intro z hz; simp only [List.mem_cons, List.not_mem_nil, or_false] at hz; rcases hz with rfl | rfl <;> first | exact en7 | exact en9) ho).trans qs.symm
  rw [es] at hB
  have hI := hB.re hlo
  refine lv_aload_n hx hb dL_law_311 rfl (lv_at hl 2 rfl) ?_
  refine lv_aload_n hx hb dL_law_312 rfl (lv_at hl 0 rfl) ?_
  refine lv_iload_n hx hb dL_law_313 rfl (lv_at hl 3 rfl) ?_
  refine lv_iconst (v := 1) hx hb dL_law_314 (by decide) ?_
  refine lv_iadd hx hb dL_law_315 ?_
  obtain ⟨hin_, h⟩ := ck_e h
  refine va_sld hx hb hX hbl hbA hI.S hin_ dL_law_316 ?_
  refine lv_aload_n hx hb dL_law_317 rfl (lv_at hl 0 rfl) ?_
  refine lv_iload_n hx hb dL_law_318 rfl (lv_at hl 3 rfl) ?_
  refine lv_iconst (v := 2) hx hb dL_law_319 (by decide) ?_
  refine lv_iadd hx hb dL_law_320 ?_
  obtain ⟨hin_, h⟩ := ck_e h
  refine va_sld hx hb hX hbl hbA hI.S hin_ dL_law_321 ?_
  obtain ⟨q_322, hq_322, h⟩ := ob_e h
  refine r_callV (As := [.int (xs (v3 + 1).toNatClampNeg), .int (xs (v3 + 2).toNatClampNeg)]) (rest := [.int (q_308.1)]) (cells' := 174 + 6 * k + 1) (slots' := 257216 + 262 * k + 9) hx hb hml hts hown (c_X12_pair l s.heap D y F (q_308.2.1) κ σ_308 hN (xs (v3 + 1).toNatClampNeg) (xs (v3 + 2).toNatClampNeg) (σ_308 23) rfl (σ_308 24) rfl (σ_308 25) rfl (σ_308 41) rfl q_322 hq_322) cal_X12_pair im_X12_pair se_X12_pair lm_L_31 ⟨Nat.le_of_ble_eq_true rfl, Nat.le_of_ble_eq_true rfl⟩ hI.nil hKK (r_recv hKK hI (hE12 s.heap.size y) rfl (lc91 hN) (kc91 hI.1.2.2.2.2)) rfl hl.1 hI.2.2 rfl (Nat.le_of_ble_eq_true rfl) dL_law_322 ⟨by show 174 + 6 * k + 1 + 0 ≤ 600000; omega, by show 257216 + 262 * k + 9 + 0 ≤ 7302250; omega⟩ rfl rfl rfl (fun H locs hB hlo => ?_)
  obtain ⟨σ, hB, en25, ho⟩ := hB
  obtain ⟨σ_322, qs, h⟩ := bn_e h
  have es : σ = σ_322 := (sgs_eq (l := [(25, q_322.2)]) (by intro z hz; rw [List.mem_singleton.mp hz]; exact en25) ho).trans qs.symm
  rw [es] at hB
  have hI := hB.re hlo
  refine lv_icmp_eq (tgt := 1314) hx hb dL_law_325 (by decide) (fun hc => ?_) (fun hc => ?_)
  · replace h := ite_t hc h
    obtain ⟨v3n, qq, h⟩ := bn_e h
    refine lv_iinc (v := v3n) (lv' := [(3, .int v3n), (0, .ref b), (1, .ref (s.heap.size + 0)), (2, .ref (s.heap.size + 91))]) hx hb dL_law_1314 hl (k := 3) rfl (by rw [qq]; rfl) (by decide) rfl (fun ls hl => ?_)
    refine lv_goto (tgt := 18) hx hb dL_law_1317 (by decide) ?_
    refine W.widen (k := 174 + 6 * (k + 1)) (n := 257216 + 262 * (k + 1)) (by omega) (by omega) ?_
    exact hk18 (k + 1) (q_308.2.1) κ σ_322 v3n H locs ls (lawv hv qq) (by omega) hN hI (lv_sub hl [1, 2, 3, 0] rfl) h
  · replace h := ite_f hc h
    refine lv_iconst (v := 0) hx hb dL_law_328 (by decide) ?_
    exact absurd (Option.some.inj h) (by decide)
set_option maxRecDepth 100000 in
set_option maxHeartbeats 4000000 in
theorem law_4 {p : Program} {e : Env} {s : State} {m : MethodId} {below : List Frame} {meth : Method} {c : Code} (l : Launch) {b L : Nat} {xs : Nat → Int32} (hL : L ≤ 4096) (C0 : lw_At p s m meth c b L xs) (D : va_G) (y : Nat → ClassId) (hKK : KK s.heap D y s) (F : Nat) (k18 : Nat → St → Int32 → Option Int32) (hk18 : ∀ (k n : Nat) (κ : Nat → Nat) (σ : St) (v3 : Int32) (H : Heap) (locs : List Loc) (ls : Array Slot), v3 = nI (8 * k) → 8 * k ≤ 4096 → N0 ≤ n → IV s.heap D y n n κ σ locs H → lv_has ls 4 [(0, .ref b), (1, .ref (s.heap.size + 0)), (2, .ref (s.heap.size + 91)), (3, .int v3)] → k18 n σ v3 = some 1 → W p l e room_1 s m #[Value.ref b] below meth c H locs (174 + 6 * k) (257216 + 262 * k) (lw_Z below #[Value.ref b] s) (F0 m 18 ls [])) (k n : Nat) (κ : Nat → Nat) (σ : St) (v3 : Int32) (H : Heap) (locs : List Loc) (ls : Array Slot) (hv : v3 = nI (8 * k)) (hk8 : 8 * k + 8 ≤ 4096) (hN : N0 ≤ n) (hI : IV s.heap D y n n κ σ locs H) (hl : lv_has ls 4 [(0, .ref b), (1, .ref (s.heap.size + 0)), (2, .ref (s.heap.size + 91)), (3, .int v3)]) (h : f_law_4 F xs L k18 n σ v3 = some 1) : W p l e room_1 s m #[Value.ref b] below meth c H locs (174 + 6 * k) (257216 + 262 * k) (lw_Z below #[Value.ref b] s) (F0 m 330 ls []) := by
  obtain ⟨hx, hb, hr, hml, hown, hts0, hX, hbl, hlocks, hgv⟩ := id C0
  have hbA : ¬ (fun q : Nat => s.heap.size ≤ q) b := Nat.not_le.mpr hbl
  have hts : ∀ w ∈ gtb, w.before #[Value.ref b] s = true := fun w hw => hts0 w (List.mem_filter.mp hw).1
  have hown : s.vm.findClass RL = some m.cls := hown
  unfold f_law_4 at h
  refine lv_aload_n hx hb dL_law_330 rfl (lv_at hl 1 rfl) ?_
  refine lv_aload_n hx hb dL_law_331 rfl (lv_at hl 0 rfl) ?_
  refine lv_iload_n hx hb dL_law_332 rfl (lv_at hl 3 rfl) ?_
  refine lv_iconst (v := 1) hx hb dL_law_333 (by decide) ?_
  refine lv_iadd hx hb dL_law_334 ?_
  obtain ⟨hin_, h⟩ := ck_e h
  refine va_sld hx hb hX hbl hbA hI.S hin_ dL_law_335 ?_
  obtain ⟨q_336, hq_336, h⟩ := ob_e h
  refine r_callV (As := [.int (xs (v3 + 1).toNatClampNeg)]) (rest := []) (cells' := 174 + 6 * k) (slots' := 257216 + 262 * k) hx hb hml hts hown (c_X11_end l s.heap D y F n κ σ hN (xs (v3 + 1).toNatClampNeg) (σ 1) rfl (σ 7) rfl (σ 9) rfl q_336 hq_336) cal_X11_end im_X11_end se_X11_end lm_L_32 ⟨Nat.le_of_ble_eq_true rfl, Nat.le_of_ble_eq_true rfl⟩ hI.nil hKK (r_recv hKK hI (hE11 s.heap.size y) rfl (lc0 hN) (kc0 hI.1.2.2.2.2)) rfl hl.1 hI.2.2 rfl (Nat.le_of_ble_eq_true rfl) dL_law_336 ⟨by show 174 + 6 * k + 0 ≤ 600000; omega, by show 257216 + 262 * k + 0 ≤ 7302250; omega⟩ rfl rfl rfl (fun H locs hB hlo => ?_)
  obtain ⟨σ, hB, en9, ho⟩ := hB
  obtain ⟨σ_336, qs, h⟩ := bn_e h
  have es : σ = σ_336 := (sgs_eq (l := [(9, q_336.2)]) (by intro z hz; rw [List.mem_singleton.mp hz]; exact en9) ho).trans qs.symm
  rw [es] at hB
  have hI := hB.re hlo
  refine lv_aload_n hx hb dL_law_339 rfl (lv_at hl 2 rfl) ?_
  refine lv_aload_n hx hb dL_law_340 rfl (lv_at hl 0 rfl) ?_
  refine lv_iload_n hx hb dL_law_341 rfl (lv_at hl 3 rfl) ?_
  refine lv_iconst (v := 1) hx hb dL_law_342 (by decide) ?_
  refine lv_iadd hx hb dL_law_343 ?_
  obtain ⟨hin_, h⟩ := ck_e h
  refine va_sld hx hb hX hbl hbA hI.S hin_ dL_law_344 ?_
  obtain ⟨q_345, hq_345, h⟩ := ob_e h
  refine r_callV (As := [.int (xs (v3 + 1).toNatClampNeg)]) (rest := [.int (q_336.1)]) (cells' := 174 + 6 * k) (slots' := 257216 + 262 * k) hx hb hml hts hown (c_X12_end l s.heap D y F n κ σ_336 hN (xs (v3 + 1).toNatClampNeg) (σ_336 23) rfl (σ_336 25) rfl q_345 hq_345) cal_X12_end im_X12_end se_X12_end lm_L_36 ⟨Nat.le_of_ble_eq_true rfl, Nat.le_of_ble_eq_true rfl⟩ hI.nil hKK (r_recv hKK hI (hE12 s.heap.size y) rfl (lc91 hN) (kc91 hI.1.2.2.2.2)) rfl hl.1 hI.2.2 rfl (Nat.le_of_ble_eq_true rfl) dL_law_345 ⟨by show 174 + 6 * k + 0 ≤ 600000; omega, by show 257216 + 262 * k + 0 ≤ 7302250; omega⟩ rfl rfl rfl (fun H locs hB hlo => ?_)
  obtain ⟨σ, hB, en25, ho⟩ := hB
  obtain ⟨σ_345, qs, h⟩ := bn_e h
  have es : σ = σ_345 := (sgs_eq (l := [(25, q_345.2)]) (by intro z hz; rw [List.mem_singleton.mp hz]; exact en25) ho).trans qs.symm
  rw [es] at hB
  have hI := hB.re hlo
  refine lv_icmp_eq (tgt := 1314) hx hb dL_law_348 (by decide) (fun hc => ?_) (fun hc => ?_)
  · replace h := ite_t hc h
    obtain ⟨v3n, qq, h⟩ := bn_e h
    refine lv_iinc (v := v3n) (lv' := [(3, .int v3n), (0, .ref b), (1, .ref (s.heap.size + 0)), (2, .ref (s.heap.size + 91))]) hx hb dL_law_1314 hl (k := 3) rfl (by rw [qq]; rfl) (by decide) rfl (fun ls hl => ?_)
    refine lv_goto (tgt := 18) hx hb dL_law_1317 (by decide) ?_
    refine W.widen (k := 174 + 6 * (k + 1)) (n := 257216 + 262 * (k + 1)) (by omega) (by omega) ?_
    exact hk18 (k + 1) n κ σ_345 v3n H locs ls (lawv hv qq) (by omega) hN hI (lv_sub hl [1, 2, 3, 0] rfl) h
  · replace h := ite_f hc h
    refine lv_iconst (v := 0) hx hb dL_law_351 (by decide) ?_
    exact absurd (Option.some.inj h) (by decide)
set_option maxRecDepth 100000 in
set_option maxHeartbeats 4000000 in
theorem law_5 {p : Program} {e : Env} {s : State} {m : MethodId} {below : List Frame} {meth : Method} {c : Code} (l : Launch) {b L : Nat} {xs : Nat → Int32} (hL : L ≤ 4096) (C0 : lw_At p s m meth c b L xs) (D : va_G) (y : Nat → ClassId) (hKK : KK s.heap D y s) (F : Nat) (k18 : Nat → St → Int32 → Option Int32) (hk18 : ∀ (k n : Nat) (κ : Nat → Nat) (σ : St) (v3 : Int32) (H : Heap) (locs : List Loc) (ls : Array Slot), v3 = nI (8 * k) → 8 * k ≤ 4096 → N0 ≤ n → IV s.heap D y n n κ σ locs H → lv_has ls 4 [(0, .ref b), (1, .ref (s.heap.size + 0)), (2, .ref (s.heap.size + 91)), (3, .int v3)] → k18 n σ v3 = some 1 → W p l e room_1 s m #[Value.ref b] below meth c H locs (174 + 6 * k) (257216 + 262 * k) (lw_Z below #[Value.ref b] s) (F0 m 18 ls [])) (k n : Nat) (κ : Nat → Nat) (σ : St) (v3 : Int32) (H : Heap) (locs : List Loc) (ls : Array Slot) (hv : v3 = nI (8 * k)) (hk8 : 8 * k + 8 ≤ 4096) (hN : N0 ≤ n) (hI : IV s.heap D y n n κ σ locs H) (hl : lv_has ls 4 [(0, .ref b), (1, .ref (s.heap.size + 0)), (2, .ref (s.heap.size + 91)), (3, .int v3)]) (h : f_law_5 F xs L k18 n σ v3 = some 1) : W p l e room_1 s m #[Value.ref b] below meth c H locs (174 + 6 * k) (257216 + 262 * k) (lw_Z below #[Value.ref b] s) (F0 m 353 ls []) := by
  obtain ⟨hx, hb, hr, hml, hown, hts0, hX, hbl, hlocks, hgv⟩ := id C0
  have hbA : ¬ (fun q : Nat => s.heap.size ≤ q) b := Nat.not_le.mpr hbl
  have hts : ∀ w ∈ gtb, w.before #[Value.ref b] s = true := fun w hw => hts0 w (List.mem_filter.mp hw).1
  have hown : s.vm.findClass RL = some m.cls := hown
  unfold f_law_5 at h
  refine lv_aload_n hx hb dL_law_353 rfl (lv_at hl 1 rfl) ?_
  refine lv_aload_n hx hb dL_law_354 rfl (lv_at hl 0 rfl) ?_
  refine lv_iload_n hx hb dL_law_355 rfl (lv_at hl 3 rfl) ?_
  refine lv_iconst (v := 1) hx hb dL_law_356 (by decide) ?_
  refine lv_iadd hx hb dL_law_357 ?_
  obtain ⟨hin_, h⟩ := ck_e h
  refine va_sld hx hb hX hbl hbA hI.S hin_ dL_law_358 ?_
  refine lv_aload_n hx hb dL_law_359 rfl (lv_at hl 0 rfl) ?_
  refine lv_iload_n hx hb dL_law_360 rfl (lv_at hl 3 rfl) ?_
  refine lv_iconst (v := 2) hx hb dL_law_361 (by decide) ?_
  refine lv_iadd hx hb dL_law_362 ?_
  obtain ⟨hin_, h⟩ := ck_e h
  refine va_sld hx hb hX hbl hbA hI.S hin_ dL_law_363 ?_
  obtain ⟨q_364, hq_364, h⟩ := ob_e h
  refine r_callV (As := [.int (xs (v3 + 1).toNatClampNeg), .int (xs (v3 + 2).toNatClampNeg)]) (rest := []) (cells' := 174 + 6 * k) (slots' := 257216 + 262 * k) hx hb hml hts hown (c_X11_number l s.heap D y F n κ σ hN (xs (v3 + 1).toNatClampNeg) (xs (v3 + 2).toNatClampNeg) (σ 2) rfl q_364 hq_364) cal_X11_number im_X11_number se_X11_number lm_L_37 ⟨Nat.le_of_ble_eq_true rfl, Nat.le_of_ble_eq_true rfl⟩ hI.nil hKK (r_recv hKK hI (hE11 s.heap.size y) rfl (lc0 hN) (kc0 hI.1.2.2.2.2)) rfl hl.1 hI.2.2 rfl (Nat.le_of_ble_eq_true rfl) dL_law_364 ⟨by show 174 + 6 * k + 0 ≤ 600000; omega, by show 257216 + 262 * k + 0 ≤ 7302250; omega⟩ rfl rfl rfl (fun H locs hB hlo => ?_)
  obtain ⟨σ, hB, en2, ho⟩ := hB
  obtain ⟨σ_364, qs, h⟩ := bn_e h
  have es : σ = σ_364 := (sgs_eq (l := [(2, q_364.2)]) (by intro z hz; rw [List.mem_singleton.mp hz]; exact en2) ho).trans qs.symm
  rw [es] at hB
  have hI := hB.re hlo
  refine lv_aload_n hx hb dL_law_367 rfl (lv_at hl 2 rfl) ?_
  refine lv_aload_n hx hb dL_law_368 rfl (lv_at hl 0 rfl) ?_
  refine lv_iload_n hx hb dL_law_369 rfl (lv_at hl 3 rfl) ?_
  refine lv_iconst (v := 1) hx hb dL_law_370 (by decide) ?_
  refine lv_iadd hx hb dL_law_371 ?_
  obtain ⟨hin_, h⟩ := ck_e h
  refine va_sld hx hb hX hbl hbA hI.S hin_ dL_law_372 ?_
  refine lv_aload_n hx hb dL_law_373 rfl (lv_at hl 0 rfl) ?_
  refine lv_iload_n hx hb dL_law_374 rfl (lv_at hl 3 rfl) ?_
  refine lv_iconst (v := 2) hx hb dL_law_375 (by decide) ?_
  refine lv_iadd hx hb dL_law_376 ?_
  obtain ⟨hin_, h⟩ := ck_e h
  refine va_sld hx hb hX hbl hbA hI.S hin_ dL_law_377 ?_
  obtain ⟨q_378, hq_378, h⟩ := ob_e h
  refine r_callV (As := [.int (xs (v3 + 1).toNatClampNeg), .int (xs (v3 + 2).toNatClampNeg)]) (rest := [.int (q_364.1)]) (cells' := 174 + 6 * k) (slots' := 257216 + 262 * k) hx hb hml hts hown (c_X12_number l s.heap D y F n κ σ_364 hN (xs (v3 + 1).toNatClampNeg) (xs (v3 + 2).toNatClampNeg) (σ_364 26) rfl q_378 hq_378) cal_X12_number im_X12_number se_X12_number lm_L_41 ⟨Nat.le_of_ble_eq_true rfl, Nat.le_of_ble_eq_true rfl⟩ hI.nil hKK (r_recv hKK hI (hE12 s.heap.size y) rfl (lc91 hN) (kc91 hI.1.2.2.2.2)) rfl hl.1 hI.2.2 rfl (Nat.le_of_ble_eq_true rfl) dL_law_378 ⟨by show 174 + 6 * k + 0 ≤ 600000; omega, by show 257216 + 262 * k + 0 ≤ 7302250; omega⟩ rfl rfl rfl (fun H locs hB hlo => ?_)
  obtain ⟨σ, hB, en26, ho⟩ := hB
  obtain ⟨σ_378, qs, h⟩ := bn_e h
  have es : σ = σ_378 := (sgs_eq (l := [(26, q_378.2)]) (by intro z hz; rw [List.mem_singleton.mp hz]; exact en26) ho).trans qs.symm
  rw [es] at hB
  have hI := hB.re hlo
  refine lv_icmp_eq (tgt := 1314) hx hb dL_law_381 (by decide) (fun hc => ?_) (fun hc => ?_)
  · replace h := ite_t hc h
    obtain ⟨v3n, qq, h⟩ := bn_e h
    refine lv_iinc (v := v3n) (lv' := [(3, .int v3n), (0, .ref b), (1, .ref (s.heap.size + 0)), (2, .ref (s.heap.size + 91))]) hx hb dL_law_1314 hl (k := 3) rfl (by rw [qq]; rfl) (by decide) rfl (fun ls hl => ?_)
    refine lv_goto (tgt := 18) hx hb dL_law_1317 (by decide) ?_
    refine W.widen (k := 174 + 6 * (k + 1)) (n := 257216 + 262 * (k + 1)) (by omega) (by omega) ?_
    exact hk18 (k + 1) n κ σ_378 v3n H locs ls (lawv hv qq) (by omega) hN hI (lv_sub hl [1, 2, 3, 0] rfl) h
  · replace h := ite_f hc h
    refine lv_iconst (v := 0) hx hb dL_law_384 (by decide) ?_
    exact absurd (Option.some.inj h) (by decide)
set_option maxRecDepth 100000 in
set_option maxHeartbeats 4000000 in
theorem law_6 {p : Program} {e : Env} {s : State} {m : MethodId} {below : List Frame} {meth : Method} {c : Code} (l : Launch) {b L : Nat} {xs : Nat → Int32} (hL : L ≤ 4096) (C0 : lw_At p s m meth c b L xs) (D : va_G) (y : Nat → ClassId) (hKK : KK s.heap D y s) (F : Nat) (k18 : Nat → St → Int32 → Option Int32) (hk18 : ∀ (k n : Nat) (κ : Nat → Nat) (σ : St) (v3 : Int32) (H : Heap) (locs : List Loc) (ls : Array Slot), v3 = nI (8 * k) → 8 * k ≤ 4096 → N0 ≤ n → IV s.heap D y n n κ σ locs H → lv_has ls 4 [(0, .ref b), (1, .ref (s.heap.size + 0)), (2, .ref (s.heap.size + 91)), (3, .int v3)] → k18 n σ v3 = some 1 → W p l e room_1 s m #[Value.ref b] below meth c H locs (174 + 6 * k) (257216 + 262 * k) (lw_Z below #[Value.ref b] s) (F0 m 18 ls [])) (k n : Nat) (κ : Nat → Nat) (σ : St) (v3 : Int32) (H : Heap) (locs : List Loc) (ls : Array Slot) (hv : v3 = nI (8 * k)) (hk8 : 8 * k + 8 ≤ 4096) (hN : N0 ≤ n) (hI : IV s.heap D y n n κ σ locs H) (hl : lv_has ls 4 [(0, .ref b), (1, .ref (s.heap.size + 0)), (2, .ref (s.heap.size + 91)), (3, .int v3)]) (h : f_law_6 F xs L k18 n σ v3 = some 1) : W p l e room_1 s m #[Value.ref b] below meth c H locs (174 + 6 * k) (257216 + 262 * k) (lw_Z below #[Value.ref b] s) (F0 m 386 ls []) := by
  obtain ⟨hx, hb, hr, hml, hown, hts0, hX, hbl, hlocks, hgv⟩ := id C0
  have hbA : ¬ (fun q : Nat => s.heap.size ≤ q) b := Nat.not_le.mpr hbl
  have hts : ∀ w ∈ gtb, w.before #[Value.ref b] s = true := fun w hw => hts0 w (List.mem_filter.mp hw).1
  have hown : s.vm.findClass RL = some m.cls := hown
  unfold f_law_6 at h
  refine lv_aload_n hx hb dL_law_386 rfl (lv_at hl 1 rfl) ?_
  refine lv_aload_n hx hb dL_law_387 rfl (lv_at hl 0 rfl) ?_
  refine lv_iload_n hx hb dL_law_388 rfl (lv_at hl 3 rfl) ?_
  refine lv_iconst (v := 1) hx hb dL_law_389 (by decide) ?_
  refine lv_iadd hx hb dL_law_390 ?_
  obtain ⟨hin_, h⟩ := ck_e h
  refine va_sld hx hb hX hbl hbA hI.S hin_ dL_law_391 ?_
  refine lv_aload_n hx hb dL_law_392 rfl (lv_at hl 0 rfl) ?_
  refine lv_iload_n hx hb dL_law_393 rfl (lv_at hl 3 rfl) ?_
  refine lv_iconst (v := 2) hx hb dL_law_394 (by decide) ?_
  refine lv_iadd hx hb dL_law_395 ?_
  obtain ⟨hin_, h⟩ := ck_e h
  refine va_sld hx hb hX hbl hbA hI.S hin_ dL_law_396 ?_
  refine lv_aload_n hx hb dL_law_397 rfl (lv_at hl 0 rfl) ?_
  refine lv_iload_n hx hb dL_law_398 rfl (lv_at hl 3 rfl) ?_
  refine lv_iconst (v := 3) hx hb dL_law_399 (by decide) ?_
  refine lv_iadd hx hb dL_law_400 ?_
  obtain ⟨hin_, h⟩ := ck_e h
  refine va_sld hx hb hX hbl hbA hI.S hin_ dL_law_401 ?_
  refine lv_aload_n hx hb dL_law_402 rfl (lv_at hl 0 rfl) ?_
  refine lv_iload_n hx hb dL_law_403 rfl (lv_at hl 3 rfl) ?_
  refine lv_iconst (v := 4) hx hb dL_law_404 (by decide) ?_
  refine lv_iadd hx hb dL_law_405 ?_
  obtain ⟨hin_, h⟩ := ck_e h
  refine va_sld hx hb hX hbl hbA hI.S hin_ dL_law_406 ?_
  refine lv_aload_n hx hb dL_law_407 rfl (lv_at hl 0 rfl) ?_
  refine lv_iload_n hx hb dL_law_408 rfl (lv_at hl 3 rfl) ?_
  refine lv_iconst (v := 5) hx hb dL_law_409 (by decide) ?_
  refine lv_iadd hx hb dL_law_410 ?_
  obtain ⟨hin_, h⟩ := ck_e h
  refine va_sld hx hb hX hbl hbA hI.S hin_ dL_law_411 ?_
  obtain ⟨q_412, hq_412, h⟩ := ob_e h
  refine r_callV (As := [.int (xs (v3 + 1).toNatClampNeg), .int (xs (v3 + 2).toNatClampNeg), .int (xs (v3 + 3).toNatClampNeg), .int (xs (v3 + 4).toNatClampNeg), .int (xs (v3 + 5).toNatClampNeg)]) (rest := []) (cells' := 174 + 6 * k) (slots' := 257216 + 262 * k) hx hb hml hts hown (c_X11_feed l s.heap D y F n κ σ hN (xs (v3 + 1).toNatClampNeg) (xs (v3 + 2).toNatClampNeg) (xs (v3 + 3).toNatClampNeg) (xs (v3 + 4).toNatClampNeg) (xs (v3 + 5).toNatClampNeg) (σ 1) rfl (σ 3) rfl q_412 hq_412) cal_X11_feed im_X11_feed se_X11_feed lm_L_42 ⟨Nat.le_of_ble_eq_true rfl, Nat.le_of_ble_eq_true rfl⟩ hI.nil hKK (r_recv hKK hI (hE11 s.heap.size y) rfl (lc0 hN) (kc0 hI.1.2.2.2.2)) rfl hl.1 hI.2.2 rfl (Nat.le_of_ble_eq_true rfl) dL_law_412 ⟨by show 174 + 6 * k + 0 ≤ 600000; omega, by show 257216 + 262 * k + 0 ≤ 7302250; omega⟩ rfl rfl rfl (fun H locs hB hlo => ?_)
  obtain ⟨σ, hB, en1, en3, ho⟩ := hB
  obtain ⟨σ_412, qs, h⟩ := bn_e h
  have es : σ = σ_412 := (sgs_eq (l := [(1, q_412.2.1), (3, q_412.2.2)]) (by intro z hz; simp only [List.mem_cons, List.not_mem_nil, or_false] at hz; rcases hz with rfl | rfl <;> first | exact en1 | exact en3) ho).trans qs.symm
  rw [es] at hB
  have hI := hB.re hlo
  refine lv_aload_n hx hb dL_law_415 rfl (lv_at hl 2 rfl) ?_
  refine lv_aload_n hx hb dL_law_416 rfl (lv_at hl 0 rfl) ?_
  refine lv_iload_n hx hb dL_law_417 rfl (lv_at hl 3 rfl) ?_
  refine lv_iconst (v := 1) hx hb dL_law_418 (by decide) ?_
  refine lv_iadd hx hb dL_law_419 ?_
  obtain ⟨hin_, h⟩ := ck_e h
  refine va_sld hx hb hX hbl hbA hI.S hin_ dL_law_420 ?_
  refine lv_aload_n hx hb dL_law_421 rfl (lv_at hl 0 rfl) ?_
  refine lv_iload_n hx hb dL_law_422 rfl (lv_at hl 3 rfl) ?_
  refine lv_iconst (v := 2) hx hb dL_law_423 (by decide) ?_
  refine lv_iadd hx hb dL_law_424 ?_
  obtain ⟨hin_, h⟩ := ck_e h
  refine va_sld hx hb hX hbl hbA hI.S hin_ dL_law_425 ?_
  refine lv_aload_n hx hb dL_law_426 rfl (lv_at hl 0 rfl) ?_
  refine lv_iload_n hx hb dL_law_427 rfl (lv_at hl 3 rfl) ?_
  refine lv_iconst (v := 3) hx hb dL_law_428 (by decide) ?_
  refine lv_iadd hx hb dL_law_429 ?_
  obtain ⟨hin_, h⟩ := ck_e h
  refine va_sld hx hb hX hbl hbA hI.S hin_ dL_law_430 ?_
  refine lv_aload_n hx hb dL_law_431 rfl (lv_at hl 0 rfl) ?_
  refine lv_iload_n hx hb dL_law_432 rfl (lv_at hl 3 rfl) ?_
  refine lv_iconst (v := 4) hx hb dL_law_433 (by decide) ?_
  refine lv_iadd hx hb dL_law_434 ?_
  obtain ⟨hin_, h⟩ := ck_e h
  refine va_sld hx hb hX hbl hbA hI.S hin_ dL_law_435 ?_
  refine lv_aload_n hx hb dL_law_436 rfl (lv_at hl 0 rfl) ?_
  refine lv_iload_n hx hb dL_law_437 rfl (lv_at hl 3 rfl) ?_
  refine lv_iconst (v := 5) hx hb dL_law_438 (by decide) ?_
  refine lv_iadd hx hb dL_law_439 ?_
  obtain ⟨hin_, h⟩ := ck_e h
  refine va_sld hx hb hX hbl hbA hI.S hin_ dL_law_440 ?_
  obtain ⟨q_441, hq_441, h⟩ := ob_e h
  refine r_callV (As := [.int (xs (v3 + 1).toNatClampNeg), .int (xs (v3 + 2).toNatClampNeg), .int (xs (v3 + 3).toNatClampNeg), .int (xs (v3 + 4).toNatClampNeg), .int (xs (v3 + 5).toNatClampNeg)]) (rest := [.int (q_412.1)]) (cells' := 174 + 6 * k) (slots' := 257216 + 262 * k) hx hb hml hts hown (c_X12_feed l s.heap D y F n κ σ_412 hN (xs (v3 + 1).toNatClampNeg) (xs (v3 + 2).toNatClampNeg) (xs (v3 + 3).toNatClampNeg) (xs (v3 + 4).toNatClampNeg) (xs (v3 + 5).toNatClampNeg) (σ_412 27) rfl q_441 hq_441) cal_X12_feed im_X12_feed se_X12_feed lm_L_46 ⟨Nat.le_of_ble_eq_true rfl, Nat.le_of_ble_eq_true rfl⟩ hI.nil hKK (r_recv hKK hI (hE12 s.heap.size y) rfl (lc91 hN) (kc91 hI.1.2.2.2.2)) rfl hl.1 hI.2.2 rfl (Nat.le_of_ble_eq_true rfl) dL_law_441 ⟨by show 174 + 6 * k + 0 ≤ 600000; omega, by show 257216 + 262 * k + 0 ≤ 7302250; omega⟩ rfl rfl rfl (fun H locs hB hlo => ?_)
  obtain ⟨σ, hB, en27, ho⟩ := hB
  obtain ⟨σ_441, qs, h⟩ := bn_e h
  have es : σ = σ_441 := (sgs_eq (l := [(27, q_441.2)]) (by intro z hz; rw [List.mem_singleton.mp hz]; exact en27) ho).trans qs.symm
  rw [es] at hB
  have hI := hB.re hlo
  refine lv_icmp_eq (tgt := 1314) hx hb dL_law_444 (by decide) (fun hc => ?_) (fun hc => ?_)
  · replace h := ite_t hc h
    obtain ⟨v3n, qq, h⟩ := bn_e h
    refine lv_iinc (v := v3n) (lv' := [(3, .int v3n), (0, .ref b), (1, .ref (s.heap.size + 0)), (2, .ref (s.heap.size + 91))]) hx hb dL_law_1314 hl (k := 3) rfl (by rw [qq]; rfl) (by decide) rfl (fun ls hl => ?_)
    refine lv_goto (tgt := 18) hx hb dL_law_1317 (by decide) ?_
    refine W.widen (k := 174 + 6 * (k + 1)) (n := 257216 + 262 * (k + 1)) (by omega) (by omega) ?_
    exact hk18 (k + 1) n κ σ_441 v3n H locs ls (lawv hv qq) (by omega) hN hI (lv_sub hl [1, 2, 3, 0] rfl) h
  · replace h := ite_f hc h
    refine lv_iconst (v := 0) hx hb dL_law_447 (by decide) ?_
    exact absurd (Option.some.inj h) (by decide)
set_option maxRecDepth 100000 in
set_option maxHeartbeats 4000000 in
theorem law_7 {p : Program} {e : Env} {s : State} {m : MethodId} {below : List Frame} {meth : Method} {c : Code} (l : Launch) {b L : Nat} {xs : Nat → Int32} (hL : L ≤ 4096) (C0 : lw_At p s m meth c b L xs) (D : va_G) (y : Nat → ClassId) (hKK : KK s.heap D y s) (F : Nat) (k18 : Nat → St → Int32 → Option Int32) (hk18 : ∀ (k n : Nat) (κ : Nat → Nat) (σ : St) (v3 : Int32) (H : Heap) (locs : List Loc) (ls : Array Slot), v3 = nI (8 * k) → 8 * k ≤ 4096 → N0 ≤ n → IV s.heap D y n n κ σ locs H → lv_has ls 4 [(0, .ref b), (1, .ref (s.heap.size + 0)), (2, .ref (s.heap.size + 91)), (3, .int v3)] → k18 n σ v3 = some 1 → W p l e room_1 s m #[Value.ref b] below meth c H locs (174 + 6 * k) (257216 + 262 * k) (lw_Z below #[Value.ref b] s) (F0 m 18 ls [])) (k n : Nat) (κ : Nat → Nat) (σ : St) (v3 : Int32) (H : Heap) (locs : List Loc) (ls : Array Slot) (hv : v3 = nI (8 * k)) (hk8 : 8 * k + 8 ≤ 4096) (hN : N0 ≤ n) (hI : IV s.heap D y n n κ σ locs H) (hl : lv_has ls 4 [(0, .ref b), (1, .ref (s.heap.size + 0)), (2, .ref (s.heap.size + 91)), (3, .int v3)]) (h : f_law_7 F xs L k18 n σ v3 = some 1) : W p l e room_1 s m #[Value.ref b] below meth c H locs (174 + 6 * k) (257216 + 262 * k) (lw_Z below #[Value.ref b] s) (F0 m 449 ls []) := by
  obtain ⟨hx, hb, hr, hml, hown, hts0, hX, hbl, hlocks, hgv⟩ := id C0
  have hbA : ¬ (fun q : Nat => s.heap.size ≤ q) b := Nat.not_le.mpr hbl
  have hts : ∀ w ∈ gtb, w.before #[Value.ref b] s = true := fun w hw => hts0 w (List.mem_filter.mp hw).1
  have hown : s.vm.findClass RL = some m.cls := hown
  unfold f_law_7 at h
  refine lv_aload_n hx hb dL_law_449 rfl (lv_at hl 1 rfl) ?_
  refine lv_aload_n hx hb dL_law_450 rfl (lv_at hl 0 rfl) ?_
  refine lv_iload_n hx hb dL_law_451 rfl (lv_at hl 3 rfl) ?_
  refine lv_iconst (v := 1) hx hb dL_law_452 (by decide) ?_
  refine lv_iadd hx hb dL_law_453 ?_
  obtain ⟨hin_, h⟩ := ck_e h
  refine va_sld hx hb hX hbl hbA hI.S hin_ dL_law_454 ?_
  obtain ⟨q_455, hq_455, h⟩ := ob_e h
  refine r_callV (As := [.int (xs (v3 + 1).toNatClampNeg)]) (rest := []) (cells' := 174 + 6 * k) (slots' := 257216 + 262 * k) hx hb hml hts hown (c_X11_rules l s.heap D y F n κ σ hN (xs (v3 + 1).toNatClampNeg) (σ 1) rfl (σ 3) rfl (σ 4) rfl q_455 hq_455) cal_X11_rules im_X11_rules se_X11_rules lm_L_47 ⟨Nat.le_of_ble_eq_true rfl, Nat.le_of_ble_eq_true rfl⟩ hI.nil hKK (r_recv hKK hI (hE11 s.heap.size y) rfl (lc0 hN) (kc0 hI.1.2.2.2.2)) rfl hl.1 hI.2.2 rfl (Nat.le_of_ble_eq_true rfl) dL_law_455 ⟨by show 174 + 6 * k + 0 ≤ 600000; omega, by show 257216 + 262 * k + 0 ≤ 7302250; omega⟩ rfl rfl rfl (fun H locs hB hlo => ?_)
  obtain ⟨σ, hB, en1, en4, ho⟩ := hB
  obtain ⟨σ_455, qs, h⟩ := bn_e h
  have es : σ = σ_455 := (sgs_eq (l := [(1, q_455.2.1), (4, q_455.2.2)]) (by intro z hz; simp only [List.mem_cons, List.not_mem_nil, or_false] at hz; rcases hz with rfl | rfl <;> first | exact en1 | exact en4) ho).trans qs.symm
  rw [es] at hB
  have hI := hB.re hlo
  refine lv_aload_n hx hb dL_law_458 rfl (lv_at hl 2 rfl) ?_
  refine lv_aload_n hx hb dL_law_459 rfl (lv_at hl 0 rfl) ?_
  refine lv_iload_n hx hb dL_law_460 rfl (lv_at hl 3 rfl) ?_
  refine lv_iconst (v := 1) hx hb dL_law_461 (by decide) ?_
  refine lv_iadd hx hb dL_law_462 ?_
  obtain ⟨hin_, h⟩ := ck_e h
  refine va_sld hx hb hX hbl hbA hI.S hin_ dL_law_463 ?_
  obtain ⟨q_464, hq_464, h⟩ := ob_e h
  refine r_callV (As := [.int (xs (v3 + 1).toNatClampNeg)]) (rest := [.int (q_455.1)]) (cells' := 174 + 6 * k) (slots' := 257216 + 262 * k) hx hb hml hts hown (c_X12_rules l s.heap D y F n κ σ_455 hN (xs (v3 + 1).toNatClampNeg) (σ_455 27) rfl (σ_455 28) rfl (σ_455 29) rfl q_464 hq_464) cal_X12_rules im_X12_rules se_X12_rules lm_L_50 ⟨Nat.le_of_ble_eq_true rfl, Nat.le_of_ble_eq_true rfl⟩ hI.nil hKK (r_recv hKK hI (hE12 s.heap.size y) rfl (lc91 hN) (kc91 hI.1.2.2.2.2)) rfl hl.1 hI.2.2 rfl (Nat.le_of_ble_eq_true rfl) dL_law_464 ⟨by show 174 + 6 * k + 0 ≤ 600000; omega, by show 257216 + 262 * k + 0 ≤ 7302250; omega⟩ rfl rfl rfl (fun H locs hB hlo => ?_)
  obtain ⟨σ, hB, en27, en28, en29, ho⟩ := hB
  obtain ⟨σ_464, qs, h⟩ := bn_e h
  have es : σ = σ_464 := (sgs_eq (l := [(27, q_464.2.1), (28, q_464.2.2.1), (29, q_464.2.2.2)]) (by intro z hz; simp only [List.mem_cons, List.not_mem_nil, or_false] at hz; rcases hz with rfl | rfl | rfl <;> first | exact en27 | exact en28 | exact en29) ho).trans qs.symm
  rw [es] at hB
  have hI := hB.re hlo
  refine lv_icmp_eq (tgt := 1314) hx hb dL_law_467 (by decide) (fun hc => ?_) (fun hc => ?_)
  · replace h := ite_t hc h
    obtain ⟨v3n, qq, h⟩ := bn_e h
    refine lv_iinc (v := v3n) (lv' := [(3, .int v3n), (0, .ref b), (1, .ref (s.heap.size + 0)), (2, .ref (s.heap.size + 91))]) hx hb dL_law_1314 hl (k := 3) rfl (by rw [qq]; rfl) (by decide) rfl (fun ls hl => ?_)
    refine lv_goto (tgt := 18) hx hb dL_law_1317 (by decide) ?_
    refine W.widen (k := 174 + 6 * (k + 1)) (n := 257216 + 262 * (k + 1)) (by omega) (by omega) ?_
    exact hk18 (k + 1) n κ σ_464 v3n H locs ls (lawv hv qq) (by omega) hN hI (lv_sub hl [1, 2, 3, 0] rfl) h
  · replace h := ite_f hc h
    refine lv_iconst (v := 0) hx hb dL_law_470 (by decide) ?_
    exact absurd (Option.some.inj h) (by decide)
set_option maxRecDepth 100000 in
set_option maxHeartbeats 4000000 in
theorem law_8 {p : Program} {e : Env} {s : State} {m : MethodId} {below : List Frame} {meth : Method} {c : Code} (l : Launch) {b L : Nat} {xs : Nat → Int32} (hL : L ≤ 4096) (C0 : lw_At p s m meth c b L xs) (D : va_G) (y : Nat → ClassId) (hKK : KK s.heap D y s) (F : Nat) (k18 : Nat → St → Int32 → Option Int32) (hk18 : ∀ (k n : Nat) (κ : Nat → Nat) (σ : St) (v3 : Int32) (H : Heap) (locs : List Loc) (ls : Array Slot), v3 = nI (8 * k) → 8 * k ≤ 4096 → N0 ≤ n → IV s.heap D y n n κ σ locs H → lv_has ls 4 [(0, .ref b), (1, .ref (s.heap.size + 0)), (2, .ref (s.heap.size + 91)), (3, .int v3)] → k18 n σ v3 = some 1 → W p l e room_1 s m #[Value.ref b] below meth c H locs (174 + 6 * k) (257216 + 262 * k) (lw_Z below #[Value.ref b] s) (F0 m 18 ls [])) (k n : Nat) (κ : Nat → Nat) (σ : St) (v3 : Int32) (H : Heap) (locs : List Loc) (ls : Array Slot) (hv : v3 = nI (8 * k)) (hk8 : 8 * k + 8 ≤ 4096) (hN : N0 ≤ n) (hI : IV s.heap D y n n κ σ locs H) (hl : lv_has ls 4 [(0, .ref b), (1, .ref (s.heap.size + 0)), (2, .ref (s.heap.size + 91)), (3, .int v3)]) (h : f_law_8 F xs L k18 n σ v3 = some 1) : W p l e room_1 s m #[Value.ref b] below meth c H locs (174 + 6 * k) (257216 + 262 * k) (lw_Z below #[Value.ref b] s) (F0 m 472 ls []) := by
  obtain ⟨hx, hb, hr, hml, hown, hts0, hX, hbl, hlocks, hgv⟩ := id C0
  have hbA : ¬ (fun q : Nat => s.heap.size ≤ q) b := Nat.not_le.mpr hbl
  have hts : ∀ w ∈ gtb, w.before #[Value.ref b] s = true := fun w hw => hts0 w (List.mem_filter.mp hw).1
  have hown : s.vm.findClass RL = some m.cls := hown
  unfold f_law_8 at h
  refine lv_aload_n hx hb dL_law_472 rfl (lv_at hl 1 rfl) ?_
  refine lv_aload_n hx hb dL_law_473 rfl (lv_at hl 0 rfl) ?_
  refine lv_iload_n hx hb dL_law_474 rfl (lv_at hl 3 rfl) ?_
  refine lv_iconst (v := 1) hx hb dL_law_475 (by decide) ?_
  refine lv_iadd hx hb dL_law_476 ?_
  obtain ⟨hin_, h⟩ := ck_e h
  refine va_sld hx hb hX hbl hbA hI.S hin_ dL_law_477 ?_
  obtain ⟨q_478, hq_478, h⟩ := ob_e h
  refine r_callV (As := [.int (xs (v3 + 1).toNatClampNeg)]) (rest := []) (cells' := 174 + 6 * k) (slots' := 257216 + 262 * k) hx hb hml hts hown (c_X11_look l s.heap D y F n κ σ hN (xs (v3 + 1).toNatClampNeg) (σ 1) rfl (σ 3) rfl (σ 4) rfl (σ 5) rfl q_478 hq_478) cal_X11_look im_X11_look se_X11_look lm_L_51 ⟨Nat.le_of_ble_eq_true rfl, Nat.le_of_ble_eq_true rfl⟩ hI.nil hKK (r_recv hKK hI (hE11 s.heap.size y) rfl (lc0 hN) (kc0 hI.1.2.2.2.2)) rfl hl.1 hI.2.2 rfl (Nat.le_of_ble_eq_true rfl) dL_law_478 ⟨by show 174 + 6 * k + 0 ≤ 600000; omega, by show 257216 + 262 * k + 0 ≤ 7302250; omega⟩ rfl rfl rfl (fun H locs hB hlo => ?_)
  obtain ⟨σ, hB, en5, ho⟩ := hB
  obtain ⟨σ_478, qs, h⟩ := bn_e h
  have es : σ = σ_478 := (sgs_eq (l := [(5, q_478.2)]) (by intro z hz; rw [List.mem_singleton.mp hz]; exact en5) ho).trans qs.symm
  rw [es] at hB
  have hI := hB.re hlo
  refine lv_aload_n hx hb dL_law_481 rfl (lv_at hl 2 rfl) ?_
  refine lv_aload_n hx hb dL_law_482 rfl (lv_at hl 0 rfl) ?_
  refine lv_iload_n hx hb dL_law_483 rfl (lv_at hl 3 rfl) ?_
  refine lv_iconst (v := 1) hx hb dL_law_484 (by decide) ?_
  refine lv_iadd hx hb dL_law_485 ?_
  obtain ⟨hin_, h⟩ := ck_e h
  refine va_sld hx hb hX hbl hbA hI.S hin_ dL_law_486 ?_
  obtain ⟨q_487, hq_487, h⟩ := ob_e h
  refine r_callV (As := [.int (xs (v3 + 1).toNatClampNeg)]) (rest := [.int (q_478.1)]) (cells' := 174 + 6 * k) (slots' := 257216 + 262 * k) hx hb hml hts hown (c_X12_look l s.heap D y F n κ σ_478 hN (xs (v3 + 1).toNatClampNeg) (σ_478 27) rfl (σ_478 29) rfl (σ_478 30) rfl (σ_478 31) rfl q_487 hq_487) cal_X12_look im_X12_look se_X12_look lm_L_54 ⟨Nat.le_of_ble_eq_true rfl, Nat.le_of_ble_eq_true rfl⟩ hI.nil hKK (r_recv hKK hI (hE12 s.heap.size y) rfl (lc91 hN) (kc91 hI.1.2.2.2.2)) rfl hl.1 hI.2.2 rfl (Nat.le_of_ble_eq_true rfl) dL_law_487 ⟨by show 174 + 6 * k + 0 ≤ 600000; omega, by show 257216 + 262 * k + 0 ≤ 7302250; omega⟩ rfl rfl rfl (fun H locs hB hlo => ?_)
  obtain ⟨σ, hB, en30, en31, ho⟩ := hB
  obtain ⟨σ_487, qs, h⟩ := bn_e h
  have es : σ = σ_487 := (sgs_eq (l := [(30, q_487.2.1), (31, q_487.2.2)]) (by intro z hz; simp only [List.mem_cons, List.not_mem_nil, or_false] at hz; rcases hz with rfl | rfl <;> first | exact en30 | exact en31) ho).trans qs.symm
  rw [es] at hB
  have hI := hB.re hlo
  refine lv_icmp_eq (tgt := 1314) hx hb dL_law_490 (by decide) (fun hc => ?_) (fun hc => ?_)
  · replace h := ite_t hc h
    obtain ⟨v3n, qq, h⟩ := bn_e h
    refine lv_iinc (v := v3n) (lv' := [(3, .int v3n), (0, .ref b), (1, .ref (s.heap.size + 0)), (2, .ref (s.heap.size + 91))]) hx hb dL_law_1314 hl (k := 3) rfl (by rw [qq]; rfl) (by decide) rfl (fun ls hl => ?_)
    refine lv_goto (tgt := 18) hx hb dL_law_1317 (by decide) ?_
    refine W.widen (k := 174 + 6 * (k + 1)) (n := 257216 + 262 * (k + 1)) (by omega) (by omega) ?_
    exact hk18 (k + 1) n κ σ_487 v3n H locs ls (lawv hv qq) (by omega) hN hI (lv_sub hl [1, 2, 3, 0] rfl) h
  · replace h := ite_f hc h
    refine lv_iconst (v := 0) hx hb dL_law_493 (by decide) ?_
    exact absurd (Option.some.inj h) (by decide)
set_option maxRecDepth 100000 in
set_option maxHeartbeats 4000000 in
theorem law_9 {p : Program} {e : Env} {s : State} {m : MethodId} {below : List Frame} {meth : Method} {c : Code} (l : Launch) {b L : Nat} {xs : Nat → Int32} (hL : L ≤ 4096) (C0 : lw_At p s m meth c b L xs) (D : va_G) (y : Nat → ClassId) (hKK : KK s.heap D y s) (F : Nat) (k18 : Nat → St → Int32 → Option Int32) (hk18 : ∀ (k n : Nat) (κ : Nat → Nat) (σ : St) (v3 : Int32) (H : Heap) (locs : List Loc) (ls : Array Slot), v3 = nI (8 * k) → 8 * k ≤ 4096 → N0 ≤ n → IV s.heap D y n n κ σ locs H → lv_has ls 4 [(0, .ref b), (1, .ref (s.heap.size + 0)), (2, .ref (s.heap.size + 91)), (3, .int v3)] → k18 n σ v3 = some 1 → W p l e room_1 s m #[Value.ref b] below meth c H locs (174 + 6 * k) (257216 + 262 * k) (lw_Z below #[Value.ref b] s) (F0 m 18 ls [])) (k n : Nat) (κ : Nat → Nat) (σ : St) (v3 : Int32) (H : Heap) (locs : List Loc) (ls : Array Slot) (hv : v3 = nI (8 * k)) (hk8 : 8 * k + 8 ≤ 4096) (hN : N0 ≤ n) (hI : IV s.heap D y n n κ σ locs H) (hl : lv_has ls 4 [(0, .ref b), (1, .ref (s.heap.size + 0)), (2, .ref (s.heap.size + 91)), (3, .int v3)]) (h : f_law_9 F xs L k18 n σ v3 = some 1) : W p l e room_1 s m #[Value.ref b] below meth c H locs (174 + 6 * k) (257216 + 262 * k) (lw_Z below #[Value.ref b] s) (F0 m 495 ls []) := by
  obtain ⟨hx, hb, hr, hml, hown, hts0, hX, hbl, hlocks, hgv⟩ := id C0
  have hbA : ¬ (fun q : Nat => s.heap.size ≤ q) b := Nat.not_le.mpr hbl
  have hts : ∀ w ∈ gtb, w.before #[Value.ref b] s = true := fun w hw => hts0 w (List.mem_filter.mp hw).1
  have hown : s.vm.findClass RL = some m.cls := hown
  unfold f_law_9 at h
  refine lv_aload_n hx hb dL_law_495 rfl (lv_at hl 1 rfl) ?_
  refine lv_aload_n hx hb dL_law_496 rfl (lv_at hl 0 rfl) ?_
  refine lv_iload_n hx hb dL_law_497 rfl (lv_at hl 3 rfl) ?_
  refine lv_iconst (v := 1) hx hb dL_law_498 (by decide) ?_
  refine lv_iadd hx hb dL_law_499 ?_
  obtain ⟨hin_, h⟩ := ck_e h
  refine va_sld hx hb hX hbl hbA hI.S hin_ dL_law_500 ?_
  refine lv_aload_n hx hb dL_law_501 rfl (lv_at hl 0 rfl) ?_
  refine lv_iload_n hx hb dL_law_502 rfl (lv_at hl 3 rfl) ?_
  refine lv_iconst (v := 2) hx hb dL_law_503 (by decide) ?_
  refine lv_iadd hx hb dL_law_504 ?_
  obtain ⟨hin_, h⟩ := ck_e h
  refine va_sld hx hb hX hbl hbA hI.S hin_ dL_law_505 ?_
  obtain ⟨q_506, hq_506, h⟩ := ob_e h
  refine r_callV (As := [.int (xs (v3 + 1).toNatClampNeg), .int (xs (v3 + 2).toNatClampNeg)]) (rest := []) (cells' := 174 + 6 * k) (slots' := 257216 + 262 * k) hx hb hml hts hown (c_X11_found l s.heap D y F n κ σ hN (xs (v3 + 1).toNatClampNeg) (xs (v3 + 2).toNatClampNeg) (σ 5) rfl q_506 hq_506) cal_X11_found im_X11_found se_X11_found lm_L_55 ⟨Nat.le_of_ble_eq_true rfl, Nat.le_of_ble_eq_true rfl⟩ hI.nil hKK (r_recv hKK hI (hE11 s.heap.size y) rfl (lc0 hN) (kc0 hI.1.2.2.2.2)) rfl hl.1 hI.2.2 rfl (Nat.le_of_ble_eq_true rfl) dL_law_506 ⟨by show 174 + 6 * k + 0 ≤ 600000; omega, by show 257216 + 262 * k + 0 ≤ 7302250; omega⟩ rfl rfl rfl (fun H locs hB hlo => ?_)
  have hI := hB.re hlo
  refine lv_aload_n hx hb dL_law_509 rfl (lv_at hl 2 rfl) ?_
  refine lv_aload_n hx hb dL_law_510 rfl (lv_at hl 0 rfl) ?_
  refine lv_iload_n hx hb dL_law_511 rfl (lv_at hl 3 rfl) ?_
  refine lv_iconst (v := 1) hx hb dL_law_512 (by decide) ?_
  refine lv_iadd hx hb dL_law_513 ?_
  obtain ⟨hin_, h⟩ := ck_e h
  refine va_sld hx hb hX hbl hbA hI.S hin_ dL_law_514 ?_
  refine lv_aload_n hx hb dL_law_515 rfl (lv_at hl 0 rfl) ?_
  refine lv_iload_n hx hb dL_law_516 rfl (lv_at hl 3 rfl) ?_
  refine lv_iconst (v := 2) hx hb dL_law_517 (by decide) ?_
  refine lv_iadd hx hb dL_law_518 ?_
  obtain ⟨hin_, h⟩ := ck_e h
  refine va_sld hx hb hX hbl hbA hI.S hin_ dL_law_519 ?_
  obtain ⟨q_520, hq_520, h⟩ := ob_e h
  refine r_callV (As := [.int (xs (v3 + 1).toNatClampNeg), .int (xs (v3 + 2).toNatClampNeg)]) (rest := [.int q_506]) (cells' := 174 + 6 * k) (slots' := 257216 + 262 * k) hx hb hml hts hown (c_X12_found l s.heap D y F n κ σ hN (xs (v3 + 1).toNatClampNeg) (xs (v3 + 2).toNatClampNeg) (σ 31) rfl q_520 hq_520) cal_X12_found im_X12_found se_X12_found lm_L_58 ⟨Nat.le_of_ble_eq_true rfl, Nat.le_of_ble_eq_true rfl⟩ hI.nil hKK (r_recv hKK hI (hE12 s.heap.size y) rfl (lc91 hN) (kc91 hI.1.2.2.2.2)) rfl hl.1 hI.2.2 rfl (Nat.le_of_ble_eq_true rfl) dL_law_520 ⟨by show 174 + 6 * k + 0 ≤ 600000; omega, by show 257216 + 262 * k + 0 ≤ 7302250; omega⟩ rfl rfl rfl (fun H locs hB hlo => ?_)
  have hI := hB.re hlo
  refine lv_icmp_eq (tgt := 1314) hx hb dL_law_523 (by decide) (fun hc => ?_) (fun hc => ?_)
  · replace h := ite_t hc h
    obtain ⟨v3n, qq, h⟩ := bn_e h
    refine lv_iinc (v := v3n) (lv' := [(3, .int v3n), (0, .ref b), (1, .ref (s.heap.size + 0)), (2, .ref (s.heap.size + 91))]) hx hb dL_law_1314 hl (k := 3) rfl (by rw [qq]; rfl) (by decide) rfl (fun ls hl => ?_)
    refine lv_goto (tgt := 18) hx hb dL_law_1317 (by decide) ?_
    refine W.widen (k := 174 + 6 * (k + 1)) (n := 257216 + 262 * (k + 1)) (by omega) (by omega) ?_
    exact hk18 (k + 1) n κ σ v3n H locs ls (lawv hv qq) (by omega) hN hI (lv_sub hl [1, 2, 3, 0] rfl) h
  · replace h := ite_f hc h
    refine lv_iconst (v := 0) hx hb dL_law_526 (by decide) ?_
    exact absurd (Option.some.inj h) (by decide)
set_option maxRecDepth 100000 in
set_option maxHeartbeats 4000000 in
theorem law_10 {p : Program} {e : Env} {s : State} {m : MethodId} {below : List Frame} {meth : Method} {c : Code} (l : Launch) {b L : Nat} {xs : Nat → Int32} (hL : L ≤ 4096) (C0 : lw_At p s m meth c b L xs) (D : va_G) (y : Nat → ClassId) (hKK : KK s.heap D y s) (F : Nat) (k18 : Nat → St → Int32 → Option Int32) (hk18 : ∀ (k n : Nat) (κ : Nat → Nat) (σ : St) (v3 : Int32) (H : Heap) (locs : List Loc) (ls : Array Slot), v3 = nI (8 * k) → 8 * k ≤ 4096 → N0 ≤ n → IV s.heap D y n n κ σ locs H → lv_has ls 4 [(0, .ref b), (1, .ref (s.heap.size + 0)), (2, .ref (s.heap.size + 91)), (3, .int v3)] → k18 n σ v3 = some 1 → W p l e room_1 s m #[Value.ref b] below meth c H locs (174 + 6 * k) (257216 + 262 * k) (lw_Z below #[Value.ref b] s) (F0 m 18 ls [])) (k n : Nat) (κ : Nat → Nat) (σ : St) (v3 : Int32) (H : Heap) (locs : List Loc) (ls : Array Slot) (hv : v3 = nI (8 * k)) (hk8 : 8 * k + 8 ≤ 4096) (hN : N0 ≤ n) (hI : IV s.heap D y n n κ σ locs H) (hl : lv_has ls 4 [(0, .ref b), (1, .ref (s.heap.size + 0)), (2, .ref (s.heap.size + 91)), (3, .int v3)]) (h : f_law_10 F xs L k18 n σ v3 = some 1) : W p l e room_1 s m #[Value.ref b] below meth c H locs (174 + 6 * k) (257216 + 262 * k) (lw_Z below #[Value.ref b] s) (F0 m 528 ls []) := by
  obtain ⟨hx, hb, hr, hml, hown, hts0, hX, hbl, hlocks, hgv⟩ := id C0
  have hbA : ¬ (fun q : Nat => s.heap.size ≤ q) b := Nat.not_le.mpr hbl
  have hts : ∀ w ∈ gtb, w.before #[Value.ref b] s = true := fun w hw => hts0 w (List.mem_filter.mp hw).1
  have hown : s.vm.findClass RL = some m.cls := hown
  unfold f_law_10 at h
  refine lv_aload_n hx hb dL_law_528 rfl (lv_at hl 1 rfl) ?_
  refine lv_aload_n hx hb dL_law_529 rfl (lv_at hl 0 rfl) ?_
  refine lv_iload_n hx hb dL_law_530 rfl (lv_at hl 3 rfl) ?_
  refine lv_iconst (v := 1) hx hb dL_law_531 (by decide) ?_
  refine lv_iadd hx hb dL_law_532 ?_
  obtain ⟨hin_, h⟩ := ck_e h
  refine va_sld hx hb hX hbl hbA hI.S hin_ dL_law_533 ?_
  refine lv_aload_n hx hb dL_law_534 rfl (lv_at hl 0 rfl) ?_
  refine lv_iload_n hx hb dL_law_535 rfl (lv_at hl 3 rfl) ?_
  refine lv_iconst (v := 2) hx hb dL_law_536 (by decide) ?_
  refine lv_iadd hx hb dL_law_537 ?_
  obtain ⟨hin_, h⟩ := ck_e h
  refine va_sld hx hb hX hbl hbA hI.S hin_ dL_law_538 ?_
  refine lv_aload_n hx hb dL_law_539 rfl (lv_at hl 0 rfl) ?_
  refine lv_iload_n hx hb dL_law_540 rfl (lv_at hl 3 rfl) ?_
  refine lv_iconst (v := 3) hx hb dL_law_541 (by decide) ?_
  refine lv_iadd hx hb dL_law_542 ?_
  obtain ⟨hin_, h⟩ := ck_e h
  refine va_sld hx hb hX hbl hbA hI.S hin_ dL_law_543 ?_
  refine lv_aload_n hx hb dL_law_544 rfl (lv_at hl 0 rfl) ?_
  refine lv_iload_n hx hb dL_law_545 rfl (lv_at hl 3 rfl) ?_
  refine lv_iconst (v := 4) hx hb dL_law_546 (by decide) ?_
  refine lv_iadd hx hb dL_law_547 ?_
  obtain ⟨hin_, h⟩ := ck_e h
  refine va_sld hx hb hX hbl hbA hI.S hin_ dL_law_548 ?_
  refine lv_aload_n hx hb dL_law_549 rfl (lv_at hl 0 rfl) ?_
  refine lv_iload_n hx hb dL_law_550 rfl (lv_at hl 3 rfl) ?_
  refine lv_iconst (v := 5) hx hb dL_law_551 (by decide) ?_
  refine lv_iadd hx hb dL_law_552 ?_
  obtain ⟨hin_, h⟩ := ck_e h
  refine va_sld hx hb hX hbl hbA hI.S hin_ dL_law_553 ?_
  refine lv_aload_n hx hb dL_law_554 rfl (lv_at hl 0 rfl) ?_
  refine lv_iload_n hx hb dL_law_555 rfl (lv_at hl 3 rfl) ?_
  refine lv_bipush (v := 6) hx hb dL_law_556 (by decide) ?_
  refine lv_iadd hx hb dL_law_558 ?_
  obtain ⟨hin_, h⟩ := ck_e h
  refine va_sld hx hb hX hbl hbA hI.S hin_ dL_law_559 ?_
  refine lv_aload_n hx hb dL_law_560 rfl (lv_at hl 0 rfl) ?_
  refine lv_iload_n hx hb dL_law_561 rfl (lv_at hl 3 rfl) ?_
  refine lv_bipush (v := 7) hx hb dL_law_562 (by decide) ?_
  refine lv_iadd hx hb dL_law_564 ?_
  obtain ⟨hin_, h⟩ := ck_e h
  refine va_sld hx hb hX hbl hbA hI.S hin_ dL_law_565 ?_
  obtain ⟨q_566, hq_566, h⟩ := ob_e h
  refine r_callV (As := [.int (xs (v3 + 1).toNatClampNeg), .int (xs (v3 + 2).toNatClampNeg), .int (xs (v3 + 3).toNatClampNeg), .int (xs (v3 + 4).toNatClampNeg), .int (xs (v3 + 5).toNatClampNeg), .int (xs (v3 + 6).toNatClampNeg), .int (xs (v3 + 7).toNatClampNeg)]) (rest := []) (cells' := 174 + 6 * k + 4) (slots' := 257216 + 262 * k + 262) hx hb hml hts hown (c_X11_letter l s.heap D y F n κ σ hN (xs (v3 + 1).toNatClampNeg) (xs (v3 + 2).toNatClampNeg) (xs (v3 + 3).toNatClampNeg) (xs (v3 + 4).toNatClampNeg) (xs (v3 + 5).toNatClampNeg) (xs (v3 + 6).toNatClampNeg) (xs (v3 + 7).toNatClampNeg) (σ 0) rfl (σ 1) rfl (σ 3) rfl (σ 7) rfl (σ 9) rfl (σ 10) rfl (σ 13) rfl (σ 14) rfl q_566 hq_566) cal_X11_letter im_X11_letter se_X11_letter lm_L_59 ⟨Nat.le_of_ble_eq_true rfl, Nat.le_of_ble_eq_true rfl⟩ hI.nil hKK (r_recv hKK hI (hE11 s.heap.size y) rfl (lc0 hN) (kc0 hI.1.2.2.2.2)) rfl hl.1 hI.2.2 rfl (Nat.le_of_ble_eq_true rfl) dL_law_566 ⟨by show 174 + 6 * k + 4 ≤ 600000; omega, by show 257216 + 262 * k + 262 ≤ 7302250; omega⟩ rfl rfl rfl (fun H locs hB hlo => ?_)
  obtain ⟨κ, σ, hB, hn2, en0, en1, en3, en9, en10, en13, en14, ho⟩ := hB
  have hN := Nat.le_trans hN hn2
  obtain ⟨σ_566, qs, h⟩ := bn_e h
  have es : σ = σ_566 := (sgs_eq (l := [(0, q_566.2.2.1), (1, q_566.2.2.2.1), (3, q_566.2.2.2.2.1), (9, q_566.2.2.2.2.2.1), (10, q_566.2.2.2.2.2.2.1), (13, q_566.2.2.2.2.2.2.2.1), (14, q_566.2.2.2.2.2.2.2.2)]) (by intro z hz; simp only [List.mem_cons, List.not_mem_nil, or_false] at hz; rcases hz with rfl | rfl | rfl | rfl | rfl | rfl | rfl <;> first | exact en0 | exact en1 | exact en3 | exact en9 | exact en10 | exact en13 | exact en14) ho).trans qs.symm
  rw [es] at hB
  have hI := hB.re hlo
  refine lv_aload_n hx hb dL_law_569 rfl (lv_at hl 2 rfl) ?_
  refine lv_aload_n hx hb dL_law_570 rfl (lv_at hl 0 rfl) ?_
  refine lv_iload_n hx hb dL_law_571 rfl (lv_at hl 3 rfl) ?_
  refine lv_iconst (v := 1) hx hb dL_law_572 (by decide) ?_
  refine lv_iadd hx hb dL_law_573 ?_
  obtain ⟨hin_, h⟩ := ck_e h
  refine va_sld hx hb hX hbl hbA hI.S hin_ dL_law_574 ?_
  refine lv_aload_n hx hb dL_law_575 rfl (lv_at hl 0 rfl) ?_
  refine lv_iload_n hx hb dL_law_576 rfl (lv_at hl 3 rfl) ?_
  refine lv_iconst (v := 2) hx hb dL_law_577 (by decide) ?_
  refine lv_iadd hx hb dL_law_578 ?_
  obtain ⟨hin_, h⟩ := ck_e h
  refine va_sld hx hb hX hbl hbA hI.S hin_ dL_law_579 ?_
  refine lv_aload_n hx hb dL_law_580 rfl (lv_at hl 0 rfl) ?_
  refine lv_iload_n hx hb dL_law_581 rfl (lv_at hl 3 rfl) ?_
  refine lv_iconst (v := 3) hx hb dL_law_582 (by decide) ?_
  refine lv_iadd hx hb dL_law_583 ?_
  obtain ⟨hin_, h⟩ := ck_e h
  refine va_sld hx hb hX hbl hbA hI.S hin_ dL_law_584 ?_
  refine lv_aload_n hx hb dL_law_585 rfl (lv_at hl 0 rfl) ?_
  refine lv_iload_n hx hb dL_law_586 rfl (lv_at hl 3 rfl) ?_
  refine lv_iconst (v := 4) hx hb dL_law_587 (by decide) ?_
  refine lv_iadd hx hb dL_law_588 ?_
  obtain ⟨hin_, h⟩ := ck_e h
  refine va_sld hx hb hX hbl hbA hI.S hin_ dL_law_589 ?_
  refine lv_aload_n hx hb dL_law_590 rfl (lv_at hl 0 rfl) ?_
  refine lv_iload_n hx hb dL_law_591 rfl (lv_at hl 3 rfl) ?_
  refine lv_iconst (v := 5) hx hb dL_law_592 (by decide) ?_
  refine lv_iadd hx hb dL_law_593 ?_
  obtain ⟨hin_, h⟩ := ck_e h
  refine va_sld hx hb hX hbl hbA hI.S hin_ dL_law_594 ?_
  refine lv_aload_n hx hb dL_law_595 rfl (lv_at hl 0 rfl) ?_
  refine lv_iload_n hx hb dL_law_596 rfl (lv_at hl 3 rfl) ?_
  refine lv_bipush (v := 6) hx hb dL_law_597 (by decide) ?_
  refine lv_iadd hx hb dL_law_599 ?_
  obtain ⟨hin_, h⟩ := ck_e h
  refine va_sld hx hb hX hbl hbA hI.S hin_ dL_law_600 ?_
  refine lv_aload_n hx hb dL_law_601 rfl (lv_at hl 0 rfl) ?_
  refine lv_iload_n hx hb dL_law_602 rfl (lv_at hl 3 rfl) ?_
  refine lv_bipush (v := 7) hx hb dL_law_603 (by decide) ?_
  refine lv_iadd hx hb dL_law_605 ?_
  obtain ⟨hin_, h⟩ := ck_e h
  refine va_sld hx hb hX hbl hbA hI.S hin_ dL_law_606 ?_
  obtain ⟨q_607, hq_607, h⟩ := ob_e h
  refine r_callV (As := [.int (xs (v3 + 1).toNatClampNeg), .int (xs (v3 + 2).toNatClampNeg), .int (xs (v3 + 3).toNatClampNeg), .int (xs (v3 + 4).toNatClampNeg), .int (xs (v3 + 5).toNatClampNeg), .int (xs (v3 + 6).toNatClampNeg), .int (xs (v3 + 7).toNatClampNeg)]) (rest := [.int (q_566.1)]) (cells' := 174 + 6 * k + 4) (slots' := 257216 + 262 * k + 262) hx hb hml hts hown (c_X12_letter l s.heap D y F (q_566.2.1) κ σ_566 hN (xs (v3 + 1).toNatClampNeg) (xs (v3 + 2).toNatClampNeg) (xs (v3 + 3).toNatClampNeg) (xs (v3 + 4).toNatClampNeg) (xs (v3 + 5).toNatClampNeg) (xs (v3 + 6).toNatClampNeg) (xs (v3 + 7).toNatClampNeg) (σ_566 23) rfl (σ_566 25) rfl (σ_566 27) rfl (σ_566 32) rfl (σ_566 33) rfl q_607 hq_607) cal_X12_letter im_X12_letter se_X12_letter lm_L_63 ⟨Nat.le_of_ble_eq_true rfl, Nat.le_of_ble_eq_true rfl⟩ hI.nil hKK (r_recv hKK hI (hE12 s.heap.size y) rfl (lc91 hN) (kc91 hI.1.2.2.2.2)) rfl hl.1 hI.2.2 rfl (Nat.le_of_ble_eq_true rfl) dL_law_607 ⟨by show 174 + 6 * k + 4 + 0 ≤ 600000; omega, by show 257216 + 262 * k + 262 + 0 ≤ 7302250; omega⟩ rfl rfl rfl (fun H locs hB hlo => ?_)
  obtain ⟨σ, hB, en27, en32, en33, ho⟩ := hB
  obtain ⟨σ_607, qs, h⟩ := bn_e h
  have es : σ = σ_607 := (sgs_eq (l := [(27, q_607.2.1), (32, q_607.2.2.1), (33, q_607.2.2.2)]) (by intro z hz; simp only [List.mem_cons, List.not_mem_nil, or_false] at hz; rcases hz with rfl | rfl | rfl <;> first | exact en27 | exact en32 | exact en33) ho).trans qs.symm
  rw [es] at hB
  have hI := hB.re hlo
  refine lv_icmp_eq (tgt := 1314) hx hb dL_law_610 (by decide) (fun hc => ?_) (fun hc => ?_)
  · replace h := ite_t hc h
    obtain ⟨v3n, qq, h⟩ := bn_e h
    refine lv_iinc (v := v3n) (lv' := [(3, .int v3n), (0, .ref b), (1, .ref (s.heap.size + 0)), (2, .ref (s.heap.size + 91))]) hx hb dL_law_1314 hl (k := 3) rfl (by rw [qq]; rfl) (by decide) rfl (fun ls hl => ?_)
    refine lv_goto (tgt := 18) hx hb dL_law_1317 (by decide) ?_
    refine W.widen (k := 174 + 6 * (k + 1)) (n := 257216 + 262 * (k + 1)) (by omega) (by omega) ?_
    exact hk18 (k + 1) (q_566.2.1) κ σ_607 v3n H locs ls (lawv hv qq) (by omega) hN hI (lv_sub hl [1, 2, 3, 0] rfl) h
  · replace h := ite_f hc h
    refine lv_iconst (v := 0) hx hb dL_law_613 (by decide) ?_
    exact absurd (Option.some.inj h) (by decide)
set_option maxRecDepth 100000 in
set_option maxHeartbeats 4000000 in
theorem law_11 {p : Program} {e : Env} {s : State} {m : MethodId} {below : List Frame} {meth : Method} {c : Code} (l : Launch) {b L : Nat} {xs : Nat → Int32} (hL : L ≤ 4096) (C0 : lw_At p s m meth c b L xs) (D : va_G) (y : Nat → ClassId) (hKK : KK s.heap D y s) (F : Nat) (k18 : Nat → St → Int32 → Option Int32) (hk18 : ∀ (k n : Nat) (κ : Nat → Nat) (σ : St) (v3 : Int32) (H : Heap) (locs : List Loc) (ls : Array Slot), v3 = nI (8 * k) → 8 * k ≤ 4096 → N0 ≤ n → IV s.heap D y n n κ σ locs H → lv_has ls 4 [(0, .ref b), (1, .ref (s.heap.size + 0)), (2, .ref (s.heap.size + 91)), (3, .int v3)] → k18 n σ v3 = some 1 → W p l e room_1 s m #[Value.ref b] below meth c H locs (174 + 6 * k) (257216 + 262 * k) (lw_Z below #[Value.ref b] s) (F0 m 18 ls [])) (k n : Nat) (κ : Nat → Nat) (σ : St) (v3 : Int32) (H : Heap) (locs : List Loc) (ls : Array Slot) (hv : v3 = nI (8 * k)) (hk8 : 8 * k + 8 ≤ 4096) (hN : N0 ≤ n) (hI : IV s.heap D y n n κ σ locs H) (hl : lv_has ls 4 [(0, .ref b), (1, .ref (s.heap.size + 0)), (2, .ref (s.heap.size + 91)), (3, .int v3)]) (h : f_law_11 F xs L k18 n σ v3 = some 1) : W p l e room_1 s m #[Value.ref b] below meth c H locs (174 + 6 * k) (257216 + 262 * k) (lw_Z below #[Value.ref b] s) (F0 m 615 ls []) := by
  obtain ⟨hx, hb, hr, hml, hown, hts0, hX, hbl, hlocks, hgv⟩ := id C0
  have hbA : ¬ (fun q : Nat => s.heap.size ≤ q) b := Nat.not_le.mpr hbl
  have hts : ∀ w ∈ gtb, w.before #[Value.ref b] s = true := fun w hw => hts0 w (List.mem_filter.mp hw).1
  have hown : s.vm.findClass RL = some m.cls := hown
  unfold f_law_11 at h
  refine lv_aload_n hx hb dL_law_615 rfl (lv_at hl 1 rfl) ?_
  refine lv_aload_n hx hb dL_law_616 rfl (lv_at hl 0 rfl) ?_
  refine lv_iload_n hx hb dL_law_617 rfl (lv_at hl 3 rfl) ?_
  refine lv_iconst (v := 1) hx hb dL_law_618 (by decide) ?_
  refine lv_iadd hx hb dL_law_619 ?_
  obtain ⟨hin_, h⟩ := ck_e h
  refine va_sld hx hb hX hbl hbA hI.S hin_ dL_law_620 ?_
  refine lv_aload_n hx hb dL_law_621 rfl (lv_at hl 0 rfl) ?_
  refine lv_iload_n hx hb dL_law_622 rfl (lv_at hl 3 rfl) ?_
  refine lv_iconst (v := 2) hx hb dL_law_623 (by decide) ?_
  refine lv_iadd hx hb dL_law_624 ?_
  obtain ⟨hin_, h⟩ := ck_e h
  refine va_sld hx hb hX hbl hbA hI.S hin_ dL_law_625 ?_
  refine lv_aload_n hx hb dL_law_626 rfl (lv_at hl 0 rfl) ?_
  refine lv_iload_n hx hb dL_law_627 rfl (lv_at hl 3 rfl) ?_
  refine lv_iconst (v := 3) hx hb dL_law_628 (by decide) ?_
  refine lv_iadd hx hb dL_law_629 ?_
  obtain ⟨hin_, h⟩ := ck_e h
  refine va_sld hx hb hX hbl hbA hI.S hin_ dL_law_630 ?_
  refine lv_aload_n hx hb dL_law_631 rfl (lv_at hl 0 rfl) ?_
  refine lv_iload_n hx hb dL_law_632 rfl (lv_at hl 3 rfl) ?_
  refine lv_iconst (v := 4) hx hb dL_law_633 (by decide) ?_
  refine lv_iadd hx hb dL_law_634 ?_
  obtain ⟨hin_, h⟩ := ck_e h
  refine va_sld hx hb hX hbl hbA hI.S hin_ dL_law_635 ?_
  obtain ⟨q_636, hq_636, h⟩ := ob_e h
  refine r_callV (As := [.int (xs (v3 + 1).toNatClampNeg), .int (xs (v3 + 2).toNatClampNeg), .int (xs (v3 + 3).toNatClampNeg), .int (xs (v3 + 4).toNatClampNeg)]) (rest := []) (cells' := 174 + 6 * k) (slots' := 257216 + 262 * k) hx hb hml hts hown (c_X11_translator l s.heap D y F n κ σ hN (xs (v3 + 1).toNatClampNeg) (xs (v3 + 2).toNatClampNeg) (xs (v3 + 3).toNatClampNeg) (xs (v3 + 4).toNatClampNeg) (σ 16) rfl q_636 hq_636) cal_X11_translator im_X11_translator se_X11_translator lm_L_64 ⟨Nat.le_of_ble_eq_true rfl, Nat.le_of_ble_eq_true rfl⟩ hI.nil hKK (r_recv hKK hI (hE11 s.heap.size y) rfl (lc0 hN) (kc0 hI.1.2.2.2.2)) rfl hl.1 hI.2.2 rfl (Nat.le_of_ble_eq_true rfl) dL_law_636 ⟨by show 174 + 6 * k + 0 ≤ 600000; omega, by show 257216 + 262 * k + 0 ≤ 7302250; omega⟩ rfl rfl rfl (fun H locs hB hlo => ?_)
  obtain ⟨σ, hB, en16, ho⟩ := hB
  obtain ⟨σ_636, qs, h⟩ := bn_e h
  have es : σ = σ_636 := (sgs_eq (l := [(16, q_636.2)]) (by intro z hz; rw [List.mem_singleton.mp hz]; exact en16) ho).trans qs.symm
  rw [es] at hB
  have hI := hB.re hlo
  refine lv_aload_n hx hb dL_law_639 rfl (lv_at hl 2 rfl) ?_
  refine lv_aload_n hx hb dL_law_640 rfl (lv_at hl 0 rfl) ?_
  refine lv_iload_n hx hb dL_law_641 rfl (lv_at hl 3 rfl) ?_
  refine lv_iconst (v := 1) hx hb dL_law_642 (by decide) ?_
  refine lv_iadd hx hb dL_law_643 ?_
  obtain ⟨hin_, h⟩ := ck_e h
  refine va_sld hx hb hX hbl hbA hI.S hin_ dL_law_644 ?_
  refine lv_aload_n hx hb dL_law_645 rfl (lv_at hl 0 rfl) ?_
  refine lv_iload_n hx hb dL_law_646 rfl (lv_at hl 3 rfl) ?_
  refine lv_iconst (v := 2) hx hb dL_law_647 (by decide) ?_
  refine lv_iadd hx hb dL_law_648 ?_
  obtain ⟨hin_, h⟩ := ck_e h
  refine va_sld hx hb hX hbl hbA hI.S hin_ dL_law_649 ?_
  refine lv_aload_n hx hb dL_law_650 rfl (lv_at hl 0 rfl) ?_
  refine lv_iload_n hx hb dL_law_651 rfl (lv_at hl 3 rfl) ?_
  refine lv_iconst (v := 3) hx hb dL_law_652 (by decide) ?_
  refine lv_iadd hx hb dL_law_653 ?_
  obtain ⟨hin_, h⟩ := ck_e h
  refine va_sld hx hb hX hbl hbA hI.S hin_ dL_law_654 ?_
  refine lv_aload_n hx hb dL_law_655 rfl (lv_at hl 0 rfl) ?_
  refine lv_iload_n hx hb dL_law_656 rfl (lv_at hl 3 rfl) ?_
  refine lv_iconst (v := 4) hx hb dL_law_657 (by decide) ?_
  refine lv_iadd hx hb dL_law_658 ?_
  obtain ⟨hin_, h⟩ := ck_e h
  refine va_sld hx hb hX hbl hbA hI.S hin_ dL_law_659 ?_
  obtain ⟨q_660, hq_660, h⟩ := ob_e h
  refine r_callV (As := [.int (xs (v3 + 1).toNatClampNeg), .int (xs (v3 + 2).toNatClampNeg), .int (xs (v3 + 3).toNatClampNeg), .int (xs (v3 + 4).toNatClampNeg)]) (rest := [.int (q_636.1)]) (cells' := 174 + 6 * k) (slots' := 257216 + 262 * k) hx hb hml hts hown (c_X12_translator l s.heap D y F n κ σ_636 hN (xs (v3 + 1).toNatClampNeg) (xs (v3 + 2).toNatClampNeg) (xs (v3 + 3).toNatClampNeg) (xs (v3 + 4).toNatClampNeg) (σ_636 37) rfl q_660 hq_660) cal_X12_translator im_X12_translator se_X12_translator lm_L_67 ⟨Nat.le_of_ble_eq_true rfl, Nat.le_of_ble_eq_true rfl⟩ hI.nil hKK (r_recv hKK hI (hE12 s.heap.size y) rfl (lc91 hN) (kc91 hI.1.2.2.2.2)) rfl hl.1 hI.2.2 rfl (Nat.le_of_ble_eq_true rfl) dL_law_660 ⟨by show 174 + 6 * k + 0 ≤ 600000; omega, by show 257216 + 262 * k + 0 ≤ 7302250; omega⟩ rfl rfl rfl (fun H locs hB hlo => ?_)
  obtain ⟨σ, hB, en37, ho⟩ := hB
  obtain ⟨σ_660, qs, h⟩ := bn_e h
  have es : σ = σ_660 := (sgs_eq (l := [(37, q_660.2)]) (by intro z hz; rw [List.mem_singleton.mp hz]; exact en37) ho).trans qs.symm
  rw [es] at hB
  have hI := hB.re hlo
  refine lv_icmp_eq (tgt := 1314) hx hb dL_law_663 (by decide) (fun hc => ?_) (fun hc => ?_)
  · replace h := ite_t hc h
    obtain ⟨v3n, qq, h⟩ := bn_e h
    refine lv_iinc (v := v3n) (lv' := [(3, .int v3n), (0, .ref b), (1, .ref (s.heap.size + 0)), (2, .ref (s.heap.size + 91))]) hx hb dL_law_1314 hl (k := 3) rfl (by rw [qq]; rfl) (by decide) rfl (fun ls hl => ?_)
    refine lv_goto (tgt := 18) hx hb dL_law_1317 (by decide) ?_
    refine W.widen (k := 174 + 6 * (k + 1)) (n := 257216 + 262 * (k + 1)) (by omega) (by omega) ?_
    exact hk18 (k + 1) n κ σ_660 v3n H locs ls (lawv hv qq) (by omega) hN hI (lv_sub hl [1, 2, 3, 0] rfl) h
  · replace h := ite_f hc h
    refine lv_iconst (v := 0) hx hb dL_law_666 (by decide) ?_
    exact absurd (Option.some.inj h) (by decide)
set_option maxRecDepth 100000 in
set_option maxHeartbeats 4000000 in
theorem law_12 {p : Program} {e : Env} {s : State} {m : MethodId} {below : List Frame} {meth : Method} {c : Code} (l : Launch) {b L : Nat} {xs : Nat → Int32} (hL : L ≤ 4096) (C0 : lw_At p s m meth c b L xs) (D : va_G) (y : Nat → ClassId) (hKK : KK s.heap D y s) (F : Nat) (k18 : Nat → St → Int32 → Option Int32) (hk18 : ∀ (k n : Nat) (κ : Nat → Nat) (σ : St) (v3 : Int32) (H : Heap) (locs : List Loc) (ls : Array Slot), v3 = nI (8 * k) → 8 * k ≤ 4096 → N0 ≤ n → IV s.heap D y n n κ σ locs H → lv_has ls 4 [(0, .ref b), (1, .ref (s.heap.size + 0)), (2, .ref (s.heap.size + 91)), (3, .int v3)] → k18 n σ v3 = some 1 → W p l e room_1 s m #[Value.ref b] below meth c H locs (174 + 6 * k) (257216 + 262 * k) (lw_Z below #[Value.ref b] s) (F0 m 18 ls [])) (k n : Nat) (κ : Nat → Nat) (σ : St) (v3 : Int32) (H : Heap) (locs : List Loc) (ls : Array Slot) (hv : v3 = nI (8 * k)) (hk8 : 8 * k + 8 ≤ 4096) (hN : N0 ≤ n) (hI : IV s.heap D y n n κ σ locs H) (hl : lv_has ls 4 [(0, .ref b), (1, .ref (s.heap.size + 0)), (2, .ref (s.heap.size + 91)), (3, .int v3)]) (h : f_law_12 F xs L k18 n σ v3 = some 1) : W p l e room_1 s m #[Value.ref b] below meth c H locs (174 + 6 * k) (257216 + 262 * k) (lw_Z below #[Value.ref b] s) (F0 m 668 ls []) := by
  obtain ⟨hx, hb, hr, hml, hown, hts0, hX, hbl, hlocks, hgv⟩ := id C0
  have hbA : ¬ (fun q : Nat => s.heap.size ≤ q) b := Nat.not_le.mpr hbl
  have hts : ∀ w ∈ gtb, w.before #[Value.ref b] s = true := fun w hw => hts0 w (List.mem_filter.mp hw).1
  have hown : s.vm.findClass RL = some m.cls := hown
  unfold f_law_12 at h
  refine lv_aload_n hx hb dL_law_668 rfl (lv_at hl 1 rfl) ?_
  obtain ⟨q_669, hq_669, h⟩ := ob_e h
  refine r_callV (As := []) (rest := []) (cells' := 174 + 6 * k) (slots' := 257216 + 262 * k) hx hb hml hts hown (c_X11_day l s.heap D y F n κ σ hN  (σ 1) rfl (σ 2) rfl (σ 3) rfl (σ 4) rfl (σ 5) rfl (σ 6) rfl (σ 9) rfl (σ 10) rfl (σ 11) rfl (σ 12) rfl (σ 13) rfl (σ 14) rfl (σ 15) rfl (σ 16) rfl (σ 17) rfl q_669 hq_669) cal_X11_day im_X11_day se_X11_day lm_L_68 ⟨Nat.le_of_ble_eq_true rfl, Nat.le_of_ble_eq_true rfl⟩ hI.nil hKK (r_recv hKK hI (hE11 s.heap.size y) rfl (lc0 hN) (kc0 hI.1.2.2.2.2)) rfl hl.1 hI.2.2 rfl (Nat.le_of_ble_eq_true rfl) dL_law_669 ⟨by show 174 + 6 * k + 0 ≤ 600000; omega, by show 257216 + 262 * k + 0 ≤ 7302250; omega⟩ rfl rfl rfl (fun H locs hB hlo => ?_)
  obtain ⟨σ, hB, en1, en3, en5, en9, en11, en12, en13, en15, en16, en17, ho⟩ := hB
  obtain ⟨σ_669, qs, h⟩ := bn_e h
  have es : σ = σ_669 := (sgs_eq (l := [(1, q_669.2.1), (3, q_669.2.2.1), (5, q_669.2.2.2.1), (9, q_669.2.2.2.2.1), (11, q_669.2.2.2.2.2.1), (12, q_669.2.2.2.2.2.2.1), (13, q_669.2.2.2.2.2.2.2.1), (15, q_669.2.2.2.2.2.2.2.2.1), (16, q_669.2.2.2.2.2.2.2.2.2.1), (17, q_669.2.2.2.2.2.2.2.2.2.2)]) (by intro z hz; simp only [List.mem_cons, List.not_mem_nil, or_false] at hz; rcases hz with rfl | rfl | rfl | rfl | rfl | rfl | rfl | rfl | rfl | rfl <;> first | exact en1 | exact en3 | exact en5 | exact en9 | exact en11 | exact en12 | exact en13 | exact en15 | exact en16 | exact en17) ho).trans qs.symm
  rw [es] at hB
  have hI := hB.re hlo
  refine lv_aload_n hx hb dL_law_672 rfl (lv_at hl 2 rfl) ?_
  obtain ⟨q_673, hq_673, h⟩ := ob_e h
  refine r_callV (As := []) (rest := [.int (q_669.1)]) (cells' := 174 + 6 * k) (slots' := 257216 + 262 * k) hx hb hml hts hown (c_X12_day l s.heap D y F n κ σ_669 hN  (σ_669 23) rfl (σ_669 24) rfl (σ_669 25) rfl (σ_669 26) rfl (σ_669 29) rfl (σ_669 30) rfl (σ_669 32) rfl (σ_669 33) rfl (σ_669 34) rfl (σ_669 35) rfl (σ_669 36) rfl (σ_669 37) rfl (σ_669 38) rfl q_673 hq_673) cal_X12_day im_X12_day se_X12_day lm_L_72 ⟨Nat.le_of_ble_eq_true rfl, Nat.le_of_ble_eq_true rfl⟩ hI.nil hKK (r_recv hKK hI (hE12 s.heap.size y) rfl (lc91 hN) (kc91 hI.1.2.2.2.2)) rfl hl.1 hI.2.2 rfl (Nat.le_of_ble_eq_true rfl) dL_law_673 ⟨by show 174 + 6 * k + 0 ≤ 600000; omega, by show 257216 + 262 * k + 0 ≤ 7302250; omega⟩ rfl rfl rfl (fun H locs hB hlo => ?_)
  obtain ⟨σ, hB, en23, en25, en30, en32, en34, en35, en36, en38, ho⟩ := hB
  obtain ⟨σ_673, qs, h⟩ := bn_e h
  have es : σ = σ_673 := (sgs_eq (l := [(23, q_673.2.1), (25, q_673.2.2.1), (30, q_673.2.2.2.1), (32, q_673.2.2.2.2.1), (34, q_673.2.2.2.2.2.1), (35, q_673.2.2.2.2.2.2.1), (36, q_673.2.2.2.2.2.2.2.1), (38, q_673.2.2.2.2.2.2.2.2)]) (by intro z hz; simp only [List.mem_cons, List.not_mem_nil, or_false] at hz; rcases hz with rfl | rfl | rfl | rfl | rfl | rfl | rfl | rfl <;> first | exact en23 | exact en25 | exact en30 | exact en32 | exact en34 | exact en35 | exact en36 | exact en38) ho).trans qs.symm
  rw [es] at hB
  have hI := hB.re hlo
  refine lv_icmp_eq (tgt := 1314) hx hb dL_law_676 (by decide) (fun hc => ?_) (fun hc => ?_)
  · replace h := ite_t hc h
    obtain ⟨v3n, qq, h⟩ := bn_e h
    refine lv_iinc (v := v3n) (lv' := [(3, .int v3n), (0, .ref b), (1, .ref (s.heap.size + 0)), (2, .ref (s.heap.size + 91))]) hx hb dL_law_1314 hl (k := 3) rfl (by rw [qq]; rfl) (by decide) rfl (fun ls hl => ?_)
    refine lv_goto (tgt := 18) hx hb dL_law_1317 (by decide) ?_
    refine W.widen (k := 174 + 6 * (k + 1)) (n := 257216 + 262 * (k + 1)) (by omega) (by omega) ?_
    exact hk18 (k + 1) n κ σ_673 v3n H locs ls (lawv hv qq) (by omega) hN hI (lv_sub hl [1, 2, 3, 0] rfl) h
  · replace h := ite_f hc h
    refine lv_iconst (v := 0) hx hb dL_law_679 (by decide) ?_
    exact absurd (Option.some.inj h) (by decide)
set_option maxRecDepth 100000 in
set_option maxHeartbeats 4000000 in
theorem law_13 {p : Program} {e : Env} {s : State} {m : MethodId} {below : List Frame} {meth : Method} {c : Code} (l : Launch) {b L : Nat} {xs : Nat → Int32} (hL : L ≤ 4096) (C0 : lw_At p s m meth c b L xs) (D : va_G) (y : Nat → ClassId) (hKK : KK s.heap D y s) (F : Nat) (k18 : Nat → St → Int32 → Option Int32) (hk18 : ∀ (k n : Nat) (κ : Nat → Nat) (σ : St) (v3 : Int32) (H : Heap) (locs : List Loc) (ls : Array Slot), v3 = nI (8 * k) → 8 * k ≤ 4096 → N0 ≤ n → IV s.heap D y n n κ σ locs H → lv_has ls 4 [(0, .ref b), (1, .ref (s.heap.size + 0)), (2, .ref (s.heap.size + 91)), (3, .int v3)] → k18 n σ v3 = some 1 → W p l e room_1 s m #[Value.ref b] below meth c H locs (174 + 6 * k) (257216 + 262 * k) (lw_Z below #[Value.ref b] s) (F0 m 18 ls [])) (k n : Nat) (κ : Nat → Nat) (σ : St) (v3 : Int32) (H : Heap) (locs : List Loc) (ls : Array Slot) (hv : v3 = nI (8 * k)) (hk8 : 8 * k + 8 ≤ 4096) (hN : N0 ≤ n) (hI : IV s.heap D y n n κ σ locs H) (hl : lv_has ls 4 [(0, .ref b), (1, .ref (s.heap.size + 0)), (2, .ref (s.heap.size + 91)), (3, .int v3)]) (h : f_law_13 F xs L k18 n σ v3 = some 1) : W p l e room_1 s m #[Value.ref b] below meth c H locs (174 + 6 * k) (257216 + 262 * k) (lw_Z below #[Value.ref b] s) (F0 m 681 ls []) := by
  obtain ⟨hx, hb, hr, hml, hown, hts0, hX, hbl, hlocks, hgv⟩ := id C0
  have hbA : ¬ (fun q : Nat => s.heap.size ≤ q) b := Nat.not_le.mpr hbl
  have hts : ∀ w ∈ gtb, w.before #[Value.ref b] s = true := fun w hw => hts0 w (List.mem_filter.mp hw).1
  have hown : s.vm.findClass RL = some m.cls := hown
  unfold f_law_13 at h
  refine lv_aload_n hx hb dL_law_681 rfl (lv_at hl 1 rfl) ?_
  refine lv_aload_n hx hb dL_law_682 rfl (lv_at hl 0 rfl) ?_
  refine lv_iload_n hx hb dL_law_683 rfl (lv_at hl 3 rfl) ?_
  refine lv_iconst (v := 1) hx hb dL_law_684 (by decide) ?_
  refine lv_iadd hx hb dL_law_685 ?_
  obtain ⟨hin_, h⟩ := ck_e h
  refine va_sld hx hb hX hbl hbA hI.S hin_ dL_law_686 ?_
  refine lv_aload_n hx hb dL_law_687 rfl (lv_at hl 0 rfl) ?_
  refine lv_iload_n hx hb dL_law_688 rfl (lv_at hl 3 rfl) ?_
  refine lv_iconst (v := 2) hx hb dL_law_689 (by decide) ?_
  refine lv_iadd hx hb dL_law_690 ?_
  obtain ⟨hin_, h⟩ := ck_e h
  refine va_sld hx hb hX hbl hbA hI.S hin_ dL_law_691 ?_
  refine lv_if_eq (tgt := 699) hx hb dL_law_692 (by decide) (fun hc => ?_) (fun hc => ?_)
  · replace h := ite_t hc h
    refine lv_iconst (v := 0) hx hb dL_law_699 (by decide) ?_
    obtain ⟨q_700, hq_700, h⟩ := ob_e h
    refine r_callV (As := [.int (xs (v3 + 1).toNatClampNeg), .int 0]) (rest := []) (cells' := 174 + 6 * k) (slots' := 257216 + 262 * k) hx hb hml hts hown (c_X11_decide l s.heap D y F n κ σ hN (xs (v3 + 1).toNatClampNeg) 0 (σ 1) rfl (σ 3) rfl (σ 4) rfl (σ 5) rfl (σ 6) rfl (σ 9) rfl (σ 10) rfl (σ 12) rfl (σ 13) rfl (σ 14) rfl q_700 hq_700) cal_X11_decide im_X11_decide se_X11_decide lm_L_73 ⟨Nat.le_of_ble_eq_true rfl, Nat.le_of_ble_eq_true rfl⟩ hI.nil hKK (r_recv hKK hI (hE11 s.heap.size y) rfl (lc0 hN) (kc0 hI.1.2.2.2.2)) rfl hl.1 hI.2.2 rfl (Nat.le_of_ble_eq_true rfl) dL_law_700 ⟨by show 174 + 6 * k + 0 ≤ 600000; omega, by show 257216 + 262 * k + 0 ≤ 7302250; omega⟩ rfl rfl rfl (fun H locs hB hlo => ?_)
    obtain ⟨σ, hB, en3, en5, en9, en12, en13, ho⟩ := hB
    obtain ⟨σ_700, qs, h⟩ := bn_e h
    have es : σ = σ_700 := (sgs_eq (l := [(3, q_700.2.1), (5, q_700.2.2.1), (9, q_700.2.2.2.1), (12, q_700.2.2.2.2.1), (13, q_700.2.2.2.2.2)]) (by intro z hz; simp only [List.mem_cons, List.not_mem_nil, or_false] at hz; rcases hz with rfl | rfl | rfl | rfl | rfl <;> first | exact en3 | exact en5 | exact en9 | exact en12 | exact en13) ho).trans qs.symm
    rw [es] at hB
    have hI := hB.re hlo
    refine lv_aload_n hx hb dL_law_703 rfl (lv_at hl 2 rfl) ?_
    refine lv_aload_n hx hb dL_law_704 rfl (lv_at hl 0 rfl) ?_
    refine lv_iload_n hx hb dL_law_705 rfl (lv_at hl 3 rfl) ?_
    refine lv_iconst (v := 1) hx hb dL_law_706 (by decide) ?_
    refine lv_iadd hx hb dL_law_707 ?_
    obtain ⟨hin_, h⟩ := ck_e h
    refine va_sld hx hb hX hbl hbA hI.S hin_ dL_law_708 ?_
    refine lv_aload_n hx hb dL_law_709 rfl (lv_at hl 0 rfl) ?_
    refine lv_iload_n hx hb dL_law_710 rfl (lv_at hl 3 rfl) ?_
    refine lv_iconst (v := 2) hx hb dL_law_711 (by decide) ?_
    refine lv_iadd hx hb dL_law_712 ?_
    obtain ⟨hin_, h⟩ := ck_e h
    refine va_sld hx hb hX hbl hbA hI.S hin_ dL_law_713 ?_
    refine lv_if_eq (tgt := 721) hx hb dL_law_714 (by decide) (fun hc => ?_) (fun hc => ?_)
    · replace h := ite_t hc h
      refine lv_iconst (v := 0) hx hb dL_law_721 (by decide) ?_
      obtain ⟨q_722, hq_722, h⟩ := ob_e h
      refine r_callV (As := [.int (xs (v3 + 1).toNatClampNeg), .int 0]) (rest := [.int (q_700.1)]) (cells' := 174 + 6 * k) (slots' := 257216 + 262 * k) hx hb hml hts hown (c_X12_decide l s.heap D y F n κ σ_700 hN (xs (v3 + 1).toNatClampNeg) 0 (σ_700 23) rfl (σ_700 24) rfl (σ_700 25) rfl (σ_700 29) rfl (σ_700 30) rfl (σ_700 32) rfl (σ_700 33) rfl (σ_700 36) rfl q_722 hq_722) cal_X12_decide im_X12_decide se_X12_decide lm_L_77 ⟨Nat.le_of_ble_eq_true rfl, Nat.le_of_ble_eq_true rfl⟩ hI.nil hKK (r_recv hKK hI (hE12 s.heap.size y) rfl (lc91 hN) (kc91 hI.1.2.2.2.2)) rfl hl.1 hI.2.2 rfl (Nat.le_of_ble_eq_true rfl) dL_law_722 ⟨by show 174 + 6 * k + 0 ≤ 600000; omega, by show 257216 + 262 * k + 0 ≤ 7302250; omega⟩ rfl rfl rfl (fun H locs hB hlo => ?_)
      obtain ⟨σ, hB, en25, en30, en32, en36, ho⟩ := hB
      obtain ⟨σ_722, qs, h⟩ := bn_e h
      have es : σ = σ_722 := (sgs_eq (l := [(25, q_722.2.1), (30, q_722.2.2.1), (32, q_722.2.2.2.1), (36, q_722.2.2.2.2)]) (by intro z hz; simp only [List.mem_cons, List.not_mem_nil, or_false] at hz; rcases hz with rfl | rfl | rfl | rfl <;> first | exact en25 | exact en30 | exact en32 | exact en36) ho).trans qs.symm
      rw [es] at hB
      have hI := hB.re hlo
      refine lv_icmp_eq (tgt := 1314) hx hb dL_law_725 (by decide) (fun hc => ?_) (fun hc => ?_)
      · replace h := ite_t hc h
        obtain ⟨v3n, qq, h⟩ := bn_e h
        refine lv_iinc (v := v3n) (lv' := [(3, .int v3n), (0, .ref b), (1, .ref (s.heap.size + 0)), (2, .ref (s.heap.size + 91))]) hx hb dL_law_1314 hl (k := 3) rfl (by rw [qq]; rfl) (by decide) rfl (fun ls hl => ?_)
        refine lv_goto (tgt := 18) hx hb dL_law_1317 (by decide) ?_
        refine W.widen (k := 174 + 6 * (k + 1)) (n := 257216 + 262 * (k + 1)) (by omega) (by omega) ?_
        exact hk18 (k + 1) n κ σ_722 v3n H locs ls (lawv hv qq) (by omega) hN hI (lv_sub hl [1, 2, 3, 0] rfl) h
      · replace h := ite_f hc h
        refine lv_iconst (v := 0) hx hb dL_law_728 (by decide) ?_
        exact absurd (Option.some.inj h) (by decide)
    · replace h := ite_f hc h
      refine lv_iconst (v := 1) hx hb dL_law_717 (by decide) ?_
      refine lv_goto (tgt := 722) hx hb dL_law_718 (by decide) ?_
      obtain ⟨q_722, hq_722, h⟩ := ob_e h
      refine r_callV (As := [.int (xs (v3 + 1).toNatClampNeg), .int 1]) (rest := [.int (q_700.1)]) (cells' := 174 + 6 * k) (slots' := 257216 + 262 * k) hx hb hml hts hown (c_X12_decide l s.heap D y F n κ σ_700 hN (xs (v3 + 1).toNatClampNeg) 1 (σ_700 23) rfl (σ_700 24) rfl (σ_700 25) rfl (σ_700 29) rfl (σ_700 30) rfl (σ_700 32) rfl (σ_700 33) rfl (σ_700 36) rfl q_722 hq_722) cal_X12_decide im_X12_decide se_X12_decide lm_L_77 ⟨Nat.le_of_ble_eq_true rfl, Nat.le_of_ble_eq_true rfl⟩ hI.nil hKK (r_recv hKK hI (hE12 s.heap.size y) rfl (lc91 hN) (kc91 hI.1.2.2.2.2)) rfl hl.1 hI.2.2 rfl (Nat.le_of_ble_eq_true rfl) dL_law_722 ⟨by show 174 + 6 * k + 0 ≤ 600000; omega, by show 257216 + 262 * k + 0 ≤ 7302250; omega⟩ rfl rfl rfl (fun H locs hB hlo => ?_)
      obtain ⟨σ, hB, en25, en30, en32, en36, ho⟩ := hB
      obtain ⟨σ_722, qs, h⟩ := bn_e h
      have es : σ = σ_722 := (sgs_eq (l := [(25, q_722.2.1), (30, q_722.2.2.1), (32, q_722.2.2.2.1), (36, q_722.2.2.2.2)]) (by intro z hz; simp only [List.mem_cons, List.not_mem_nil, or_false] at hz; rcases hz with rfl | rfl | rfl | rfl <;> first | exact en25 | exact en30 | exact en32 | exact en36) ho).trans qs.symm
      rw [es] at hB
      have hI := hB.re hlo
      refine lv_icmp_eq (tgt := 1314) hx hb dL_law_725 (by decide) (fun hc => ?_) (fun hc => ?_)
      · replace h := ite_t hc h
        obtain ⟨v3n, qq, h⟩ := bn_e h
        refine lv_iinc (v := v3n) (lv' := [(3, .int v3n), (0, .ref b), (1, .ref (s.heap.size + 0)), (2, .ref (s.heap.size + 91))]) hx hb dL_law_1314 hl (k := 3) rfl (by rw [qq]; rfl) (by decide) rfl (fun ls hl => ?_)
        refine lv_goto (tgt := 18) hx hb dL_law_1317 (by decide) ?_
        refine W.widen (k := 174 + 6 * (k + 1)) (n := 257216 + 262 * (k + 1)) (by omega) (by omega) ?_
        exact hk18 (k + 1) n κ σ_722 v3n H locs ls (lawv hv qq) (by omega) hN hI (lv_sub hl [1, 2, 3, 0] rfl) h
      · replace h := ite_f hc h
        refine lv_iconst (v := 0) hx hb dL_law_728 (by decide) ?_
        exact absurd (Option.some.inj h) (by decide)
  · replace h := ite_f hc h
    refine lv_iconst (v := 1) hx hb dL_law_695 (by decide) ?_
    refine lv_goto (tgt := 700) hx hb dL_law_696 (by decide) ?_
    obtain ⟨q_700, hq_700, h⟩ := ob_e h
    refine r_callV (As := [.int (xs (v3 + 1).toNatClampNeg), .int 1]) (rest := []) (cells' := 174 + 6 * k) (slots' := 257216 + 262 * k) hx hb hml hts hown (c_X11_decide l s.heap D y F n κ σ hN (xs (v3 + 1).toNatClampNeg) 1 (σ 1) rfl (σ 3) rfl (σ 4) rfl (σ 5) rfl (σ 6) rfl (σ 9) rfl (σ 10) rfl (σ 12) rfl (σ 13) rfl (σ 14) rfl q_700 hq_700) cal_X11_decide im_X11_decide se_X11_decide lm_L_73 ⟨Nat.le_of_ble_eq_true rfl, Nat.le_of_ble_eq_true rfl⟩ hI.nil hKK (r_recv hKK hI (hE11 s.heap.size y) rfl (lc0 hN) (kc0 hI.1.2.2.2.2)) rfl hl.1 hI.2.2 rfl (Nat.le_of_ble_eq_true rfl) dL_law_700 ⟨by show 174 + 6 * k + 0 ≤ 600000; omega, by show 257216 + 262 * k + 0 ≤ 7302250; omega⟩ rfl rfl rfl (fun H locs hB hlo => ?_)
    obtain ⟨σ, hB, en3, en5, en9, en12, en13, ho⟩ := hB
    obtain ⟨σ_700, qs, h⟩ := bn_e h
    have es : σ = σ_700 := (sgs_eq (l := [(3, q_700.2.1), (5, q_700.2.2.1), (9, q_700.2.2.2.1), (12, q_700.2.2.2.2.1), (13, q_700.2.2.2.2.2)]) (by intro z hz; simp only [List.mem_cons, List.not_mem_nil, or_false] at hz; rcases hz with rfl | rfl | rfl | rfl | rfl <;> first | exact en3 | exact en5 | exact en9 | exact en12 | exact en13) ho).trans qs.symm
    rw [es] at hB
    have hI := hB.re hlo
    refine lv_aload_n hx hb dL_law_703 rfl (lv_at hl 2 rfl) ?_
    refine lv_aload_n hx hb dL_law_704 rfl (lv_at hl 0 rfl) ?_
    refine lv_iload_n hx hb dL_law_705 rfl (lv_at hl 3 rfl) ?_
    refine lv_iconst (v := 1) hx hb dL_law_706 (by decide) ?_
    refine lv_iadd hx hb dL_law_707 ?_
    obtain ⟨hin_, h⟩ := ck_e h
    refine va_sld hx hb hX hbl hbA hI.S hin_ dL_law_708 ?_
    refine lv_aload_n hx hb dL_law_709 rfl (lv_at hl 0 rfl) ?_
    refine lv_iload_n hx hb dL_law_710 rfl (lv_at hl 3 rfl) ?_
    refine lv_iconst (v := 2) hx hb dL_law_711 (by decide) ?_
    refine lv_iadd hx hb dL_law_712 ?_
    obtain ⟨hin_, h⟩ := ck_e h
    refine va_sld hx hb hX hbl hbA hI.S hin_ dL_law_713 ?_
    refine lv_if_eq (tgt := 721) hx hb dL_law_714 (by decide) (fun hc => ?_) (fun hc => ?_)
    · replace h := ite_t hc h
      refine lv_iconst (v := 0) hx hb dL_law_721 (by decide) ?_
      obtain ⟨q_722, hq_722, h⟩ := ob_e h
      refine r_callV (As := [.int (xs (v3 + 1).toNatClampNeg), .int 0]) (rest := [.int (q_700.1)]) (cells' := 174 + 6 * k) (slots' := 257216 + 262 * k) hx hb hml hts hown (c_X12_decide l s.heap D y F n κ σ_700 hN (xs (v3 + 1).toNatClampNeg) 0 (σ_700 23) rfl (σ_700 24) rfl (σ_700 25) rfl (σ_700 29) rfl (σ_700 30) rfl (σ_700 32) rfl (σ_700 33) rfl (σ_700 36) rfl q_722 hq_722) cal_X12_decide im_X12_decide se_X12_decide lm_L_77 ⟨Nat.le_of_ble_eq_true rfl, Nat.le_of_ble_eq_true rfl⟩ hI.nil hKK (r_recv hKK hI (hE12 s.heap.size y) rfl (lc91 hN) (kc91 hI.1.2.2.2.2)) rfl hl.1 hI.2.2 rfl (Nat.le_of_ble_eq_true rfl) dL_law_722 ⟨by show 174 + 6 * k + 0 ≤ 600000; omega, by show 257216 + 262 * k + 0 ≤ 7302250; omega⟩ rfl rfl rfl (fun H locs hB hlo => ?_)
      obtain ⟨σ, hB, en25, en30, en32, en36, ho⟩ := hB
      obtain ⟨σ_722, qs, h⟩ := bn_e h
      have es : σ = σ_722 := (sgs_eq (l := [(25, q_722.2.1), (30, q_722.2.2.1), (32, q_722.2.2.2.1), (36, q_722.2.2.2.2)]) (by intro z hz; simp only [List.mem_cons, List.not_mem_nil, or_false] at hz; rcases hz with rfl | rfl | rfl | rfl <;> first | exact en25 | exact en30 | exact en32 | exact en36) ho).trans qs.symm
      rw [es] at hB
      have hI := hB.re hlo
      refine lv_icmp_eq (tgt := 1314) hx hb dL_law_725 (by decide) (fun hc => ?_) (fun hc => ?_)
      · replace h := ite_t hc h
        obtain ⟨v3n, qq, h⟩ := bn_e h
        refine lv_iinc (v := v3n) (lv' := [(3, .int v3n), (0, .ref b), (1, .ref (s.heap.size + 0)), (2, .ref (s.heap.size + 91))]) hx hb dL_law_1314 hl (k := 3) rfl (by rw [qq]; rfl) (by decide) rfl (fun ls hl => ?_)
        refine lv_goto (tgt := 18) hx hb dL_law_1317 (by decide) ?_
        refine W.widen (k := 174 + 6 * (k + 1)) (n := 257216 + 262 * (k + 1)) (by omega) (by omega) ?_
        exact hk18 (k + 1) n κ σ_722 v3n H locs ls (lawv hv qq) (by omega) hN hI (lv_sub hl [1, 2, 3, 0] rfl) h
      · replace h := ite_f hc h
        refine lv_iconst (v := 0) hx hb dL_law_728 (by decide) ?_
        exact absurd (Option.some.inj h) (by decide)
    · replace h := ite_f hc h
      refine lv_iconst (v := 1) hx hb dL_law_717 (by decide) ?_
      refine lv_goto (tgt := 722) hx hb dL_law_718 (by decide) ?_
      obtain ⟨q_722, hq_722, h⟩ := ob_e h
      refine r_callV (As := [.int (xs (v3 + 1).toNatClampNeg), .int 1]) (rest := [.int (q_700.1)]) (cells' := 174 + 6 * k) (slots' := 257216 + 262 * k) hx hb hml hts hown (c_X12_decide l s.heap D y F n κ σ_700 hN (xs (v3 + 1).toNatClampNeg) 1 (σ_700 23) rfl (σ_700 24) rfl (σ_700 25) rfl (σ_700 29) rfl (σ_700 30) rfl (σ_700 32) rfl (σ_700 33) rfl (σ_700 36) rfl q_722 hq_722) cal_X12_decide im_X12_decide se_X12_decide lm_L_77 ⟨Nat.le_of_ble_eq_true rfl, Nat.le_of_ble_eq_true rfl⟩ hI.nil hKK (r_recv hKK hI (hE12 s.heap.size y) rfl (lc91 hN) (kc91 hI.1.2.2.2.2)) rfl hl.1 hI.2.2 rfl (Nat.le_of_ble_eq_true rfl) dL_law_722 ⟨by show 174 + 6 * k + 0 ≤ 600000; omega, by show 257216 + 262 * k + 0 ≤ 7302250; omega⟩ rfl rfl rfl (fun H locs hB hlo => ?_)
      obtain ⟨σ, hB, en25, en30, en32, en36, ho⟩ := hB
      obtain ⟨σ_722, qs, h⟩ := bn_e h
      have es : σ = σ_722 := (sgs_eq (l := [(25, q_722.2.1), (30, q_722.2.2.1), (32, q_722.2.2.2.1), (36, q_722.2.2.2.2)]) (by intro z hz; simp only [List.mem_cons, List.not_mem_nil, or_false] at hz; rcases hz with rfl | rfl | rfl | rfl <;> first | exact en25 | exact en30 | exact en32 | exact en36) ho).trans qs.symm
      rw [es] at hB
      have hI := hB.re hlo
      refine lv_icmp_eq (tgt := 1314) hx hb dL_law_725 (by decide) (fun hc => ?_) (fun hc => ?_)
      · replace h := ite_t hc h
        obtain ⟨v3n, qq, h⟩ := bn_e h
        refine lv_iinc (v := v3n) (lv' := [(3, .int v3n), (0, .ref b), (1, .ref (s.heap.size + 0)), (2, .ref (s.heap.size + 91))]) hx hb dL_law_1314 hl (k := 3) rfl (by rw [qq]; rfl) (by decide) rfl (fun ls hl => ?_)
        refine lv_goto (tgt := 18) hx hb dL_law_1317 (by decide) ?_
        refine W.widen (k := 174 + 6 * (k + 1)) (n := 257216 + 262 * (k + 1)) (by omega) (by omega) ?_
        exact hk18 (k + 1) n κ σ_722 v3n H locs ls (lawv hv qq) (by omega) hN hI (lv_sub hl [1, 2, 3, 0] rfl) h
      · replace h := ite_f hc h
        refine lv_iconst (v := 0) hx hb dL_law_728 (by decide) ?_
        exact absurd (Option.some.inj h) (by decide)
set_option maxRecDepth 100000 in
set_option maxHeartbeats 4000000 in
theorem law_14 {p : Program} {e : Env} {s : State} {m : MethodId} {below : List Frame} {meth : Method} {c : Code} (l : Launch) {b L : Nat} {xs : Nat → Int32} (hL : L ≤ 4096) (C0 : lw_At p s m meth c b L xs) (D : va_G) (y : Nat → ClassId) (hKK : KK s.heap D y s) (F : Nat) (k18 : Nat → St → Int32 → Option Int32) (hk18 : ∀ (k n : Nat) (κ : Nat → Nat) (σ : St) (v3 : Int32) (H : Heap) (locs : List Loc) (ls : Array Slot), v3 = nI (8 * k) → 8 * k ≤ 4096 → N0 ≤ n → IV s.heap D y n n κ σ locs H → lv_has ls 4 [(0, .ref b), (1, .ref (s.heap.size + 0)), (2, .ref (s.heap.size + 91)), (3, .int v3)] → k18 n σ v3 = some 1 → W p l e room_1 s m #[Value.ref b] below meth c H locs (174 + 6 * k) (257216 + 262 * k) (lw_Z below #[Value.ref b] s) (F0 m 18 ls [])) (k n : Nat) (κ : Nat → Nat) (σ : St) (v3 : Int32) (H : Heap) (locs : List Loc) (ls : Array Slot) (hv : v3 = nI (8 * k)) (hk8 : 8 * k + 8 ≤ 4096) (hN : N0 ≤ n) (hI : IV s.heap D y n n κ σ locs H) (hl : lv_has ls 4 [(0, .ref b), (1, .ref (s.heap.size + 0)), (2, .ref (s.heap.size + 91)), (3, .int v3)]) (h : f_law_14 F xs L k18 n σ v3 = some 1) : W p l e room_1 s m #[Value.ref b] below meth c H locs (174 + 6 * k) (257216 + 262 * k) (lw_Z below #[Value.ref b] s) (F0 m 730 ls []) := by
  obtain ⟨hx, hb, hr, hml, hown, hts0, hX, hbl, hlocks, hgv⟩ := id C0
  have hbA : ¬ (fun q : Nat => s.heap.size ≤ q) b := Nat.not_le.mpr hbl
  have hts : ∀ w ∈ gtb, w.before #[Value.ref b] s = true := fun w hw => hts0 w (List.mem_filter.mp hw).1
  have hown : s.vm.findClass RL = some m.cls := hown
  unfold f_law_14 at h
  refine lv_aload_n hx hb dL_law_730 rfl (lv_at hl 1 rfl) ?_
  refine lv_aload_n hx hb dL_law_731 rfl (lv_at hl 0 rfl) ?_
  refine lv_iload_n hx hb dL_law_732 rfl (lv_at hl 3 rfl) ?_
  refine lv_iconst (v := 1) hx hb dL_law_733 (by decide) ?_
  refine lv_iadd hx hb dL_law_734 ?_
  obtain ⟨hin_, h⟩ := ck_e h
  refine va_sld hx hb hX hbl hbA hI.S hin_ dL_law_735 ?_
  obtain ⟨q_736, hq_736, h⟩ := ob_e h
  refine r_callV (As := [.int (xs (v3 + 1).toNatClampNeg)]) (rest := []) (cells' := 174 + 6 * k) (slots' := 257216 + 262 * k) hx hb hml hts hown (c_X11_lose l s.heap D y F n κ σ hN (xs (v3 + 1).toNatClampNeg) (σ 1) rfl (σ 10) rfl (σ 11) rfl (σ 13) rfl q_736 hq_736) cal_X11_lose im_X11_lose se_X11_lose lm_L_78 ⟨Nat.le_of_ble_eq_true rfl, Nat.le_of_ble_eq_true rfl⟩ hI.nil hKK (r_recv hKK hI (hE11 s.heap.size y) rfl (lc0 hN) (kc0 hI.1.2.2.2.2)) rfl hl.1 hI.2.2 rfl (Nat.le_of_ble_eq_true rfl) dL_law_736 ⟨by show 174 + 6 * k + 0 ≤ 600000; omega, by show 257216 + 262 * k + 0 ≤ 7302250; omega⟩ rfl rfl rfl (fun H locs hB hlo => ?_)
  obtain ⟨σ, hB, en11, en13, ho⟩ := hB
  obtain ⟨σ_736, qs, h⟩ := bn_e h
  have es : σ = σ_736 := (sgs_eq (l := [(11, q_736.2.1), (13, q_736.2.2)]) (by intro z hz; simp only [List.mem_cons, List.not_mem_nil, or_false] at hz; rcases hz with rfl | rfl <;> first | exact en11 | exact en13) ho).trans qs.symm
  rw [es] at hB
  have hI := hB.re hlo
  refine lv_aload_n hx hb dL_law_739 rfl (lv_at hl 2 rfl) ?_
  refine lv_aload_n hx hb dL_law_740 rfl (lv_at hl 0 rfl) ?_
  refine lv_iload_n hx hb dL_law_741 rfl (lv_at hl 3 rfl) ?_
  refine lv_iconst (v := 1) hx hb dL_law_742 (by decide) ?_
  refine lv_iadd hx hb dL_law_743 ?_
  obtain ⟨hin_, h⟩ := ck_e h
  refine va_sld hx hb hX hbl hbA hI.S hin_ dL_law_744 ?_
  obtain ⟨q_745, hq_745, h⟩ := ob_e h
  refine r_callV (As := [.int (xs (v3 + 1).toNatClampNeg)]) (rest := [.int (q_736.1)]) (cells' := 174 + 6 * k) (slots' := 257216 + 262 * k) hx hb hml hts hown (c_X12_lose l s.heap D y F n κ σ_736 hN (xs (v3 + 1).toNatClampNeg) (σ_736 23) rfl (σ_736 32) rfl (σ_736 35) rfl q_745 hq_745) cal_X12_lose im_X12_lose se_X12_lose lm_L_81 ⟨Nat.le_of_ble_eq_true rfl, Nat.le_of_ble_eq_true rfl⟩ hI.nil hKK (r_recv hKK hI (hE12 s.heap.size y) rfl (lc91 hN) (kc91 hI.1.2.2.2.2)) rfl hl.1 hI.2.2 rfl (Nat.le_of_ble_eq_true rfl) dL_law_745 ⟨by show 174 + 6 * k + 0 ≤ 600000; omega, by show 257216 + 262 * k + 0 ≤ 7302250; omega⟩ rfl rfl rfl (fun H locs hB hlo => ?_)
  obtain ⟨σ, hB, en32, en35, ho⟩ := hB
  obtain ⟨σ_745, qs, h⟩ := bn_e h
  have es : σ = σ_745 := (sgs_eq (l := [(32, q_745.2.1), (35, q_745.2.2)]) (by intro z hz; simp only [List.mem_cons, List.not_mem_nil, or_false] at hz; rcases hz with rfl | rfl <;> first | exact en32 | exact en35) ho).trans qs.symm
  rw [es] at hB
  have hI := hB.re hlo
  refine lv_icmp_eq (tgt := 1314) hx hb dL_law_748 (by decide) (fun hc => ?_) (fun hc => ?_)
  · replace h := ite_t hc h
    obtain ⟨v3n, qq, h⟩ := bn_e h
    refine lv_iinc (v := v3n) (lv' := [(3, .int v3n), (0, .ref b), (1, .ref (s.heap.size + 0)), (2, .ref (s.heap.size + 91))]) hx hb dL_law_1314 hl (k := 3) rfl (by rw [qq]; rfl) (by decide) rfl (fun ls hl => ?_)
    refine lv_goto (tgt := 18) hx hb dL_law_1317 (by decide) ?_
    refine W.widen (k := 174 + 6 * (k + 1)) (n := 257216 + 262 * (k + 1)) (by omega) (by omega) ?_
    exact hk18 (k + 1) n κ σ_745 v3n H locs ls (lawv hv qq) (by omega) hN hI (lv_sub hl [1, 2, 3, 0] rfl) h
  · replace h := ite_f hc h
    refine lv_iconst (v := 0) hx hb dL_law_751 (by decide) ?_
    exact absurd (Option.some.inj h) (by decide)
set_option maxRecDepth 100000 in
set_option maxHeartbeats 4000000 in
theorem law_15 {p : Program} {e : Env} {s : State} {m : MethodId} {below : List Frame} {meth : Method} {c : Code} (l : Launch) {b L : Nat} {xs : Nat → Int32} (hL : L ≤ 4096) (C0 : lw_At p s m meth c b L xs) (D : va_G) (y : Nat → ClassId) (hKK : KK s.heap D y s) (F : Nat) (k18 : Nat → St → Int32 → Option Int32) (hk18 : ∀ (k n : Nat) (κ : Nat → Nat) (σ : St) (v3 : Int32) (H : Heap) (locs : List Loc) (ls : Array Slot), v3 = nI (8 * k) → 8 * k ≤ 4096 → N0 ≤ n → IV s.heap D y n n κ σ locs H → lv_has ls 4 [(0, .ref b), (1, .ref (s.heap.size + 0)), (2, .ref (s.heap.size + 91)), (3, .int v3)] → k18 n σ v3 = some 1 → W p l e room_1 s m #[Value.ref b] below meth c H locs (174 + 6 * k) (257216 + 262 * k) (lw_Z below #[Value.ref b] s) (F0 m 18 ls [])) (k n : Nat) (κ : Nat → Nat) (σ : St) (v3 : Int32) (H : Heap) (locs : List Loc) (ls : Array Slot) (hv : v3 = nI (8 * k)) (hk8 : 8 * k + 8 ≤ 4096) (hN : N0 ≤ n) (hI : IV s.heap D y n n κ σ locs H) (hl : lv_has ls 4 [(0, .ref b), (1, .ref (s.heap.size + 0)), (2, .ref (s.heap.size + 91)), (3, .int v3)]) (h : f_law_15 F xs L k18 n σ v3 = some 1) : W p l e room_1 s m #[Value.ref b] below meth c H locs (174 + 6 * k) (257216 + 262 * k) (lw_Z below #[Value.ref b] s) (F0 m 753 ls []) := by
  obtain ⟨hx, hb, hr, hml, hown, hts0, hX, hbl, hlocks, hgv⟩ := id C0
  have hbA : ¬ (fun q : Nat => s.heap.size ≤ q) b := Nat.not_le.mpr hbl
  have hts : ∀ w ∈ gtb, w.before #[Value.ref b] s = true := fun w hw => hts0 w (List.mem_filter.mp hw).1
  have hown : s.vm.findClass RL = some m.cls := hown
  unfold f_law_15 at h
  refine lv_aload_n hx hb dL_law_753 rfl (lv_at hl 1 rfl) ?_
  refine lv_aload_n hx hb dL_law_754 rfl (lv_at hl 0 rfl) ?_
  refine lv_iload_n hx hb dL_law_755 rfl (lv_at hl 3 rfl) ?_
  refine lv_iconst (v := 1) hx hb dL_law_756 (by decide) ?_
  refine lv_iadd hx hb dL_law_757 ?_
  obtain ⟨hin_, h⟩ := ck_e h
  refine va_sld hx hb hX hbl hbA hI.S hin_ dL_law_758 ?_
  refine lv_aload_n hx hb dL_law_759 rfl (lv_at hl 0 rfl) ?_
  refine lv_iload_n hx hb dL_law_760 rfl (lv_at hl 3 rfl) ?_
  refine lv_iconst (v := 2) hx hb dL_law_761 (by decide) ?_
  refine lv_iadd hx hb dL_law_762 ?_
  obtain ⟨hin_, h⟩ := ck_e h
  refine va_sld hx hb hX hbl hbA hI.S hin_ dL_law_763 ?_
  obtain ⟨q_764, hq_764, h⟩ := ob_e h
  refine r_callV (As := [.int (xs (v3 + 1).toNatClampNeg), .int (xs (v3 + 2).toNatClampNeg)]) (rest := []) (cells' := 174 + 6 * k) (slots' := 257216 + 262 * k) hx hb hml hts hown (c_X11_about l s.heap D y F n κ σ hN (xs (v3 + 1).toNatClampNeg) (xs (v3 + 2).toNatClampNeg) (σ 3) rfl (σ 9) rfl (σ 10) rfl (σ 13) rfl (σ 15) rfl q_764 hq_764) cal_X11_about im_X11_about se_X11_about lm_L_82 ⟨Nat.le_of_ble_eq_true rfl, Nat.le_of_ble_eq_true rfl⟩ hI.nil hKK (r_recv hKK hI (hE11 s.heap.size y) rfl (lc0 hN) (kc0 hI.1.2.2.2.2)) rfl hl.1 hI.2.2 rfl (Nat.le_of_ble_eq_true rfl) dL_law_764 ⟨by show 174 + 6 * k + 0 ≤ 600000; omega, by show 257216 + 262 * k + 0 ≤ 7302250; omega⟩ rfl rfl rfl (fun H locs hB hlo => ?_)
  have hI := hB.re hlo
  refine lv_aload_n hx hb dL_law_767 rfl (lv_at hl 2 rfl) ?_
  refine lv_aload_n hx hb dL_law_768 rfl (lv_at hl 0 rfl) ?_
  refine lv_iload_n hx hb dL_law_769 rfl (lv_at hl 3 rfl) ?_
  refine lv_iconst (v := 1) hx hb dL_law_770 (by decide) ?_
  refine lv_iadd hx hb dL_law_771 ?_
  obtain ⟨hin_, h⟩ := ck_e h
  refine va_sld hx hb hX hbl hbA hI.S hin_ dL_law_772 ?_
  refine lv_aload_n hx hb dL_law_773 rfl (lv_at hl 0 rfl) ?_
  refine lv_iload_n hx hb dL_law_774 rfl (lv_at hl 3 rfl) ?_
  refine lv_iconst (v := 2) hx hb dL_law_775 (by decide) ?_
  refine lv_iadd hx hb dL_law_776 ?_
  obtain ⟨hin_, h⟩ := ck_e h
  refine va_sld hx hb hX hbl hbA hI.S hin_ dL_law_777 ?_
  obtain ⟨q_778, hq_778, h⟩ := ob_e h
  refine r_callV (As := [.int (xs (v3 + 1).toNatClampNeg), .int (xs (v3 + 2).toNatClampNeg)]) (rest := [.int q_764]) (cells' := 174 + 6 * k) (slots' := 257216 + 262 * k) hx hb hml hts hown (c_X12_about l s.heap D y F n κ σ hN (xs (v3 + 1).toNatClampNeg) (xs (v3 + 2).toNatClampNeg) (σ 32) rfl (σ 34) rfl q_778 hq_778) cal_X12_about im_X12_about se_X12_about lm_L_85 ⟨Nat.le_of_ble_eq_true rfl, Nat.le_of_ble_eq_true rfl⟩ hI.nil hKK (r_recv hKK hI (hE12 s.heap.size y) rfl (lc91 hN) (kc91 hI.1.2.2.2.2)) rfl hl.1 hI.2.2 rfl (Nat.le_of_ble_eq_true rfl) dL_law_778 ⟨by show 174 + 6 * k + 0 ≤ 600000; omega, by show 257216 + 262 * k + 0 ≤ 7302250; omega⟩ rfl rfl rfl (fun H locs hB hlo => ?_)
  have hI := hB.re hlo
  refine lv_icmp_eq (tgt := 1314) hx hb dL_law_781 (by decide) (fun hc => ?_) (fun hc => ?_)
  · replace h := ite_t hc h
    obtain ⟨v3n, qq, h⟩ := bn_e h
    refine lv_iinc (v := v3n) (lv' := [(3, .int v3n), (0, .ref b), (1, .ref (s.heap.size + 0)), (2, .ref (s.heap.size + 91))]) hx hb dL_law_1314 hl (k := 3) rfl (by rw [qq]; rfl) (by decide) rfl (fun ls hl => ?_)
    refine lv_goto (tgt := 18) hx hb dL_law_1317 (by decide) ?_
    refine W.widen (k := 174 + 6 * (k + 1)) (n := 257216 + 262 * (k + 1)) (by omega) (by omega) ?_
    exact hk18 (k + 1) n κ σ v3n H locs ls (lawv hv qq) (by omega) hN hI (lv_sub hl [1, 2, 3, 0] rfl) h
  · replace h := ite_f hc h
    refine lv_iconst (v := 0) hx hb dL_law_784 (by decide) ?_
    exact absurd (Option.some.inj h) (by decide)
set_option maxRecDepth 100000 in
set_option maxHeartbeats 4000000 in
theorem law_16 {p : Program} {e : Env} {s : State} {m : MethodId} {below : List Frame} {meth : Method} {c : Code} (l : Launch) {b L : Nat} {xs : Nat → Int32} (hL : L ≤ 4096) (C0 : lw_At p s m meth c b L xs) (D : va_G) (y : Nat → ClassId) (hKK : KK s.heap D y s) (F : Nat) (k18 : Nat → St → Int32 → Option Int32) (hk18 : ∀ (k n : Nat) (κ : Nat → Nat) (σ : St) (v3 : Int32) (H : Heap) (locs : List Loc) (ls : Array Slot), v3 = nI (8 * k) → 8 * k ≤ 4096 → N0 ≤ n → IV s.heap D y n n κ σ locs H → lv_has ls 4 [(0, .ref b), (1, .ref (s.heap.size + 0)), (2, .ref (s.heap.size + 91)), (3, .int v3)] → k18 n σ v3 = some 1 → W p l e room_1 s m #[Value.ref b] below meth c H locs (174 + 6 * k) (257216 + 262 * k) (lw_Z below #[Value.ref b] s) (F0 m 18 ls [])) (k n : Nat) (κ : Nat → Nat) (σ : St) (v3 : Int32) (H : Heap) (locs : List Loc) (ls : Array Slot) (hv : v3 = nI (8 * k)) (hk8 : 8 * k + 8 ≤ 4096) (hN : N0 ≤ n) (hI : IV s.heap D y n n κ σ locs H) (hl : lv_has ls 4 [(0, .ref b), (1, .ref (s.heap.size + 0)), (2, .ref (s.heap.size + 91)), (3, .int v3)]) (h : f_law_16 F xs L k18 n σ v3 = some 1) : W p l e room_1 s m #[Value.ref b] below meth c H locs (174 + 6 * k) (257216 + 262 * k) (lw_Z below #[Value.ref b] s) (F0 m 786 ls []) := by
  obtain ⟨hx, hb, hr, hml, hown, hts0, hX, hbl, hlocks, hgv⟩ := id C0
  have hbA : ¬ (fun q : Nat => s.heap.size ≤ q) b := Nat.not_le.mpr hbl
  have hts : ∀ w ∈ gtb, w.before #[Value.ref b] s = true := fun w hw => hts0 w (List.mem_filter.mp hw).1
  have hown : s.vm.findClass RL = some m.cls := hown
  unfold f_law_16 at h
  refine lv_aload_n hx hb dL_law_786 rfl (lv_at hl 1 rfl) ?_
  refine lv_aload_n hx hb dL_law_787 rfl (lv_at hl 0 rfl) ?_
  refine lv_iload_n hx hb dL_law_788 rfl (lv_at hl 3 rfl) ?_
  refine lv_iconst (v := 1) hx hb dL_law_789 (by decide) ?_
  refine lv_iadd hx hb dL_law_790 ?_
  obtain ⟨hin_, h⟩ := ck_e h
  refine va_sld hx hb hX hbl hbA hI.S hin_ dL_law_791 ?_
  obtain ⟨q_792, hq_792, h⟩ := ob_e h
  refine r_callV (As := [.int (xs (v3 + 1).toNatClampNeg)]) (rest := []) (cells' := 174 + 6 * k) (slots' := 257216 + 262 * k) hx hb hml hts hown (c_X11_hints l s.heap D y F n κ σ hN (xs (v3 + 1).toNatClampNeg) (σ 7) rfl (σ 9) rfl q_792 hq_792) cal_X11_hints im_X11_hints se_X11_hints lm_L_86 ⟨Nat.le_of_ble_eq_true rfl, Nat.le_of_ble_eq_true rfl⟩ hI.nil hKK (r_recv hKK hI (hE11 s.heap.size y) rfl (lc0 hN) (kc0 hI.1.2.2.2.2)) rfl hl.1 hI.2.2 rfl (Nat.le_of_ble_eq_true rfl) dL_law_792 ⟨by show 174 + 6 * k + 0 ≤ 600000; omega, by show 257216 + 262 * k + 0 ≤ 7302250; omega⟩ rfl rfl rfl (fun H locs hB hlo => ?_)
  have hI := hB.re hlo
  refine lv_aload_n hx hb dL_law_795 rfl (lv_at hl 2 rfl) ?_
  refine lv_aload_n hx hb dL_law_796 rfl (lv_at hl 0 rfl) ?_
  refine lv_iload_n hx hb dL_law_797 rfl (lv_at hl 3 rfl) ?_
  refine lv_iconst (v := 1) hx hb dL_law_798 (by decide) ?_
  refine lv_iadd hx hb dL_law_799 ?_
  obtain ⟨hin_, h⟩ := ck_e h
  refine va_sld hx hb hX hbl hbA hI.S hin_ dL_law_800 ?_
  obtain ⟨q_801, hq_801, h⟩ := ob_e h
  refine r_callV (As := [.int (xs (v3 + 1).toNatClampNeg)]) (rest := [.int q_792]) (cells' := 174 + 6 * k) (slots' := 257216 + 262 * k) hx hb hml hts hown (c_X12_hints l s.heap D y F n κ σ hN (xs (v3 + 1).toNatClampNeg) (σ 25) rfl q_801 hq_801) cal_X12_hints im_X12_hints se_X12_hints lm_L_89 ⟨Nat.le_of_ble_eq_true rfl, Nat.le_of_ble_eq_true rfl⟩ hI.nil hKK (r_recv hKK hI (hE12 s.heap.size y) rfl (lc91 hN) (kc91 hI.1.2.2.2.2)) rfl hl.1 hI.2.2 rfl (Nat.le_of_ble_eq_true rfl) dL_law_801 ⟨by show 174 + 6 * k + 0 ≤ 600000; omega, by show 257216 + 262 * k + 0 ≤ 7302250; omega⟩ rfl rfl rfl (fun H locs hB hlo => ?_)
  have hI := hB.re hlo
  refine lv_icmp_eq (tgt := 1314) hx hb dL_law_804 (by decide) (fun hc => ?_) (fun hc => ?_)
  · replace h := ite_t hc h
    obtain ⟨v3n, qq, h⟩ := bn_e h
    refine lv_iinc (v := v3n) (lv' := [(3, .int v3n), (0, .ref b), (1, .ref (s.heap.size + 0)), (2, .ref (s.heap.size + 91))]) hx hb dL_law_1314 hl (k := 3) rfl (by rw [qq]; rfl) (by decide) rfl (fun ls hl => ?_)
    refine lv_goto (tgt := 18) hx hb dL_law_1317 (by decide) ?_
    refine W.widen (k := 174 + 6 * (k + 1)) (n := 257216 + 262 * (k + 1)) (by omega) (by omega) ?_
    exact hk18 (k + 1) n κ σ v3n H locs ls (lawv hv qq) (by omega) hN hI (lv_sub hl [1, 2, 3, 0] rfl) h
  · replace h := ite_f hc h
    refine lv_iconst (v := 0) hx hb dL_law_807 (by decide) ?_
    exact absurd (Option.some.inj h) (by decide)
set_option maxRecDepth 100000 in
set_option maxHeartbeats 4000000 in
theorem law_17 {p : Program} {e : Env} {s : State} {m : MethodId} {below : List Frame} {meth : Method} {c : Code} (l : Launch) {b L : Nat} {xs : Nat → Int32} (hL : L ≤ 4096) (C0 : lw_At p s m meth c b L xs) (D : va_G) (y : Nat → ClassId) (hKK : KK s.heap D y s) (F : Nat) (k18 : Nat → St → Int32 → Option Int32) (hk18 : ∀ (k n : Nat) (κ : Nat → Nat) (σ : St) (v3 : Int32) (H : Heap) (locs : List Loc) (ls : Array Slot), v3 = nI (8 * k) → 8 * k ≤ 4096 → N0 ≤ n → IV s.heap D y n n κ σ locs H → lv_has ls 4 [(0, .ref b), (1, .ref (s.heap.size + 0)), (2, .ref (s.heap.size + 91)), (3, .int v3)] → k18 n σ v3 = some 1 → W p l e room_1 s m #[Value.ref b] below meth c H locs (174 + 6 * k) (257216 + 262 * k) (lw_Z below #[Value.ref b] s) (F0 m 18 ls [])) (k n : Nat) (κ : Nat → Nat) (σ : St) (v3 : Int32) (H : Heap) (locs : List Loc) (ls : Array Slot) (hv : v3 = nI (8 * k)) (hk8 : 8 * k + 8 ≤ 4096) (hN : N0 ≤ n) (hI : IV s.heap D y n n κ σ locs H) (hl : lv_has ls 4 [(0, .ref b), (1, .ref (s.heap.size + 0)), (2, .ref (s.heap.size + 91)), (3, .int v3)]) (h : f_law_17 F xs L k18 n σ v3 = some 1) : W p l e room_1 s m #[Value.ref b] below meth c H locs (174 + 6 * k) (257216 + 262 * k) (lw_Z below #[Value.ref b] s) (F0 m 809 ls []) := by
  obtain ⟨hx, hb, hr, hml, hown, hts0, hX, hbl, hlocks, hgv⟩ := id C0
  have hbA : ¬ (fun q : Nat => s.heap.size ≤ q) b := Nat.not_le.mpr hbl
  have hts : ∀ w ∈ gtb, w.before #[Value.ref b] s = true := fun w hw => hts0 w (List.mem_filter.mp hw).1
  have hown : s.vm.findClass RL = some m.cls := hown
  unfold f_law_17 at h
  refine lv_aload_n hx hb dL_law_809 rfl (lv_at hl 1 rfl) ?_
  refine lv_aload_n hx hb dL_law_810 rfl (lv_at hl 0 rfl) ?_
  refine lv_iload_n hx hb dL_law_811 rfl (lv_at hl 3 rfl) ?_
  refine lv_iconst (v := 1) hx hb dL_law_812 (by decide) ?_
  refine lv_iadd hx hb dL_law_813 ?_
  obtain ⟨hin_, h⟩ := ck_e h
  refine va_sld hx hb hX hbl hbA hI.S hin_ dL_law_814 ?_
  obtain ⟨q_815, hq_815, h⟩ := ob_e h
  refine r_callV (As := [.int (xs (v3 + 1).toNatClampNeg)]) (rest := []) (cells' := 174 + 6 * k) (slots' := 257216 + 262 * k) hx hb hml hts hown (c_X11_unlike l s.heap D y F n κ σ hN (xs (v3 + 1).toNatClampNeg) (σ 2) rfl (σ 9) rfl (σ 10) rfl (σ 12) rfl (σ 13) rfl (σ 14) rfl q_815 hq_815) cal_X11_unlike im_X11_unlike se_X11_unlike lm_L_90 ⟨Nat.le_of_ble_eq_true rfl, Nat.le_of_ble_eq_true rfl⟩ hI.nil hKK (r_recv hKK hI (hE11 s.heap.size y) rfl (lc0 hN) (kc0 hI.1.2.2.2.2)) rfl hl.1 hI.2.2 rfl (Nat.le_of_ble_eq_true rfl) dL_law_815 ⟨by show 174 + 6 * k + 0 ≤ 600000; omega, by show 257216 + 262 * k + 0 ≤ 7302250; omega⟩ rfl rfl rfl (fun H locs hB hlo => ?_)
  have hI := hB.re hlo
  refine lv_aload_n hx hb dL_law_818 rfl (lv_at hl 2 rfl) ?_
  refine lv_aload_n hx hb dL_law_819 rfl (lv_at hl 0 rfl) ?_
  refine lv_iload_n hx hb dL_law_820 rfl (lv_at hl 3 rfl) ?_
  refine lv_iconst (v := 1) hx hb dL_law_821 (by decide) ?_
  refine lv_iadd hx hb dL_law_822 ?_
  obtain ⟨hin_, h⟩ := ck_e h
  refine va_sld hx hb hX hbl hbA hI.S hin_ dL_law_823 ?_
  obtain ⟨q_824, hq_824, h⟩ := ob_e h
  refine r_callV (As := [.int (xs (v3 + 1).toNatClampNeg)]) (rest := [.int q_815]) (cells' := 174 + 6 * k) (slots' := 257216 + 262 * k) hx hb hml hts hown (c_X12_unlike l s.heap D y F n κ σ hN (xs (v3 + 1).toNatClampNeg) (σ 25) rfl (σ 26) rfl (σ 32) rfl (σ 33) rfl (σ 36) rfl q_824 hq_824) cal_X12_unlike im_X12_unlike se_X12_unlike lm_L_93 ⟨Nat.le_of_ble_eq_true rfl, Nat.le_of_ble_eq_true rfl⟩ hI.nil hKK (r_recv hKK hI (hE12 s.heap.size y) rfl (lc91 hN) (kc91 hI.1.2.2.2.2)) rfl hl.1 hI.2.2 rfl (Nat.le_of_ble_eq_true rfl) dL_law_824 ⟨by show 174 + 6 * k + 0 ≤ 600000; omega, by show 257216 + 262 * k + 0 ≤ 7302250; omega⟩ rfl rfl rfl (fun H locs hB hlo => ?_)
  have hI := hB.re hlo
  refine lv_icmp_eq (tgt := 1314) hx hb dL_law_827 (by decide) (fun hc => ?_) (fun hc => ?_)
  · replace h := ite_t hc h
    obtain ⟨v3n, qq, h⟩ := bn_e h
    refine lv_iinc (v := v3n) (lv' := [(3, .int v3n), (0, .ref b), (1, .ref (s.heap.size + 0)), (2, .ref (s.heap.size + 91))]) hx hb dL_law_1314 hl (k := 3) rfl (by rw [qq]; rfl) (by decide) rfl (fun ls hl => ?_)
    refine lv_goto (tgt := 18) hx hb dL_law_1317 (by decide) ?_
    refine W.widen (k := 174 + 6 * (k + 1)) (n := 257216 + 262 * (k + 1)) (by omega) (by omega) ?_
    exact hk18 (k + 1) n κ σ v3n H locs ls (lawv hv qq) (by omega) hN hI (lv_sub hl [1, 2, 3, 0] rfl) h
  · replace h := ite_f hc h
    refine lv_iconst (v := 0) hx hb dL_law_830 (by decide) ?_
    exact absurd (Option.some.inj h) (by decide)
set_option maxRecDepth 100000 in
set_option maxHeartbeats 4000000 in
theorem law_18 {p : Program} {e : Env} {s : State} {m : MethodId} {below : List Frame} {meth : Method} {c : Code} (l : Launch) {b L : Nat} {xs : Nat → Int32} (hL : L ≤ 4096) (C0 : lw_At p s m meth c b L xs) (D : va_G) (y : Nat → ClassId) (hKK : KK s.heap D y s) (F : Nat) (k18 : Nat → St → Int32 → Option Int32) (hk18 : ∀ (k n : Nat) (κ : Nat → Nat) (σ : St) (v3 : Int32) (H : Heap) (locs : List Loc) (ls : Array Slot), v3 = nI (8 * k) → 8 * k ≤ 4096 → N0 ≤ n → IV s.heap D y n n κ σ locs H → lv_has ls 4 [(0, .ref b), (1, .ref (s.heap.size + 0)), (2, .ref (s.heap.size + 91)), (3, .int v3)] → k18 n σ v3 = some 1 → W p l e room_1 s m #[Value.ref b] below meth c H locs (174 + 6 * k) (257216 + 262 * k) (lw_Z below #[Value.ref b] s) (F0 m 18 ls [])) (k n : Nat) (κ : Nat → Nat) (σ : St) (v3 : Int32) (H : Heap) (locs : List Loc) (ls : Array Slot) (hv : v3 = nI (8 * k)) (hk8 : 8 * k + 8 ≤ 4096) (hN : N0 ≤ n) (hI : IV s.heap D y n n κ σ locs H) (hl : lv_has ls 4 [(0, .ref b), (1, .ref (s.heap.size + 0)), (2, .ref (s.heap.size + 91)), (3, .int v3)]) (h : f_law_18 F xs L k18 n σ v3 = some 1) : W p l e room_1 s m #[Value.ref b] below meth c H locs (174 + 6 * k) (257216 + 262 * k) (lw_Z below #[Value.ref b] s) (F0 m 832 ls []) := by
  obtain ⟨hx, hb, hr, hml, hown, hts0, hX, hbl, hlocks, hgv⟩ := id C0
  have hbA : ¬ (fun q : Nat => s.heap.size ≤ q) b := Nat.not_le.mpr hbl
  have hts : ∀ w ∈ gtb, w.before #[Value.ref b] s = true := fun w hw => hts0 w (List.mem_filter.mp hw).1
  have hown : s.vm.findClass RL = some m.cls := hown
  unfold f_law_18 at h
  refine lv_aload_n hx hb dL_law_832 rfl (lv_at hl 1 rfl) ?_
  refine lv_aload_n hx hb dL_law_833 rfl (lv_at hl 0 rfl) ?_
  refine lv_iload_n hx hb dL_law_834 rfl (lv_at hl 3 rfl) ?_
  refine lv_iconst (v := 1) hx hb dL_law_835 (by decide) ?_
  refine lv_iadd hx hb dL_law_836 ?_
  obtain ⟨hin_, h⟩ := ck_e h
  refine va_sld hx hb hX hbl hbA hI.S hin_ dL_law_837 ?_
  obtain ⟨q_838, hq_838, h⟩ := ob_e h
  refine r_callV (As := [.int (xs (v3 + 1).toNatClampNeg)]) (rest := []) (cells' := 174 + 6 * k) (slots' := 257216 + 262 * k) hx hb hml hts hown (c_X11_lag l s.heap D y F n κ σ hN (xs (v3 + 1).toNatClampNeg) (σ 10) rfl (σ 15) rfl q_838 hq_838) cal_X11_lag im_X11_lag se_X11_lag lm_L_94 ⟨Nat.le_of_ble_eq_true rfl, Nat.le_of_ble_eq_true rfl⟩ hI.nil hKK (r_recv hKK hI (hE11 s.heap.size y) rfl (lc0 hN) (kc0 hI.1.2.2.2.2)) rfl hl.1 hI.2.2 rfl (Nat.le_of_ble_eq_true rfl) dL_law_838 ⟨by show 174 + 6 * k + 0 ≤ 600000; omega, by show 257216 + 262 * k + 0 ≤ 7302250; omega⟩ rfl rfl rfl (fun H locs hB hlo => ?_)
  have hI := hB.re hlo
  refine lv_aload_n hx hb dL_law_841 rfl (lv_at hl 2 rfl) ?_
  refine lv_aload_n hx hb dL_law_842 rfl (lv_at hl 0 rfl) ?_
  refine lv_iload_n hx hb dL_law_843 rfl (lv_at hl 3 rfl) ?_
  refine lv_iconst (v := 1) hx hb dL_law_844 (by decide) ?_
  refine lv_iadd hx hb dL_law_845 ?_
  obtain ⟨hin_, h⟩ := ck_e h
  refine va_sld hx hb hX hbl hbA hI.S hin_ dL_law_846 ?_
  obtain ⟨q_847, hq_847, h⟩ := ob_e h
  refine r_callV (As := [.int (xs (v3 + 1).toNatClampNeg)]) (rest := [.int q_838]) (cells' := 174 + 6 * k) (slots' := 257216 + 262 * k) hx hb hml hts hown (c_X12_lag l s.heap D y F n κ σ hN (xs (v3 + 1).toNatClampNeg) (σ 32) rfl (σ 34) rfl q_847 hq_847) cal_X12_lag im_X12_lag se_X12_lag lm_L_97 ⟨Nat.le_of_ble_eq_true rfl, Nat.le_of_ble_eq_true rfl⟩ hI.nil hKK (r_recv hKK hI (hE12 s.heap.size y) rfl (lc91 hN) (kc91 hI.1.2.2.2.2)) rfl hl.1 hI.2.2 rfl (Nat.le_of_ble_eq_true rfl) dL_law_847 ⟨by show 174 + 6 * k + 0 ≤ 600000; omega, by show 257216 + 262 * k + 0 ≤ 7302250; omega⟩ rfl rfl rfl (fun H locs hB hlo => ?_)
  have hI := hB.re hlo
  refine lv_icmp_eq (tgt := 1314) hx hb dL_law_850 (by decide) (fun hc => ?_) (fun hc => ?_)
  · replace h := ite_t hc h
    obtain ⟨v3n, qq, h⟩ := bn_e h
    refine lv_iinc (v := v3n) (lv' := [(3, .int v3n), (0, .ref b), (1, .ref (s.heap.size + 0)), (2, .ref (s.heap.size + 91))]) hx hb dL_law_1314 hl (k := 3) rfl (by rw [qq]; rfl) (by decide) rfl (fun ls hl => ?_)
    refine lv_goto (tgt := 18) hx hb dL_law_1317 (by decide) ?_
    refine W.widen (k := 174 + 6 * (k + 1)) (n := 257216 + 262 * (k + 1)) (by omega) (by omega) ?_
    exact hk18 (k + 1) n κ σ v3n H locs ls (lawv hv qq) (by omega) hN hI (lv_sub hl [1, 2, 3, 0] rfl) h
  · replace h := ite_f hc h
    refine lv_iconst (v := 0) hx hb dL_law_853 (by decide) ?_
    exact absurd (Option.some.inj h) (by decide)
set_option maxRecDepth 100000 in
set_option maxHeartbeats 4000000 in
theorem law_19 {p : Program} {e : Env} {s : State} {m : MethodId} {below : List Frame} {meth : Method} {c : Code} (l : Launch) {b L : Nat} {xs : Nat → Int32} (hL : L ≤ 4096) (C0 : lw_At p s m meth c b L xs) (D : va_G) (y : Nat → ClassId) (hKK : KK s.heap D y s) (F : Nat) (k18 : Nat → St → Int32 → Option Int32) (hk18 : ∀ (k n : Nat) (κ : Nat → Nat) (σ : St) (v3 : Int32) (H : Heap) (locs : List Loc) (ls : Array Slot), v3 = nI (8 * k) → 8 * k ≤ 4096 → N0 ≤ n → IV s.heap D y n n κ σ locs H → lv_has ls 4 [(0, .ref b), (1, .ref (s.heap.size + 0)), (2, .ref (s.heap.size + 91)), (3, .int v3)] → k18 n σ v3 = some 1 → W p l e room_1 s m #[Value.ref b] below meth c H locs (174 + 6 * k) (257216 + 262 * k) (lw_Z below #[Value.ref b] s) (F0 m 18 ls [])) (k n : Nat) (κ : Nat → Nat) (σ : St) (v3 : Int32) (H : Heap) (locs : List Loc) (ls : Array Slot) (hv : v3 = nI (8 * k)) (hk8 : 8 * k + 8 ≤ 4096) (hN : N0 ≤ n) (hI : IV s.heap D y n n κ σ locs H) (hl : lv_has ls 4 [(0, .ref b), (1, .ref (s.heap.size + 0)), (2, .ref (s.heap.size + 91)), (3, .int v3)]) (h : f_law_19 F xs L k18 n σ v3 = some 1) : W p l e room_1 s m #[Value.ref b] below meth c H locs (174 + 6 * k) (257216 + 262 * k) (lw_Z below #[Value.ref b] s) (F0 m 855 ls []) := by
  obtain ⟨hx, hb, hr, hml, hown, hts0, hX, hbl, hlocks, hgv⟩ := id C0
  have hbA : ¬ (fun q : Nat => s.heap.size ≤ q) b := Nat.not_le.mpr hbl
  have hts : ∀ w ∈ gtb, w.before #[Value.ref b] s = true := fun w hw => hts0 w (List.mem_filter.mp hw).1
  have hown : s.vm.findClass RL = some m.cls := hown
  unfold f_law_19 at h
  refine lv_aload_n hx hb dL_law_855 rfl (lv_at hl 1 rfl) ?_
  refine lv_aload_n hx hb dL_law_856 rfl (lv_at hl 0 rfl) ?_
  refine lv_iload_n hx hb dL_law_857 rfl (lv_at hl 3 rfl) ?_
  refine lv_iconst (v := 1) hx hb dL_law_858 (by decide) ?_
  refine lv_iadd hx hb dL_law_859 ?_
  obtain ⟨hin_, h⟩ := ck_e h
  refine va_sld hx hb hX hbl hbA hI.S hin_ dL_law_860 ?_
  refine lv_aload_n hx hb dL_law_861 rfl (lv_at hl 0 rfl) ?_
  refine lv_iload_n hx hb dL_law_862 rfl (lv_at hl 3 rfl) ?_
  refine lv_iconst (v := 2) hx hb dL_law_863 (by decide) ?_
  refine lv_iadd hx hb dL_law_864 ?_
  obtain ⟨hin_, h⟩ := ck_e h
  refine va_sld hx hb hX hbl hbA hI.S hin_ dL_law_865 ?_
  obtain ⟨q_866, hq_866, h⟩ := ob_e h
  refine r_callV (As := [.int (xs (v3 + 1).toNatClampNeg), .int (xs (v3 + 2).toNatClampNeg)]) (rest := []) (cells' := 174 + 6 * k) (slots' := 257216 + 262 * k) hx hb hml hts hown (c_X11_gift l s.heap D y F n κ σ hN (xs (v3 + 1).toNatClampNeg) (xs (v3 + 2).toNatClampNeg) (σ 1) rfl (σ 2) rfl (σ 6) rfl (σ 7) rfl (σ 9) rfl (σ 18) rfl q_866 hq_866) cal_X11_gift im_X11_gift se_X11_gift lm_L_98 ⟨Nat.le_of_ble_eq_true rfl, Nat.le_of_ble_eq_true rfl⟩ hI.nil hKK (r_recv hKK hI (hE11 s.heap.size y) rfl (lc0 hN) (kc0 hI.1.2.2.2.2)) rfl hl.1 hI.2.2 rfl (Nat.le_of_ble_eq_true rfl) dL_law_866 ⟨by show 174 + 6 * k + 0 ≤ 600000; omega, by show 257216 + 262 * k + 0 ≤ 7302250; omega⟩ rfl rfl rfl (fun H locs hB hlo => ?_)
  obtain ⟨σ, hB, en18, ho⟩ := hB
  obtain ⟨σ_866, qs, h⟩ := bn_e h
  have es : σ = σ_866 := (sgs_eq (l := [(18, q_866.2)]) (by intro z hz; rw [List.mem_singleton.mp hz]; exact en18) ho).trans qs.symm
  rw [es] at hB
  have hI := hB.re hlo
  refine lv_aload_n hx hb dL_law_869 rfl (lv_at hl 2 rfl) ?_
  refine lv_aload_n hx hb dL_law_870 rfl (lv_at hl 0 rfl) ?_
  refine lv_iload_n hx hb dL_law_871 rfl (lv_at hl 3 rfl) ?_
  refine lv_iconst (v := 1) hx hb dL_law_872 (by decide) ?_
  refine lv_iadd hx hb dL_law_873 ?_
  obtain ⟨hin_, h⟩ := ck_e h
  refine va_sld hx hb hX hbl hbA hI.S hin_ dL_law_874 ?_
  refine lv_aload_n hx hb dL_law_875 rfl (lv_at hl 0 rfl) ?_
  refine lv_iload_n hx hb dL_law_876 rfl (lv_at hl 3 rfl) ?_
  refine lv_iconst (v := 2) hx hb dL_law_877 (by decide) ?_
  refine lv_iadd hx hb dL_law_878 ?_
  obtain ⟨hin_, h⟩ := ck_e h
  refine va_sld hx hb hX hbl hbA hI.S hin_ dL_law_879 ?_
  obtain ⟨q_880, hq_880, h⟩ := ob_e h
  refine r_callV (As := [.int (xs (v3 + 1).toNatClampNeg), .int (xs (v3 + 2).toNatClampNeg)]) (rest := [.int (q_866.1)]) (cells' := 174 + 6 * k) (slots' := 257216 + 262 * k) hx hb hml hts hown (c_X12_gift l s.heap D y F n κ σ_866 hN (xs (v3 + 1).toNatClampNeg) (xs (v3 + 2).toNatClampNeg) (σ_866 23) rfl (σ_866 24) rfl (σ_866 25) rfl (σ_866 26) rfl (σ_866 39) rfl q_880 hq_880) cal_X12_gift im_X12_gift se_X12_gift lm_L_101 ⟨Nat.le_of_ble_eq_true rfl, Nat.le_of_ble_eq_true rfl⟩ hI.nil hKK (r_recv hKK hI (hE12 s.heap.size y) rfl (lc91 hN) (kc91 hI.1.2.2.2.2)) rfl hl.1 hI.2.2 rfl (Nat.le_of_ble_eq_true rfl) dL_law_880 ⟨by show 174 + 6 * k + 0 ≤ 600000; omega, by show 257216 + 262 * k + 0 ≤ 7302250; omega⟩ rfl rfl rfl (fun H locs hB hlo => ?_)
  obtain ⟨σ, hB, en39, ho⟩ := hB
  obtain ⟨σ_880, qs, h⟩ := bn_e h
  have es : σ = σ_880 := (sgs_eq (l := [(39, q_880.2)]) (by intro z hz; rw [List.mem_singleton.mp hz]; exact en39) ho).trans qs.symm
  rw [es] at hB
  have hI := hB.re hlo
  refine lv_icmp_eq (tgt := 1314) hx hb dL_law_883 (by decide) (fun hc => ?_) (fun hc => ?_)
  · replace h := ite_t hc h
    obtain ⟨v3n, qq, h⟩ := bn_e h
    refine lv_iinc (v := v3n) (lv' := [(3, .int v3n), (0, .ref b), (1, .ref (s.heap.size + 0)), (2, .ref (s.heap.size + 91))]) hx hb dL_law_1314 hl (k := 3) rfl (by rw [qq]; rfl) (by decide) rfl (fun ls hl => ?_)
    refine lv_goto (tgt := 18) hx hb dL_law_1317 (by decide) ?_
    refine W.widen (k := 174 + 6 * (k + 1)) (n := 257216 + 262 * (k + 1)) (by omega) (by omega) ?_
    exact hk18 (k + 1) n κ σ_880 v3n H locs ls (lawv hv qq) (by omega) hN hI (lv_sub hl [1, 2, 3, 0] rfl) h
  · replace h := ite_f hc h
    refine lv_iconst (v := 0) hx hb dL_law_886 (by decide) ?_
    exact absurd (Option.some.inj h) (by decide)
set_option maxRecDepth 100000 in
set_option maxHeartbeats 4000000 in
theorem law_20 {p : Program} {e : Env} {s : State} {m : MethodId} {below : List Frame} {meth : Method} {c : Code} (l : Launch) {b L : Nat} {xs : Nat → Int32} (hL : L ≤ 4096) (C0 : lw_At p s m meth c b L xs) (D : va_G) (y : Nat → ClassId) (hKK : KK s.heap D y s) (F : Nat) (k18 : Nat → St → Int32 → Option Int32) (hk18 : ∀ (k n : Nat) (κ : Nat → Nat) (σ : St) (v3 : Int32) (H : Heap) (locs : List Loc) (ls : Array Slot), v3 = nI (8 * k) → 8 * k ≤ 4096 → N0 ≤ n → IV s.heap D y n n κ σ locs H → lv_has ls 4 [(0, .ref b), (1, .ref (s.heap.size + 0)), (2, .ref (s.heap.size + 91)), (3, .int v3)] → k18 n σ v3 = some 1 → W p l e room_1 s m #[Value.ref b] below meth c H locs (174 + 6 * k) (257216 + 262 * k) (lw_Z below #[Value.ref b] s) (F0 m 18 ls [])) (k n : Nat) (κ : Nat → Nat) (σ : St) (v3 : Int32) (H : Heap) (locs : List Loc) (ls : Array Slot) (hv : v3 = nI (8 * k)) (hk8 : 8 * k + 8 ≤ 4096) (hN : N0 ≤ n) (hI : IV s.heap D y n n κ σ locs H) (hl : lv_has ls 4 [(0, .ref b), (1, .ref (s.heap.size + 0)), (2, .ref (s.heap.size + 91)), (3, .int v3)]) (h : f_law_20 F xs L k18 n σ v3 = some 1) : W p l e room_1 s m #[Value.ref b] below meth c H locs (174 + 6 * k) (257216 + 262 * k) (lw_Z below #[Value.ref b] s) (F0 m 888 ls []) := by
  obtain ⟨hx, hb, hr, hml, hown, hts0, hX, hbl, hlocks, hgv⟩ := id C0
  have hbA : ¬ (fun q : Nat => s.heap.size ≤ q) b := Nat.not_le.mpr hbl
  have hts : ∀ w ∈ gtb, w.before #[Value.ref b] s = true := fun w hw => hts0 w (List.mem_filter.mp hw).1
  have hown : s.vm.findClass RL = some m.cls := hown
  unfold f_law_20 at h
  refine lv_aload_n hx hb dL_law_888 rfl (lv_at hl 1 rfl) ?_
  refine lv_aload_n hx hb dL_law_889 rfl (lv_at hl 0 rfl) ?_
  refine lv_iload_n hx hb dL_law_890 rfl (lv_at hl 3 rfl) ?_
  refine lv_iconst (v := 1) hx hb dL_law_891 (by decide) ?_
  refine lv_iadd hx hb dL_law_892 ?_
  obtain ⟨hin_, h⟩ := ck_e h
  refine va_sld hx hb hX hbl hbA hI.S hin_ dL_law_893 ?_
  obtain ⟨q_894, hq_894, h⟩ := ob_e h
  refine r_callV (As := [.int (xs (v3 + 1).toNatClampNeg)]) (rest := []) (cells' := 174 + 6 * k) (slots' := 257216 + 262 * k) hx hb hml hts hown (c_X11_coin l s.heap D y F n κ σ hN (xs (v3 + 1).toNatClampNeg) (σ 1) rfl (σ 18) rfl q_894 hq_894) cal_X11_coin im_X11_coin se_X11_coin lm_L_102 ⟨Nat.le_of_ble_eq_true rfl, Nat.le_of_ble_eq_true rfl⟩ hI.nil hKK (r_recv hKK hI (hE11 s.heap.size y) rfl (lc0 hN) (kc0 hI.1.2.2.2.2)) rfl hl.1 hI.2.2 rfl (Nat.le_of_ble_eq_true rfl) dL_law_894 ⟨by show 174 + 6 * k + 0 ≤ 600000; omega, by show 257216 + 262 * k + 0 ≤ 7302250; omega⟩ rfl rfl rfl (fun H locs hB hlo => ?_)
  have hI := hB.re hlo
  refine lv_aload_n hx hb dL_law_897 rfl (lv_at hl 2 rfl) ?_
  refine lv_aload_n hx hb dL_law_898 rfl (lv_at hl 0 rfl) ?_
  refine lv_iload_n hx hb dL_law_899 rfl (lv_at hl 3 rfl) ?_
  refine lv_iconst (v := 1) hx hb dL_law_900 (by decide) ?_
  refine lv_iadd hx hb dL_law_901 ?_
  obtain ⟨hin_, h⟩ := ck_e h
  refine va_sld hx hb hX hbl hbA hI.S hin_ dL_law_902 ?_
  obtain ⟨q_903, hq_903, h⟩ := ob_e h
  refine r_callV (As := [.int (xs (v3 + 1).toNatClampNeg)]) (rest := [.long q_894]) (cells' := 174 + 6 * k) (slots' := 257216 + 262 * k) hx hb hml hts hown (c_X12_coin l s.heap D y F n κ σ hN (xs (v3 + 1).toNatClampNeg) (σ 23) rfl (σ 24) rfl (σ 39) rfl q_903 hq_903) cal_X12_coin im_X12_coin se_X12_coin lm_L_106 ⟨Nat.le_of_ble_eq_true rfl, Nat.le_of_ble_eq_true rfl⟩ hI.nil hKK (r_recv hKK hI (hE12 s.heap.size y) rfl (lc91 hN) (kc91 hI.1.2.2.2.2)) rfl hl.1 hI.2.2 rfl (Nat.le_of_ble_eq_true rfl) dL_law_903 ⟨by show 174 + 6 * k + 0 ≤ 600000; omega, by show 257216 + 262 * k + 0 ≤ 7302250; omega⟩ rfl rfl rfl (fun H locs hB hlo => ?_)
  have hI := hB.re hlo
  refine W.lcmp hx hb dL_law_906 ?_
  refine lv_if_eq (tgt := 1314) hx hb dL_law_907 (by decide) (fun hc => ?_) (fun hc => ?_)
  · replace h := ite_t hc h
    obtain ⟨v3n, qq, h⟩ := bn_e h
    refine lv_iinc (v := v3n) (lv' := [(3, .int v3n), (0, .ref b), (1, .ref (s.heap.size + 0)), (2, .ref (s.heap.size + 91))]) hx hb dL_law_1314 hl (k := 3) rfl (by rw [qq]; rfl) (by decide) rfl (fun ls hl => ?_)
    refine lv_goto (tgt := 18) hx hb dL_law_1317 (by decide) ?_
    refine W.widen (k := 174 + 6 * (k + 1)) (n := 257216 + 262 * (k + 1)) (by omega) (by omega) ?_
    exact hk18 (k + 1) n κ σ v3n H locs ls (lawv hv qq) (by omega) hN hI (lv_sub hl [1, 2, 3, 0] rfl) h
  · replace h := ite_f hc h
    refine lv_iconst (v := 0) hx hb dL_law_910 (by decide) ?_
    exact absurd (Option.some.inj h) (by decide)
set_option maxRecDepth 100000 in
set_option maxHeartbeats 4000000 in
theorem law_21 {p : Program} {e : Env} {s : State} {m : MethodId} {below : List Frame} {meth : Method} {c : Code} (l : Launch) {b L : Nat} {xs : Nat → Int32} (hL : L ≤ 4096) (C0 : lw_At p s m meth c b L xs) (D : va_G) (y : Nat → ClassId) (hKK : KK s.heap D y s) (F : Nat) (k18 : Nat → St → Int32 → Option Int32) (hk18 : ∀ (k n : Nat) (κ : Nat → Nat) (σ : St) (v3 : Int32) (H : Heap) (locs : List Loc) (ls : Array Slot), v3 = nI (8 * k) → 8 * k ≤ 4096 → N0 ≤ n → IV s.heap D y n n κ σ locs H → lv_has ls 4 [(0, .ref b), (1, .ref (s.heap.size + 0)), (2, .ref (s.heap.size + 91)), (3, .int v3)] → k18 n σ v3 = some 1 → W p l e room_1 s m #[Value.ref b] below meth c H locs (174 + 6 * k) (257216 + 262 * k) (lw_Z below #[Value.ref b] s) (F0 m 18 ls [])) (k n : Nat) (κ : Nat → Nat) (σ : St) (v3 : Int32) (H : Heap) (locs : List Loc) (ls : Array Slot) (hv : v3 = nI (8 * k)) (hk8 : 8 * k + 8 ≤ 4096) (hN : N0 ≤ n) (hI : IV s.heap D y n n κ σ locs H) (hl : lv_has ls 4 [(0, .ref b), (1, .ref (s.heap.size + 0)), (2, .ref (s.heap.size + 91)), (3, .int v3)]) (h : f_law_21 F xs L k18 n σ v3 = some 1) : W p l e room_1 s m #[Value.ref b] below meth c H locs (174 + 6 * k) (257216 + 262 * k) (lw_Z below #[Value.ref b] s) (F0 m 912 ls []) := by
  obtain ⟨hx, hb, hr, hml, hown, hts0, hX, hbl, hlocks, hgv⟩ := id C0
  have hbA : ¬ (fun q : Nat => s.heap.size ≤ q) b := Nat.not_le.mpr hbl
  have hts : ∀ w ∈ gtb, w.before #[Value.ref b] s = true := fun w hw => hts0 w (List.mem_filter.mp hw).1
  have hown : s.vm.findClass RL = some m.cls := hown
  unfold f_law_21 at h
  refine lv_aload_n hx hb dL_law_912 rfl (lv_at hl 1 rfl) ?_
  refine lv_aload_n hx hb dL_law_913 rfl (lv_at hl 0 rfl) ?_
  refine lv_iload_n hx hb dL_law_914 rfl (lv_at hl 3 rfl) ?_
  refine lv_iconst (v := 1) hx hb dL_law_915 (by decide) ?_
  refine lv_iadd hx hb dL_law_916 ?_
  obtain ⟨hin_, h⟩ := ck_e h
  refine va_sld hx hb hX hbl hbA hI.S hin_ dL_law_917 ?_
  refine lv_aload_n hx hb dL_law_918 rfl (lv_at hl 0 rfl) ?_
  refine lv_iload_n hx hb dL_law_919 rfl (lv_at hl 3 rfl) ?_
  refine lv_iconst (v := 2) hx hb dL_law_920 (by decide) ?_
  refine lv_iadd hx hb dL_law_921 ?_
  obtain ⟨hin_, h⟩ := ck_e h
  refine va_sld hx hb hX hbl hbA hI.S hin_ dL_law_922 ?_
  refine lv_aload_n hx hb dL_law_923 rfl (lv_at hl 0 rfl) ?_
  refine lv_iload_n hx hb dL_law_924 rfl (lv_at hl 3 rfl) ?_
  refine lv_iconst (v := 3) hx hb dL_law_925 (by decide) ?_
  refine lv_iadd hx hb dL_law_926 ?_
  obtain ⟨hin_, h⟩ := ck_e h
  refine va_sld hx hb hX hbl hbA hI.S hin_ dL_law_927 ?_
  obtain ⟨q_928, hq_928, h⟩ := ob_e h
  refine r_callV (As := [.int (xs (v3 + 1).toNatClampNeg), .int (xs (v3 + 2).toNatClampNeg), .int (xs (v3 + 3).toNatClampNeg)]) (rest := []) (cells' := 174 + 6 * k) (slots' := 257216 + 262 * k) hx hb hml hts hown (c_X11_project l s.heap D y F n κ σ hN (xs (v3 + 1).toNatClampNeg) (xs (v3 + 2).toNatClampNeg) (xs (v3 + 3).toNatClampNeg) (σ 6) rfl (σ 19) rfl q_928 hq_928) cal_X11_project im_X11_project se_X11_project lm_L_107 ⟨Nat.le_of_ble_eq_true rfl, Nat.le_of_ble_eq_true rfl⟩ hI.nil hKK (r_recv hKK hI (hE11 s.heap.size y) rfl (lc0 hN) (kc0 hI.1.2.2.2.2)) rfl hl.1 hI.2.2 rfl (Nat.le_of_ble_eq_true rfl) dL_law_928 ⟨by show 174 + 6 * k + 0 ≤ 600000; omega, by show 257216 + 262 * k + 0 ≤ 7302250; omega⟩ rfl rfl rfl (fun H locs hB hlo => ?_)
  obtain ⟨σ, hB, en19, ho⟩ := hB
  obtain ⟨σ_928, qs, h⟩ := bn_e h
  have es : σ = σ_928 := (sgs_eq (l := [(19, q_928.2)]) (by intro z hz; rw [List.mem_singleton.mp hz]; exact en19) ho).trans qs.symm
  rw [es] at hB
  have hI := hB.re hlo
  refine lv_aload_n hx hb dL_law_931 rfl (lv_at hl 2 rfl) ?_
  refine lv_aload_n hx hb dL_law_932 rfl (lv_at hl 0 rfl) ?_
  refine lv_iload_n hx hb dL_law_933 rfl (lv_at hl 3 rfl) ?_
  refine lv_iconst (v := 1) hx hb dL_law_934 (by decide) ?_
  refine lv_iadd hx hb dL_law_935 ?_
  obtain ⟨hin_, h⟩ := ck_e h
  refine va_sld hx hb hX hbl hbA hI.S hin_ dL_law_936 ?_
  refine lv_aload_n hx hb dL_law_937 rfl (lv_at hl 0 rfl) ?_
  refine lv_iload_n hx hb dL_law_938 rfl (lv_at hl 3 rfl) ?_
  refine lv_iconst (v := 2) hx hb dL_law_939 (by decide) ?_
  refine lv_iadd hx hb dL_law_940 ?_
  obtain ⟨hin_, h⟩ := ck_e h
  refine va_sld hx hb hX hbl hbA hI.S hin_ dL_law_941 ?_
  refine lv_aload_n hx hb dL_law_942 rfl (lv_at hl 0 rfl) ?_
  refine lv_iload_n hx hb dL_law_943 rfl (lv_at hl 3 rfl) ?_
  refine lv_iconst (v := 3) hx hb dL_law_944 (by decide) ?_
  refine lv_iadd hx hb dL_law_945 ?_
  obtain ⟨hin_, h⟩ := ck_e h
  refine va_sld hx hb hX hbl hbA hI.S hin_ dL_law_946 ?_
  obtain ⟨q_947, hq_947, h⟩ := ob_e h
  refine r_callV (As := [.int (xs (v3 + 1).toNatClampNeg), .int (xs (v3 + 2).toNatClampNeg), .int (xs (v3 + 3).toNatClampNeg)]) (rest := [.int (q_928.1)]) (cells' := 174 + 6 * k) (slots' := 257216 + 262 * k) hx hb hml hts hown (c_X12_project l s.heap D y F n κ σ_928 hN (xs (v3 + 1).toNatClampNeg) (xs (v3 + 2).toNatClampNeg) (xs (v3 + 3).toNatClampNeg) (σ_928 24) rfl (σ_928 40) rfl q_947 hq_947) cal_X12_project im_X12_project se_X12_project lm_L_111 ⟨Nat.le_of_ble_eq_true rfl, Nat.le_of_ble_eq_true rfl⟩ hI.nil hKK (r_recv hKK hI (hE12 s.heap.size y) rfl (lc91 hN) (kc91 hI.1.2.2.2.2)) rfl hl.1 hI.2.2 rfl (Nat.le_of_ble_eq_true rfl) dL_law_947 ⟨by show 174 + 6 * k + 0 ≤ 600000; omega, by show 257216 + 262 * k + 0 ≤ 7302250; omega⟩ rfl rfl rfl (fun H locs hB hlo => ?_)
  obtain ⟨σ, hB, en40, ho⟩ := hB
  obtain ⟨σ_947, qs, h⟩ := bn_e h
  have es : σ = σ_947 := (sgs_eq (l := [(40, q_947.2)]) (by intro z hz; rw [List.mem_singleton.mp hz]; exact en40) ho).trans qs.symm
  rw [es] at hB
  have hI := hB.re hlo
  refine lv_icmp_eq (tgt := 1314) hx hb dL_law_950 (by decide) (fun hc => ?_) (fun hc => ?_)
  · replace h := ite_t hc h
    obtain ⟨v3n, qq, h⟩ := bn_e h
    refine lv_iinc (v := v3n) (lv' := [(3, .int v3n), (0, .ref b), (1, .ref (s.heap.size + 0)), (2, .ref (s.heap.size + 91))]) hx hb dL_law_1314 hl (k := 3) rfl (by rw [qq]; rfl) (by decide) rfl (fun ls hl => ?_)
    refine lv_goto (tgt := 18) hx hb dL_law_1317 (by decide) ?_
    refine W.widen (k := 174 + 6 * (k + 1)) (n := 257216 + 262 * (k + 1)) (by omega) (by omega) ?_
    exact hk18 (k + 1) n κ σ_947 v3n H locs ls (lawv hv qq) (by omega) hN hI (lv_sub hl [1, 2, 3, 0] rfl) h
  · replace h := ite_f hc h
    refine lv_iconst (v := 0) hx hb dL_law_953 (by decide) ?_
    exact absurd (Option.some.inj h) (by decide)
set_option maxRecDepth 100000 in
set_option maxHeartbeats 4000000 in
theorem law_22 {p : Program} {e : Env} {s : State} {m : MethodId} {below : List Frame} {meth : Method} {c : Code} (l : Launch) {b L : Nat} {xs : Nat → Int32} (hL : L ≤ 4096) (C0 : lw_At p s m meth c b L xs) (D : va_G) (y : Nat → ClassId) (hKK : KK s.heap D y s) (F : Nat) (k18 : Nat → St → Int32 → Option Int32) (hk18 : ∀ (k n : Nat) (κ : Nat → Nat) (σ : St) (v3 : Int32) (H : Heap) (locs : List Loc) (ls : Array Slot), v3 = nI (8 * k) → 8 * k ≤ 4096 → N0 ≤ n → IV s.heap D y n n κ σ locs H → lv_has ls 4 [(0, .ref b), (1, .ref (s.heap.size + 0)), (2, .ref (s.heap.size + 91)), (3, .int v3)] → k18 n σ v3 = some 1 → W p l e room_1 s m #[Value.ref b] below meth c H locs (174 + 6 * k) (257216 + 262 * k) (lw_Z below #[Value.ref b] s) (F0 m 18 ls [])) (k n : Nat) (κ : Nat → Nat) (σ : St) (v3 : Int32) (H : Heap) (locs : List Loc) (ls : Array Slot) (hv : v3 = nI (8 * k)) (hk8 : 8 * k + 8 ≤ 4096) (hN : N0 ≤ n) (hI : IV s.heap D y n n κ σ locs H) (hl : lv_has ls 4 [(0, .ref b), (1, .ref (s.heap.size + 0)), (2, .ref (s.heap.size + 91)), (3, .int v3)]) (h : f_law_22 F xs L k18 n σ v3 = some 1) : W p l e room_1 s m #[Value.ref b] below meth c H locs (174 + 6 * k) (257216 + 262 * k) (lw_Z below #[Value.ref b] s) (F0 m 955 ls []) := by
  obtain ⟨hx, hb, hr, hml, hown, hts0, hX, hbl, hlocks, hgv⟩ := id C0
  have hbA : ¬ (fun q : Nat => s.heap.size ≤ q) b := Nat.not_le.mpr hbl
  have hts : ∀ w ∈ gtb, w.before #[Value.ref b] s = true := fun w hw => hts0 w (List.mem_filter.mp hw).1
  have hown : s.vm.findClass RL = some m.cls := hown
  unfold f_law_22 at h
  refine lv_aload_n hx hb dL_law_955 rfl (lv_at hl 1 rfl) ?_
  refine lv_aload_n hx hb dL_law_956 rfl (lv_at hl 0 rfl) ?_
  refine lv_iload_n hx hb dL_law_957 rfl (lv_at hl 3 rfl) ?_
  refine lv_iconst (v := 1) hx hb dL_law_958 (by decide) ?_
  refine lv_iadd hx hb dL_law_959 ?_
  obtain ⟨hin_, h⟩ := ck_e h
  refine va_sld hx hb hX hbl hbA hI.S hin_ dL_law_960 ?_
  obtain ⟨q_961, hq_961, h⟩ := ob_e h
  refine r_callV (As := [.int (xs (v3 + 1).toNatClampNeg)]) (rest := []) (cells' := 174 + 6 * k) (slots' := 257216 + 262 * k) hx hb hml hts hown (c_X11_choice l s.heap D y F n κ σ hN (xs (v3 + 1).toNatClampNeg) (σ 6) rfl (σ 18) rfl (σ 19) rfl q_961 hq_961) cal_X11_choice im_X11_choice se_X11_choice lm_L_112 ⟨Nat.le_of_ble_eq_true rfl, Nat.le_of_ble_eq_true rfl⟩ hI.nil hKK (r_recv hKK hI (hE11 s.heap.size y) rfl (lc0 hN) (kc0 hI.1.2.2.2.2)) rfl hl.1 hI.2.2 rfl (Nat.le_of_ble_eq_true rfl) dL_law_961 ⟨by show 174 + 6 * k + 0 ≤ 600000; omega, by show 257216 + 262 * k + 0 ≤ 7302250; omega⟩ rfl rfl rfl (fun H locs hB hlo => ?_)
  have hI := hB.re hlo
  refine lv_aload_n hx hb dL_law_964 rfl (lv_at hl 2 rfl) ?_
  refine lv_aload_n hx hb dL_law_965 rfl (lv_at hl 0 rfl) ?_
  refine lv_iload_n hx hb dL_law_966 rfl (lv_at hl 3 rfl) ?_
  refine lv_iconst (v := 1) hx hb dL_law_967 (by decide) ?_
  refine lv_iadd hx hb dL_law_968 ?_
  obtain ⟨hin_, h⟩ := ck_e h
  refine va_sld hx hb hX hbl hbA hI.S hin_ dL_law_969 ?_
  obtain ⟨q_970, hq_970, h⟩ := ob_e h
  refine r_callV (As := [.int (xs (v3 + 1).toNatClampNeg)]) (rest := [.int q_961]) (cells' := 174 + 6 * k) (slots' := 257216 + 262 * k) hx hb hml hts hown (c_X12_choice l s.heap D y F n κ σ hN (xs (v3 + 1).toNatClampNeg) (σ 24) rfl (σ 39) rfl (σ 40) rfl q_970 hq_970) cal_X12_choice im_X12_choice se_X12_choice lm_L_115 ⟨Nat.le_of_ble_eq_true rfl, Nat.le_of_ble_eq_true rfl⟩ hI.nil hKK (r_recv hKK hI (hE12 s.heap.size y) rfl (lc91 hN) (kc91 hI.1.2.2.2.2)) rfl hl.1 hI.2.2 rfl (Nat.le_of_ble_eq_true rfl) dL_law_970 ⟨by show 174 + 6 * k + 0 ≤ 600000; omega, by show 257216 + 262 * k + 0 ≤ 7302250; omega⟩ rfl rfl rfl (fun H locs hB hlo => ?_)
  have hI := hB.re hlo
  refine lv_icmp_eq (tgt := 1314) hx hb dL_law_973 (by decide) (fun hc => ?_) (fun hc => ?_)
  · replace h := ite_t hc h
    obtain ⟨v3n, qq, h⟩ := bn_e h
    refine lv_iinc (v := v3n) (lv' := [(3, .int v3n), (0, .ref b), (1, .ref (s.heap.size + 0)), (2, .ref (s.heap.size + 91))]) hx hb dL_law_1314 hl (k := 3) rfl (by rw [qq]; rfl) (by decide) rfl (fun ls hl => ?_)
    refine lv_goto (tgt := 18) hx hb dL_law_1317 (by decide) ?_
    refine W.widen (k := 174 + 6 * (k + 1)) (n := 257216 + 262 * (k + 1)) (by omega) (by omega) ?_
    exact hk18 (k + 1) n κ σ v3n H locs ls (lawv hv qq) (by omega) hN hI (lv_sub hl [1, 2, 3, 0] rfl) h
  · replace h := ite_f hc h
    refine lv_iconst (v := 0) hx hb dL_law_976 (by decide) ?_
    exact absurd (Option.some.inj h) (by decide)
set_option maxRecDepth 100000 in
set_option maxHeartbeats 4000000 in
theorem law_23 {p : Program} {e : Env} {s : State} {m : MethodId} {below : List Frame} {meth : Method} {c : Code} (l : Launch) {b L : Nat} {xs : Nat → Int32} (hL : L ≤ 4096) (C0 : lw_At p s m meth c b L xs) (D : va_G) (y : Nat → ClassId) (hKK : KK s.heap D y s) (F : Nat) (k18 : Nat → St → Int32 → Option Int32) (hk18 : ∀ (k n : Nat) (κ : Nat → Nat) (σ : St) (v3 : Int32) (H : Heap) (locs : List Loc) (ls : Array Slot), v3 = nI (8 * k) → 8 * k ≤ 4096 → N0 ≤ n → IV s.heap D y n n κ σ locs H → lv_has ls 4 [(0, .ref b), (1, .ref (s.heap.size + 0)), (2, .ref (s.heap.size + 91)), (3, .int v3)] → k18 n σ v3 = some 1 → W p l e room_1 s m #[Value.ref b] below meth c H locs (174 + 6 * k) (257216 + 262 * k) (lw_Z below #[Value.ref b] s) (F0 m 18 ls [])) (k n : Nat) (κ : Nat → Nat) (σ : St) (v3 : Int32) (H : Heap) (locs : List Loc) (ls : Array Slot) (hv : v3 = nI (8 * k)) (hk8 : 8 * k + 8 ≤ 4096) (hN : N0 ≤ n) (hI : IV s.heap D y n n κ σ locs H) (hl : lv_has ls 4 [(0, .ref b), (1, .ref (s.heap.size + 0)), (2, .ref (s.heap.size + 91)), (3, .int v3)]) (h : f_law_23 F xs L k18 n σ v3 = some 1) : W p l e room_1 s m #[Value.ref b] below meth c H locs (174 + 6 * k) (257216 + 262 * k) (lw_Z below #[Value.ref b] s) (F0 m 978 ls []) := by
  obtain ⟨hx, hb, hr, hml, hown, hts0, hX, hbl, hlocks, hgv⟩ := id C0
  have hbA : ¬ (fun q : Nat => s.heap.size ≤ q) b := Nat.not_le.mpr hbl
  have hts : ∀ w ∈ gtb, w.before #[Value.ref b] s = true := fun w hw => hts0 w (List.mem_filter.mp hw).1
  have hown : s.vm.findClass RL = some m.cls := hown
  unfold f_law_23 at h
  refine lv_aload_n hx hb dL_law_978 rfl (lv_at hl 1 rfl) ?_
  refine lv_aload_n hx hb dL_law_979 rfl (lv_at hl 0 rfl) ?_
  refine lv_iload_n hx hb dL_law_980 rfl (lv_at hl 3 rfl) ?_
  refine lv_iconst (v := 1) hx hb dL_law_981 (by decide) ?_
  refine lv_iadd hx hb dL_law_982 ?_
  obtain ⟨hin_, h⟩ := ck_e h
  refine va_sld hx hb hX hbl hbA hI.S hin_ dL_law_983 ?_
  obtain ⟨q_984, hq_984, h⟩ := ob_e h
  refine r_callV (As := [.int (xs (v3 + 1).toNatClampNeg)]) (rest := []) (cells' := 174 + 6 * k) (slots' := 257216 + 262 * k) hx hb hml hts hown (c_X11_build l s.heap D y F n κ σ hN (xs (v3 + 1).toNatClampNeg) (σ 6) rfl (σ 18) rfl (σ 19) rfl q_984 hq_984) cal_X11_build im_X11_build se_X11_build lm_L_116 ⟨Nat.le_of_ble_eq_true rfl, Nat.le_of_ble_eq_true rfl⟩ hI.nil hKK (r_recv hKK hI (hE11 s.heap.size y) rfl (lc0 hN) (kc0 hI.1.2.2.2.2)) rfl hl.1 hI.2.2 rfl (Nat.le_of_ble_eq_true rfl) dL_law_984 ⟨by show 174 + 6 * k + 0 ≤ 600000; omega, by show 257216 + 262 * k + 0 ≤ 7302250; omega⟩ rfl rfl rfl (fun H locs hB hlo => ?_)
  obtain ⟨σ, hB, en18, en19, ho⟩ := hB
  obtain ⟨σ_984, qs, h⟩ := bn_e h
  have es : σ = σ_984 := (sgs_eq (l := [(18, q_984.2.1), (19, q_984.2.2)]) (by intro z hz; simp only [List.mem_cons, List.not_mem_nil, or_false] at hz; rcases hz with rfl | rfl <;> first | exact en18 | exact en19) ho).trans qs.symm
  rw [es] at hB
  have hI := hB.re hlo
  refine lv_aload_n hx hb dL_law_987 rfl (lv_at hl 2 rfl) ?_
  refine lv_aload_n hx hb dL_law_988 rfl (lv_at hl 0 rfl) ?_
  refine lv_iload_n hx hb dL_law_989 rfl (lv_at hl 3 rfl) ?_
  refine lv_iconst (v := 1) hx hb dL_law_990 (by decide) ?_
  refine lv_iadd hx hb dL_law_991 ?_
  obtain ⟨hin_, h⟩ := ck_e h
  refine va_sld hx hb hX hbl hbA hI.S hin_ dL_law_992 ?_
  obtain ⟨q_993, hq_993, h⟩ := ob_e h
  refine r_callV (As := [.int (xs (v3 + 1).toNatClampNeg)]) (rest := [.int (q_984.1)]) (cells' := 174 + 6 * k) (slots' := 257216 + 262 * k) hx hb hml hts hown (c_X12_build l s.heap D y F n κ σ_984 hN (xs (v3 + 1).toNatClampNeg) (σ_984 24) rfl (σ_984 39) rfl (σ_984 40) rfl q_993 hq_993) cal_X12_build im_X12_build se_X12_build lm_L_119 ⟨Nat.le_of_ble_eq_true rfl, Nat.le_of_ble_eq_true rfl⟩ hI.nil hKK (r_recv hKK hI (hE12 s.heap.size y) rfl (lc91 hN) (kc91 hI.1.2.2.2.2)) rfl hl.1 hI.2.2 rfl (Nat.le_of_ble_eq_true rfl) dL_law_993 ⟨by show 174 + 6 * k + 0 ≤ 600000; omega, by show 257216 + 262 * k + 0 ≤ 7302250; omega⟩ rfl rfl rfl (fun H locs hB hlo => ?_)
  obtain ⟨σ, hB, en39, en40, ho⟩ := hB
  obtain ⟨σ_993, qs, h⟩ := bn_e h
  have es : σ = σ_993 := (sgs_eq (l := [(39, q_993.2.1), (40, q_993.2.2)]) (by intro z hz; simp only [List.mem_cons, List.not_mem_nil, or_false] at hz; rcases hz with rfl | rfl <;> first | exact en39 | exact en40) ho).trans qs.symm
  rw [es] at hB
  have hI := hB.re hlo
  refine lv_icmp_eq (tgt := 1314) hx hb dL_law_996 (by decide) (fun hc => ?_) (fun hc => ?_)
  · replace h := ite_t hc h
    obtain ⟨v3n, qq, h⟩ := bn_e h
    refine lv_iinc (v := v3n) (lv' := [(3, .int v3n), (0, .ref b), (1, .ref (s.heap.size + 0)), (2, .ref (s.heap.size + 91))]) hx hb dL_law_1314 hl (k := 3) rfl (by rw [qq]; rfl) (by decide) rfl (fun ls hl => ?_)
    refine lv_goto (tgt := 18) hx hb dL_law_1317 (by decide) ?_
    refine W.widen (k := 174 + 6 * (k + 1)) (n := 257216 + 262 * (k + 1)) (by omega) (by omega) ?_
    exact hk18 (k + 1) n κ σ_993 v3n H locs ls (lawv hv qq) (by omega) hN hI (lv_sub hl [1, 2, 3, 0] rfl) h
  · replace h := ite_f hc h
    refine lv_iconst (v := 0) hx hb dL_law_999 (by decide) ?_
    exact absurd (Option.some.inj h) (by decide)
set_option maxRecDepth 100000 in
set_option maxHeartbeats 4000000 in
theorem law_24 {p : Program} {e : Env} {s : State} {m : MethodId} {below : List Frame} {meth : Method} {c : Code} (l : Launch) {b L : Nat} {xs : Nat → Int32} (hL : L ≤ 4096) (C0 : lw_At p s m meth c b L xs) (D : va_G) (y : Nat → ClassId) (hKK : KK s.heap D y s) (F : Nat) (k18 : Nat → St → Int32 → Option Int32) (hk18 : ∀ (k n : Nat) (κ : Nat → Nat) (σ : St) (v3 : Int32) (H : Heap) (locs : List Loc) (ls : Array Slot), v3 = nI (8 * k) → 8 * k ≤ 4096 → N0 ≤ n → IV s.heap D y n n κ σ locs H → lv_has ls 4 [(0, .ref b), (1, .ref (s.heap.size + 0)), (2, .ref (s.heap.size + 91)), (3, .int v3)] → k18 n σ v3 = some 1 → W p l e room_1 s m #[Value.ref b] below meth c H locs (174 + 6 * k) (257216 + 262 * k) (lw_Z below #[Value.ref b] s) (F0 m 18 ls [])) (k n : Nat) (κ : Nat → Nat) (σ : St) (v3 : Int32) (H : Heap) (locs : List Loc) (ls : Array Slot) (hv : v3 = nI (8 * k)) (hk8 : 8 * k + 8 ≤ 4096) (hN : N0 ≤ n) (hI : IV s.heap D y n n κ σ locs H) (hl : lv_has ls 4 [(0, .ref b), (1, .ref (s.heap.size + 0)), (2, .ref (s.heap.size + 91)), (3, .int v3)]) (h : f_law_24 F xs L k18 n σ v3 = some 1) : W p l e room_1 s m #[Value.ref b] below meth c H locs (174 + 6 * k) (257216 + 262 * k) (lw_Z below #[Value.ref b] s) (F0 m 1001 ls []) := by
  obtain ⟨hx, hb, hr, hml, hown, hts0, hX, hbl, hlocks, hgv⟩ := id C0
  have hbA : ¬ (fun q : Nat => s.heap.size ≤ q) b := Nat.not_le.mpr hbl
  have hts : ∀ w ∈ gtb, w.before #[Value.ref b] s = true := fun w hw => hts0 w (List.mem_filter.mp hw).1
  have hown : s.vm.findClass RL = some m.cls := hown
  unfold f_law_24 at h
  refine lv_aload_n hx hb dL_law_1001 rfl (lv_at hl 1 rfl) ?_
  refine lv_aload_n hx hb dL_law_1002 rfl (lv_at hl 0 rfl) ?_
  refine lv_iload_n hx hb dL_law_1003 rfl (lv_at hl 3 rfl) ?_
  refine lv_iconst (v := 1) hx hb dL_law_1004 (by decide) ?_
  refine lv_iadd hx hb dL_law_1005 ?_
  obtain ⟨hin_, h⟩ := ck_e h
  refine va_sld hx hb hX hbl hbA hI.S hin_ dL_law_1006 ?_
  refine lv_aload_n hx hb dL_law_1007 rfl (lv_at hl 0 rfl) ?_
  refine lv_iload_n hx hb dL_law_1008 rfl (lv_at hl 3 rfl) ?_
  refine lv_iconst (v := 2) hx hb dL_law_1009 (by decide) ?_
  refine lv_iadd hx hb dL_law_1010 ?_
  obtain ⟨hin_, h⟩ := ck_e h
  refine va_sld hx hb hX hbl hbA hI.S hin_ dL_law_1011 ?_
  obtain ⟨q_1012, hq_1012, h⟩ := ob_e h
  refine r_callV (As := [.int (xs (v3 + 1).toNatClampNeg), .int (xs (v3 + 2).toNatClampNeg)]) (rest := []) (cells' := 174 + 6 * k) (slots' := 257216 + 262 * k) hx hb hml hts hown (c_X11_leaves l s.heap D y F n κ σ hN (xs (v3 + 1).toNatClampNeg) (xs (v3 + 2).toNatClampNeg) (σ 1) rfl (σ 6) rfl (σ 7) rfl (σ 8) rfl (σ 9) rfl q_1012 hq_1012) cal_X11_leaves im_X11_leaves se_X11_leaves lm_L_120 ⟨Nat.le_of_ble_eq_true rfl, Nat.le_of_ble_eq_true rfl⟩ hI.nil hKK (r_recv hKK hI (hE11 s.heap.size y) rfl (lc0 hN) (kc0 hI.1.2.2.2.2)) rfl hl.1 hI.2.2 rfl (Nat.le_of_ble_eq_true rfl) dL_law_1012 ⟨by show 174 + 6 * k + 0 ≤ 600000; omega, by show 257216 + 262 * k + 0 ≤ 7302250; omega⟩ rfl rfl rfl (fun H locs hB hlo => ?_)
  obtain ⟨σ, hB, en8, en9, ho⟩ := hB
  obtain ⟨σ_1012, qs, h⟩ := bn_e h
  have es : σ = σ_1012 := (sgs_eq (l := [(8, q_1012.2.1), (9, q_1012.2.2)]) (by intro z hz; simp only [List.mem_cons, List.not_mem_nil, or_false] at hz; rcases hz with rfl | rfl <;> first | exact en8 | exact en9) ho).trans qs.symm
  rw [es] at hB
  have hI := hB.re hlo
  refine lv_aload_n hx hb dL_law_1015 rfl (lv_at hl 2 rfl) ?_
  refine lv_aload_n hx hb dL_law_1016 rfl (lv_at hl 0 rfl) ?_
  refine lv_iload_n hx hb dL_law_1017 rfl (lv_at hl 3 rfl) ?_
  refine lv_iconst (v := 1) hx hb dL_law_1018 (by decide) ?_
  refine lv_iadd hx hb dL_law_1019 ?_
  obtain ⟨hin_, h⟩ := ck_e h
  refine va_sld hx hb hX hbl hbA hI.S hin_ dL_law_1020 ?_
  refine lv_aload_n hx hb dL_law_1021 rfl (lv_at hl 0 rfl) ?_
  refine lv_iload_n hx hb dL_law_1022 rfl (lv_at hl 3 rfl) ?_
  refine lv_iconst (v := 2) hx hb dL_law_1023 (by decide) ?_
  refine lv_iadd hx hb dL_law_1024 ?_
  obtain ⟨hin_, h⟩ := ck_e h
  refine va_sld hx hb hX hbl hbA hI.S hin_ dL_law_1025 ?_
  obtain ⟨q_1026, hq_1026, h⟩ := ob_e h
  refine r_callV (As := [.int (xs (v3 + 1).toNatClampNeg), .int (xs (v3 + 2).toNatClampNeg)]) (rest := [.int (q_1012.1)]) (cells' := 174 + 6 * k) (slots' := 257216 + 262 * k) hx hb hml hts hown (c_X12_leaves l s.heap D y F n κ σ_1012 hN (xs (v3 + 1).toNatClampNeg) (xs (v3 + 2).toNatClampNeg) (σ_1012 23) rfl (σ_1012 24) rfl (σ_1012 25) rfl (σ_1012 41) rfl q_1026 hq_1026) cal_X12_leaves im_X12_leaves se_X12_leaves lm_L_123 ⟨Nat.le_of_ble_eq_true rfl, Nat.le_of_ble_eq_true rfl⟩ hI.nil hKK (r_recv hKK hI (hE12 s.heap.size y) rfl (lc91 hN) (kc91 hI.1.2.2.2.2)) rfl hl.1 hI.2.2 rfl (Nat.le_of_ble_eq_true rfl) dL_law_1026 ⟨by show 174 + 6 * k + 0 ≤ 600000; omega, by show 257216 + 262 * k + 0 ≤ 7302250; omega⟩ rfl rfl rfl (fun H locs hB hlo => ?_)
  obtain ⟨σ, hB, en25, en41, ho⟩ := hB
  obtain ⟨σ_1026, qs, h⟩ := bn_e h
  have es : σ = σ_1026 := (sgs_eq (l := [(25, q_1026.2.1), (41, q_1026.2.2)]) (by intro z hz; simp only [List.mem_cons, List.not_mem_nil, or_false] at hz; rcases hz with rfl | rfl <;> first | exact en25 | exact en41) ho).trans qs.symm
  rw [es] at hB
  have hI := hB.re hlo
  refine lv_icmp_eq (tgt := 1314) hx hb dL_law_1029 (by decide) (fun hc => ?_) (fun hc => ?_)
  · replace h := ite_t hc h
    obtain ⟨v3n, qq, h⟩ := bn_e h
    refine lv_iinc (v := v3n) (lv' := [(3, .int v3n), (0, .ref b), (1, .ref (s.heap.size + 0)), (2, .ref (s.heap.size + 91))]) hx hb dL_law_1314 hl (k := 3) rfl (by rw [qq]; rfl) (by decide) rfl (fun ls hl => ?_)
    refine lv_goto (tgt := 18) hx hb dL_law_1317 (by decide) ?_
    refine W.widen (k := 174 + 6 * (k + 1)) (n := 257216 + 262 * (k + 1)) (by omega) (by omega) ?_
    exact hk18 (k + 1) n κ σ_1026 v3n H locs ls (lawv hv qq) (by omega) hN hI (lv_sub hl [1, 2, 3, 0] rfl) h
  · replace h := ite_f hc h
    refine lv_iconst (v := 0) hx hb dL_law_1032 (by decide) ?_
    exact absurd (Option.some.inj h) (by decide)
set_option maxRecDepth 100000 in
set_option maxHeartbeats 4000000 in
theorem law_25 {p : Program} {e : Env} {s : State} {m : MethodId} {below : List Frame} {meth : Method} {c : Code} (l : Launch) {b L : Nat} {xs : Nat → Int32} (hL : L ≤ 4096) (C0 : lw_At p s m meth c b L xs) (D : va_G) (y : Nat → ClassId) (hKK : KK s.heap D y s) (F : Nat) (k18 : Nat → St → Int32 → Option Int32) (hk18 : ∀ (k n : Nat) (κ : Nat → Nat) (σ : St) (v3 : Int32) (H : Heap) (locs : List Loc) (ls : Array Slot), v3 = nI (8 * k) → 8 * k ≤ 4096 → N0 ≤ n → IV s.heap D y n n κ σ locs H → lv_has ls 4 [(0, .ref b), (1, .ref (s.heap.size + 0)), (2, .ref (s.heap.size + 91)), (3, .int v3)] → k18 n σ v3 = some 1 → W p l e room_1 s m #[Value.ref b] below meth c H locs (174 + 6 * k) (257216 + 262 * k) (lw_Z below #[Value.ref b] s) (F0 m 18 ls [])) (k n : Nat) (κ : Nat → Nat) (σ : St) (v3 : Int32) (H : Heap) (locs : List Loc) (ls : Array Slot) (hv : v3 = nI (8 * k)) (hk8 : 8 * k + 8 ≤ 4096) (hN : N0 ≤ n) (hI : IV s.heap D y n n κ σ locs H) (hl : lv_has ls 4 [(0, .ref b), (1, .ref (s.heap.size + 0)), (2, .ref (s.heap.size + 91)), (3, .int v3)]) (h : f_law_25 F xs L k18 n σ v3 = some 1) : W p l e room_1 s m #[Value.ref b] below meth c H locs (174 + 6 * k) (257216 + 262 * k) (lw_Z below #[Value.ref b] s) (F0 m 1034 ls []) := by
  obtain ⟨hx, hb, hr, hml, hown, hts0, hX, hbl, hlocks, hgv⟩ := id C0
  have hbA : ¬ (fun q : Nat => s.heap.size ≤ q) b := Nat.not_le.mpr hbl
  have hts : ∀ w ∈ gtb, w.before #[Value.ref b] s = true := fun w hw => hts0 w (List.mem_filter.mp hw).1
  have hown : s.vm.findClass RL = some m.cls := hown
  unfold f_law_25 at h
  refine lv_aload_n hx hb dL_law_1034 rfl (lv_at hl 1 rfl) ?_
  refine lv_aload_n hx hb dL_law_1035 rfl (lv_at hl 0 rfl) ?_
  refine lv_iload_n hx hb dL_law_1036 rfl (lv_at hl 3 rfl) ?_
  refine lv_iconst (v := 1) hx hb dL_law_1037 (by decide) ?_
  refine lv_iadd hx hb dL_law_1038 ?_
  obtain ⟨hin_, h⟩ := ck_e h
  refine va_sld hx hb hX hbl hbA hI.S hin_ dL_law_1039 ?_
  refine lv_aload_n hx hb dL_law_1040 rfl (lv_at hl 0 rfl) ?_
  refine lv_iload_n hx hb dL_law_1041 rfl (lv_at hl 3 rfl) ?_
  refine lv_iconst (v := 2) hx hb dL_law_1042 (by decide) ?_
  refine lv_iadd hx hb dL_law_1043 ?_
  obtain ⟨hin_, h⟩ := ck_e h
  refine va_sld hx hb hX hbl hbA hI.S hin_ dL_law_1044 ?_
  obtain ⟨q_1045, hq_1045, h⟩ := ob_e h
  refine r_callV (As := [.int (xs (v3 + 1).toNatClampNeg), .int (xs (v3 + 2).toNatClampNeg)]) (rest := []) (cells' := 174 + 6 * k) (slots' := 257216 + 262 * k) hx hb hml hts hown (c_X11_left l s.heap D y F n κ σ hN (xs (v3 + 1).toNatClampNeg) (xs (v3 + 2).toNatClampNeg) (σ 6) rfl (σ 8) rfl q_1045 hq_1045) cal_X11_left im_X11_left se_X11_left lm_L_124 ⟨Nat.le_of_ble_eq_true rfl, Nat.le_of_ble_eq_true rfl⟩ hI.nil hKK (r_recv hKK hI (hE11 s.heap.size y) rfl (lc0 hN) (kc0 hI.1.2.2.2.2)) rfl hl.1 hI.2.2 rfl (Nat.le_of_ble_eq_true rfl) dL_law_1045 ⟨by show 174 + 6 * k + 0 ≤ 600000; omega, by show 257216 + 262 * k + 0 ≤ 7302250; omega⟩ rfl rfl rfl (fun H locs hB hlo => ?_)
  have hI := hB.re hlo
  refine lv_aload_n hx hb dL_law_1048 rfl (lv_at hl 2 rfl) ?_
  refine lv_aload_n hx hb dL_law_1049 rfl (lv_at hl 0 rfl) ?_
  refine lv_iload_n hx hb dL_law_1050 rfl (lv_at hl 3 rfl) ?_
  refine lv_iconst (v := 1) hx hb dL_law_1051 (by decide) ?_
  refine lv_iadd hx hb dL_law_1052 ?_
  obtain ⟨hin_, h⟩ := ck_e h
  refine va_sld hx hb hX hbl hbA hI.S hin_ dL_law_1053 ?_
  refine lv_aload_n hx hb dL_law_1054 rfl (lv_at hl 0 rfl) ?_
  refine lv_iload_n hx hb dL_law_1055 rfl (lv_at hl 3 rfl) ?_
  refine lv_iconst (v := 2) hx hb dL_law_1056 (by decide) ?_
  refine lv_iadd hx hb dL_law_1057 ?_
  obtain ⟨hin_, h⟩ := ck_e h
  refine va_sld hx hb hX hbl hbA hI.S hin_ dL_law_1058 ?_
  obtain ⟨q_1059, hq_1059, h⟩ := ob_e h
  refine r_callV (As := [.int (xs (v3 + 1).toNatClampNeg), .int (xs (v3 + 2).toNatClampNeg)]) (rest := [.int q_1045]) (cells' := 174 + 6 * k) (slots' := 257216 + 262 * k) hx hb hml hts hown (c_X12_left l s.heap D y F n κ σ hN (xs (v3 + 1).toNatClampNeg) (xs (v3 + 2).toNatClampNeg) (σ 24) rfl (σ 41) rfl q_1059 hq_1059) cal_X12_left im_X12_left se_X12_left lm_L_127 ⟨Nat.le_of_ble_eq_true rfl, Nat.le_of_ble_eq_true rfl⟩ hI.nil hKK (r_recv hKK hI (hE12 s.heap.size y) rfl (lc91 hN) (kc91 hI.1.2.2.2.2)) rfl hl.1 hI.2.2 rfl (Nat.le_of_ble_eq_true rfl) dL_law_1059 ⟨by show 174 + 6 * k + 0 ≤ 600000; omega, by show 257216 + 262 * k + 0 ≤ 7302250; omega⟩ rfl rfl rfl (fun H locs hB hlo => ?_)
  have hI := hB.re hlo
  refine lv_icmp_eq (tgt := 1314) hx hb dL_law_1062 (by decide) (fun hc => ?_) (fun hc => ?_)
  · replace h := ite_t hc h
    obtain ⟨v3n, qq, h⟩ := bn_e h
    refine lv_iinc (v := v3n) (lv' := [(3, .int v3n), (0, .ref b), (1, .ref (s.heap.size + 0)), (2, .ref (s.heap.size + 91))]) hx hb dL_law_1314 hl (k := 3) rfl (by rw [qq]; rfl) (by decide) rfl (fun ls hl => ?_)
    refine lv_goto (tgt := 18) hx hb dL_law_1317 (by decide) ?_
    refine W.widen (k := 174 + 6 * (k + 1)) (n := 257216 + 262 * (k + 1)) (by omega) (by omega) ?_
    exact hk18 (k + 1) n κ σ v3n H locs ls (lawv hv qq) (by omega) hN hI (lv_sub hl [1, 2, 3, 0] rfl) h
  · replace h := ite_f hc h
    refine lv_iconst (v := 0) hx hb dL_law_1065 (by decide) ?_
    exact absurd (Option.some.inj h) (by decide)
set_option maxRecDepth 100000 in
set_option maxHeartbeats 4000000 in
theorem law_26 {p : Program} {e : Env} {s : State} {m : MethodId} {below : List Frame} {meth : Method} {c : Code} (l : Launch) {b L : Nat} {xs : Nat → Int32} (hL : L ≤ 4096) (C0 : lw_At p s m meth c b L xs) (D : va_G) (y : Nat → ClassId) (hKK : KK s.heap D y s) (F : Nat) (k18 : Nat → St → Int32 → Option Int32) (hk18 : ∀ (k n : Nat) (κ : Nat → Nat) (σ : St) (v3 : Int32) (H : Heap) (locs : List Loc) (ls : Array Slot), v3 = nI (8 * k) → 8 * k ≤ 4096 → N0 ≤ n → IV s.heap D y n n κ σ locs H → lv_has ls 4 [(0, .ref b), (1, .ref (s.heap.size + 0)), (2, .ref (s.heap.size + 91)), (3, .int v3)] → k18 n σ v3 = some 1 → W p l e room_1 s m #[Value.ref b] below meth c H locs (174 + 6 * k) (257216 + 262 * k) (lw_Z below #[Value.ref b] s) (F0 m 18 ls [])) (k n : Nat) (κ : Nat → Nat) (σ : St) (v3 : Int32) (H : Heap) (locs : List Loc) (ls : Array Slot) (hv : v3 = nI (8 * k)) (hk8 : 8 * k + 8 ≤ 4096) (hN : N0 ≤ n) (hI : IV s.heap D y n n κ σ locs H) (hl : lv_has ls 4 [(0, .ref b), (1, .ref (s.heap.size + 0)), (2, .ref (s.heap.size + 91)), (3, .int v3)]) (h : f_law_26 F xs L k18 n σ v3 = some 1) : W p l e room_1 s m #[Value.ref b] below meth c H locs (174 + 6 * k) (257216 + 262 * k) (lw_Z below #[Value.ref b] s) (F0 m 1067 ls []) := by
  obtain ⟨hx, hb, hr, hml, hown, hts0, hX, hbl, hlocks, hgv⟩ := id C0
  have hbA : ¬ (fun q : Nat => s.heap.size ≤ q) b := Nat.not_le.mpr hbl
  have hts : ∀ w ∈ gtb, w.before #[Value.ref b] s = true := fun w hw => hts0 w (List.mem_filter.mp hw).1
  have hown : s.vm.findClass RL = some m.cls := hown
  unfold f_law_26 at h
  refine lv_aload_n hx hb dL_law_1067 rfl (lv_at hl 1 rfl) ?_
  refine lv_aload_n hx hb dL_law_1068 rfl (lv_at hl 0 rfl) ?_
  refine lv_iload_n hx hb dL_law_1069 rfl (lv_at hl 3 rfl) ?_
  refine lv_iconst (v := 1) hx hb dL_law_1070 (by decide) ?_
  refine lv_iadd hx hb dL_law_1071 ?_
  obtain ⟨hin_, h⟩ := ck_e h
  refine va_sld hx hb hX hbl hbA hI.S hin_ dL_law_1072 ?_
  obtain ⟨q_1073, hq_1073, h⟩ := ob_e h
  refine r_callV (As := [.int (xs (v3 + 1).toNatClampNeg)]) (rest := []) (cells' := 174 + 6 * k) (slots' := 257216 + 262 * k) hx hb hml hts hown (c_X11_amiss l s.heap D y F n κ σ hN (xs (v3 + 1).toNatClampNeg) (σ 8) rfl (σ 9) rfl (σ 10) rfl (σ 13) rfl q_1073 hq_1073) cal_X11_amiss im_X11_amiss se_X11_amiss lm_L_128 ⟨Nat.le_of_ble_eq_true rfl, Nat.le_of_ble_eq_true rfl⟩ hI.nil hKK (r_recv hKK hI (hE11 s.heap.size y) rfl (lc0 hN) (kc0 hI.1.2.2.2.2)) rfl hl.1 hI.2.2 rfl (Nat.le_of_ble_eq_true rfl) dL_law_1073 ⟨by show 174 + 6 * k + 0 ≤ 600000; omega, by show 257216 + 262 * k + 0 ≤ 7302250; omega⟩ rfl rfl rfl (fun H locs hB hlo => ?_)
  have hI := hB.re hlo
  refine lv_aload_n hx hb dL_law_1076 rfl (lv_at hl 2 rfl) ?_
  refine lv_aload_n hx hb dL_law_1077 rfl (lv_at hl 0 rfl) ?_
  refine lv_iload_n hx hb dL_law_1078 rfl (lv_at hl 3 rfl) ?_
  refine lv_iconst (v := 1) hx hb dL_law_1079 (by decide) ?_
  refine lv_iadd hx hb dL_law_1080 ?_
  obtain ⟨hin_, h⟩ := ck_e h
  refine va_sld hx hb hX hbl hbA hI.S hin_ dL_law_1081 ?_
  obtain ⟨q_1082, hq_1082, h⟩ := ob_e h
  refine r_callV (As := [.int (xs (v3 + 1).toNatClampNeg)]) (rest := [.int q_1073]) (cells' := 174 + 6 * k) (slots' := 257216 + 262 * k) hx hb hml hts hown (c_X12_amiss l s.heap D y F n κ σ hN (xs (v3 + 1).toNatClampNeg) (σ 25) rfl (σ 32) rfl (σ 41) rfl q_1082 hq_1082) cal_X12_amiss im_X12_amiss se_X12_amiss lm_L_131 ⟨Nat.le_of_ble_eq_true rfl, Nat.le_of_ble_eq_true rfl⟩ hI.nil hKK (r_recv hKK hI (hE12 s.heap.size y) rfl (lc91 hN) (kc91 hI.1.2.2.2.2)) rfl hl.1 hI.2.2 rfl (Nat.le_of_ble_eq_true rfl) dL_law_1082 ⟨by show 174 + 6 * k + 0 ≤ 600000; omega, by show 257216 + 262 * k + 0 ≤ 7302250; omega⟩ rfl rfl rfl (fun H locs hB hlo => ?_)
  have hI := hB.re hlo
  refine lv_icmp_eq (tgt := 1314) hx hb dL_law_1085 (by decide) (fun hc => ?_) (fun hc => ?_)
  · replace h := ite_t hc h
    obtain ⟨v3n, qq, h⟩ := bn_e h
    refine lv_iinc (v := v3n) (lv' := [(3, .int v3n), (0, .ref b), (1, .ref (s.heap.size + 0)), (2, .ref (s.heap.size + 91))]) hx hb dL_law_1314 hl (k := 3) rfl (by rw [qq]; rfl) (by decide) rfl (fun ls hl => ?_)
    refine lv_goto (tgt := 18) hx hb dL_law_1317 (by decide) ?_
    refine W.widen (k := 174 + 6 * (k + 1)) (n := 257216 + 262 * (k + 1)) (by omega) (by omega) ?_
    exact hk18 (k + 1) n κ σ v3n H locs ls (lawv hv qq) (by omega) hN hI (lv_sub hl [1, 2, 3, 0] rfl) h
  · replace h := ite_f hc h
    refine lv_iconst (v := 0) hx hb dL_law_1088 (by decide) ?_
    exact absurd (Option.some.inj h) (by decide)
set_option maxRecDepth 100000 in
set_option maxHeartbeats 4000000 in
theorem law_27 {p : Program} {e : Env} {s : State} {m : MethodId} {below : List Frame} {meth : Method} {c : Code} (l : Launch) {b L : Nat} {xs : Nat → Int32} (hL : L ≤ 4096) (C0 : lw_At p s m meth c b L xs) (D : va_G) (y : Nat → ClassId) (hKK : KK s.heap D y s) (F : Nat) (k18 : Nat → St → Int32 → Option Int32) (hk18 : ∀ (k n : Nat) (κ : Nat → Nat) (σ : St) (v3 : Int32) (H : Heap) (locs : List Loc) (ls : Array Slot), v3 = nI (8 * k) → 8 * k ≤ 4096 → N0 ≤ n → IV s.heap D y n n κ σ locs H → lv_has ls 4 [(0, .ref b), (1, .ref (s.heap.size + 0)), (2, .ref (s.heap.size + 91)), (3, .int v3)] → k18 n σ v3 = some 1 → W p l e room_1 s m #[Value.ref b] below meth c H locs (174 + 6 * k) (257216 + 262 * k) (lw_Z below #[Value.ref b] s) (F0 m 18 ls [])) (k n : Nat) (κ : Nat → Nat) (σ : St) (v3 : Int32) (H : Heap) (locs : List Loc) (ls : Array Slot) (hv : v3 = nI (8 * k)) (hk8 : 8 * k + 8 ≤ 4096) (hN : N0 ≤ n) (hI : IV s.heap D y n n κ σ locs H) (hl : lv_has ls 4 [(0, .ref b), (1, .ref (s.heap.size + 0)), (2, .ref (s.heap.size + 91)), (3, .int v3)]) (h : f_law_27 F xs L k18 n σ v3 = some 1) : W p l e room_1 s m #[Value.ref b] below meth c H locs (174 + 6 * k) (257216 + 262 * k) (lw_Z below #[Value.ref b] s) (F0 m 1090 ls []) := by
  obtain ⟨hx, hb, hr, hml, hown, hts0, hX, hbl, hlocks, hgv⟩ := id C0
  have hbA : ¬ (fun q : Nat => s.heap.size ≤ q) b := Nat.not_le.mpr hbl
  have hts : ∀ w ∈ gtb, w.before #[Value.ref b] s = true := fun w hw => hts0 w (List.mem_filter.mp hw).1
  have hown : s.vm.findClass RL = some m.cls := hown
  unfold f_law_27 at h
  refine lv_aload_n hx hb dL_law_1090 rfl (lv_at hl 1 rfl) ?_
  refine lv_aload_n hx hb dL_law_1091 rfl (lv_at hl 0 rfl) ?_
  refine lv_iload_n hx hb dL_law_1092 rfl (lv_at hl 3 rfl) ?_
  refine lv_iconst (v := 1) hx hb dL_law_1093 (by decide) ?_
  refine lv_iadd hx hb dL_law_1094 ?_
  obtain ⟨hin_, h⟩ := ck_e h
  refine va_sld hx hb hX hbl hbA hI.S hin_ dL_law_1095 ?_
  obtain ⟨q_1096, hq_1096, h⟩ := ob_e h
  refine r_callV (As := [.int (xs (v3 + 1).toNatClampNeg)]) (rest := []) (cells' := 174 + 6 * k) (slots' := 257216 + 262 * k) hx hb hml hts hown (c_X11_silent l s.heap D y F n κ σ hN (xs (v3 + 1).toNatClampNeg) (σ 1) rfl (σ 7) rfl (σ 9) rfl q_1096 hq_1096) cal_X11_silent im_X11_silent se_X11_silent lm_L_132 ⟨Nat.le_of_ble_eq_true rfl, Nat.le_of_ble_eq_true rfl⟩ hI.nil hKK (r_recv hKK hI (hE11 s.heap.size y) rfl (lc0 hN) (kc0 hI.1.2.2.2.2)) rfl hl.1 hI.2.2 rfl (Nat.le_of_ble_eq_true rfl) dL_law_1096 ⟨by show 174 + 6 * k + 0 ≤ 600000; omega, by show 257216 + 262 * k + 0 ≤ 7302250; omega⟩ rfl rfl rfl (fun H locs hB hlo => ?_)
  have hI := hB.re hlo
  refine lv_aload_n hx hb dL_law_1099 rfl (lv_at hl 2 rfl) ?_
  refine lv_aload_n hx hb dL_law_1100 rfl (lv_at hl 0 rfl) ?_
  refine lv_iload_n hx hb dL_law_1101 rfl (lv_at hl 3 rfl) ?_
  refine lv_iconst (v := 1) hx hb dL_law_1102 (by decide) ?_
  refine lv_iadd hx hb dL_law_1103 ?_
  obtain ⟨hin_, h⟩ := ck_e h
  refine va_sld hx hb hX hbl hbA hI.S hin_ dL_law_1104 ?_
  obtain ⟨q_1105, hq_1105, h⟩ := ob_e h
  refine r_callV (As := [.int (xs (v3 + 1).toNatClampNeg)]) (rest := [.int q_1096]) (cells' := 174 + 6 * k) (slots' := 257216 + 262 * k) hx hb hml hts hown (c_X12_silent l s.heap D y F n κ σ hN (xs (v3 + 1).toNatClampNeg) (σ 23) rfl (σ 25) rfl (σ 32) rfl q_1105 hq_1105) cal_X12_silent im_X12_silent se_X12_silent lm_L_135 ⟨Nat.le_of_ble_eq_true rfl, Nat.le_of_ble_eq_true rfl⟩ hI.nil hKK (r_recv hKK hI (hE12 s.heap.size y) rfl (lc91 hN) (kc91 hI.1.2.2.2.2)) rfl hl.1 hI.2.2 rfl (Nat.le_of_ble_eq_true rfl) dL_law_1105 ⟨by show 174 + 6 * k + 0 ≤ 600000; omega, by show 257216 + 262 * k + 0 ≤ 7302250; omega⟩ rfl rfl rfl (fun H locs hB hlo => ?_)
  have hI := hB.re hlo
  refine lv_icmp_eq (tgt := 1314) hx hb dL_law_1108 (by decide) (fun hc => ?_) (fun hc => ?_)
  · replace h := ite_t hc h
    obtain ⟨v3n, qq, h⟩ := bn_e h
    refine lv_iinc (v := v3n) (lv' := [(3, .int v3n), (0, .ref b), (1, .ref (s.heap.size + 0)), (2, .ref (s.heap.size + 91))]) hx hb dL_law_1314 hl (k := 3) rfl (by rw [qq]; rfl) (by decide) rfl (fun ls hl => ?_)
    refine lv_goto (tgt := 18) hx hb dL_law_1317 (by decide) ?_
    refine W.widen (k := 174 + 6 * (k + 1)) (n := 257216 + 262 * (k + 1)) (by omega) (by omega) ?_
    exact hk18 (k + 1) n κ σ v3n H locs ls (lawv hv qq) (by omega) hN hI (lv_sub hl [1, 2, 3, 0] rfl) h
  · replace h := ite_f hc h
    refine lv_iconst (v := 0) hx hb dL_law_1111 (by decide) ?_
    exact absurd (Option.some.inj h) (by decide)
set_option maxRecDepth 100000 in
set_option maxHeartbeats 4000000 in
theorem law_28 {p : Program} {e : Env} {s : State} {m : MethodId} {below : List Frame} {meth : Method} {c : Code} (l : Launch) {b L : Nat} {xs : Nat → Int32} (hL : L ≤ 4096) (C0 : lw_At p s m meth c b L xs) (D : va_G) (y : Nat → ClassId) (hKK : KK s.heap D y s) (F : Nat) (k18 : Nat → St → Int32 → Option Int32) (hk18 : ∀ (k n : Nat) (κ : Nat → Nat) (σ : St) (v3 : Int32) (H : Heap) (locs : List Loc) (ls : Array Slot), v3 = nI (8 * k) → 8 * k ≤ 4096 → N0 ≤ n → IV s.heap D y n n κ σ locs H → lv_has ls 4 [(0, .ref b), (1, .ref (s.heap.size + 0)), (2, .ref (s.heap.size + 91)), (3, .int v3)] → k18 n σ v3 = some 1 → W p l e room_1 s m #[Value.ref b] below meth c H locs (174 + 6 * k) (257216 + 262 * k) (lw_Z below #[Value.ref b] s) (F0 m 18 ls [])) (k n : Nat) (κ : Nat → Nat) (σ : St) (v3 : Int32) (H : Heap) (locs : List Loc) (ls : Array Slot) (hv : v3 = nI (8 * k)) (hk8 : 8 * k + 8 ≤ 4096) (hN : N0 ≤ n) (hI : IV s.heap D y n n κ σ locs H) (hl : lv_has ls 4 [(0, .ref b), (1, .ref (s.heap.size + 0)), (2, .ref (s.heap.size + 91)), (3, .int v3)]) (h : f_law_28 F xs L k18 n σ v3 = some 1) : W p l e room_1 s m #[Value.ref b] below meth c H locs (174 + 6 * k) (257216 + 262 * k) (lw_Z below #[Value.ref b] s) (F0 m 1113 ls []) := by
  obtain ⟨hx, hb, hr, hml, hown, hts0, hX, hbl, hlocks, hgv⟩ := id C0
  have hbA : ¬ (fun q : Nat => s.heap.size ≤ q) b := Nat.not_le.mpr hbl
  have hts : ∀ w ∈ gtb, w.before #[Value.ref b] s = true := fun w hw => hts0 w (List.mem_filter.mp hw).1
  have hown : s.vm.findClass RL = some m.cls := hown
  unfold f_law_28 at h
  refine lv_aload_n hx hb dL_law_1113 rfl (lv_at hl 1 rfl) ?_
  refine lv_aload_n hx hb dL_law_1114 rfl (lv_at hl 0 rfl) ?_
  refine lv_iload_n hx hb dL_law_1115 rfl (lv_at hl 3 rfl) ?_
  refine lv_iconst (v := 1) hx hb dL_law_1116 (by decide) ?_
  refine lv_iadd hx hb dL_law_1117 ?_
  obtain ⟨hin_, h⟩ := ck_e h
  refine va_sld hx hb hX hbl hbA hI.S hin_ dL_law_1118 ?_
  refine lv_aload_n hx hb dL_law_1119 rfl (lv_at hl 0 rfl) ?_
  refine lv_iload_n hx hb dL_law_1120 rfl (lv_at hl 3 rfl) ?_
  refine lv_iconst (v := 2) hx hb dL_law_1121 (by decide) ?_
  refine lv_iadd hx hb dL_law_1122 ?_
  obtain ⟨hin_, h⟩ := ck_e h
  refine va_sld hx hb hX hbl hbA hI.S hin_ dL_law_1123 ?_
  refine lv_aload_n hx hb dL_law_1124 rfl (lv_at hl 0 rfl) ?_
  refine lv_iload_n hx hb dL_law_1125 rfl (lv_at hl 3 rfl) ?_
  refine lv_iconst (v := 3) hx hb dL_law_1126 (by decide) ?_
  refine lv_iadd hx hb dL_law_1127 ?_
  obtain ⟨hin_, h⟩ := ck_e h
  refine va_sld hx hb hX hbl hbA hI.S hin_ dL_law_1128 ?_
  obtain ⟨q_1129, hq_1129, h⟩ := ob_e h
  refine r_callV (As := [.int (xs (v3 + 1).toNatClampNeg), .int (xs (v3 + 2).toNatClampNeg), .int (xs (v3 + 3).toNatClampNeg)]) (rest := []) (cells' := 174 + 6 * k) (slots' := 257216 + 262 * k) hx hb hml hts hown (c_X11_wish l s.heap D y F n κ σ hN (xs (v3 + 1).toNatClampNeg) (xs (v3 + 2).toNatClampNeg) (xs (v3 + 3).toNatClampNeg) (σ 6) rfl (σ 20) rfl q_1129 hq_1129) cal_X11_wish im_X11_wish se_X11_wish lm_L_136 ⟨Nat.le_of_ble_eq_true rfl, Nat.le_of_ble_eq_true rfl⟩ hI.nil hKK (r_recv hKK hI (hE11 s.heap.size y) rfl (lc0 hN) (kc0 hI.1.2.2.2.2)) rfl hl.1 hI.2.2 rfl (Nat.le_of_ble_eq_true rfl) dL_law_1129 ⟨by show 174 + 6 * k + 0 ≤ 600000; omega, by show 257216 + 262 * k + 0 ≤ 7302250; omega⟩ rfl rfl rfl (fun H locs hB hlo => ?_)
  obtain ⟨σ, hB, en20, ho⟩ := hB
  obtain ⟨σ_1129, qs, h⟩ := bn_e h
  have es : σ = σ_1129 := (sgs_eq (l := [(20, q_1129.2)]) (by intro z hz; rw [List.mem_singleton.mp hz]; exact en20) ho).trans qs.symm
  rw [es] at hB
  have hI := hB.re hlo
  refine lv_aload_n hx hb dL_law_1132 rfl (lv_at hl 2 rfl) ?_
  refine lv_aload_n hx hb dL_law_1133 rfl (lv_at hl 0 rfl) ?_
  refine lv_iload_n hx hb dL_law_1134 rfl (lv_at hl 3 rfl) ?_
  refine lv_iconst (v := 1) hx hb dL_law_1135 (by decide) ?_
  refine lv_iadd hx hb dL_law_1136 ?_
  obtain ⟨hin_, h⟩ := ck_e h
  refine va_sld hx hb hX hbl hbA hI.S hin_ dL_law_1137 ?_
  refine lv_aload_n hx hb dL_law_1138 rfl (lv_at hl 0 rfl) ?_
  refine lv_iload_n hx hb dL_law_1139 rfl (lv_at hl 3 rfl) ?_
  refine lv_iconst (v := 2) hx hb dL_law_1140 (by decide) ?_
  refine lv_iadd hx hb dL_law_1141 ?_
  obtain ⟨hin_, h⟩ := ck_e h
  refine va_sld hx hb hX hbl hbA hI.S hin_ dL_law_1142 ?_
  refine lv_aload_n hx hb dL_law_1143 rfl (lv_at hl 0 rfl) ?_
  refine lv_iload_n hx hb dL_law_1144 rfl (lv_at hl 3 rfl) ?_
  refine lv_iconst (v := 3) hx hb dL_law_1145 (by decide) ?_
  refine lv_iadd hx hb dL_law_1146 ?_
  obtain ⟨hin_, h⟩ := ck_e h
  refine va_sld hx hb hX hbl hbA hI.S hin_ dL_law_1147 ?_
  obtain ⟨q_1148, hq_1148, h⟩ := ob_e h
  refine r_callV (As := [.int (xs (v3 + 1).toNatClampNeg), .int (xs (v3 + 2).toNatClampNeg), .int (xs (v3 + 3).toNatClampNeg)]) (rest := [.int (q_1129.1)]) (cells' := 174 + 6 * k) (slots' := 257216 + 262 * k) hx hb hml hts hown (c_X12_wish l s.heap D y F n κ σ_1129 hN (xs (v3 + 1).toNatClampNeg) (xs (v3 + 2).toNatClampNeg) (xs (v3 + 3).toNatClampNeg) (σ_1129 24) rfl (σ_1129 42) rfl q_1148 hq_1148) cal_X12_wish im_X12_wish se_X12_wish lm_L_140 ⟨Nat.le_of_ble_eq_true rfl, Nat.le_of_ble_eq_true rfl⟩ hI.nil hKK (r_recv hKK hI (hE12 s.heap.size y) rfl (lc91 hN) (kc91 hI.1.2.2.2.2)) rfl hl.1 hI.2.2 rfl (Nat.le_of_ble_eq_true rfl) dL_law_1148 ⟨by show 174 + 6 * k + 0 ≤ 600000; omega, by show 257216 + 262 * k + 0 ≤ 7302250; omega⟩ rfl rfl rfl (fun H locs hB hlo => ?_)
  obtain ⟨σ, hB, en42, ho⟩ := hB
  obtain ⟨σ_1148, qs, h⟩ := bn_e h
  have es : σ = σ_1148 := (sgs_eq (l := [(42, q_1148.2)]) (by intro z hz; rw [List.mem_singleton.mp hz]; exact en42) ho).trans qs.symm
  rw [es] at hB
  have hI := hB.re hlo
  refine lv_icmp_eq (tgt := 1314) hx hb dL_law_1151 (by decide) (fun hc => ?_) (fun hc => ?_)
  · replace h := ite_t hc h
    obtain ⟨v3n, qq, h⟩ := bn_e h
    refine lv_iinc (v := v3n) (lv' := [(3, .int v3n), (0, .ref b), (1, .ref (s.heap.size + 0)), (2, .ref (s.heap.size + 91))]) hx hb dL_law_1314 hl (k := 3) rfl (by rw [qq]; rfl) (by decide) rfl (fun ls hl => ?_)
    refine lv_goto (tgt := 18) hx hb dL_law_1317 (by decide) ?_
    refine W.widen (k := 174 + 6 * (k + 1)) (n := 257216 + 262 * (k + 1)) (by omega) (by omega) ?_
    exact hk18 (k + 1) n κ σ_1148 v3n H locs ls (lawv hv qq) (by omega) hN hI (lv_sub hl [1, 2, 3, 0] rfl) h
  · replace h := ite_f hc h
    refine lv_iconst (v := 0) hx hb dL_law_1154 (by decide) ?_
    exact absurd (Option.some.inj h) (by decide)
set_option maxRecDepth 100000 in
set_option maxHeartbeats 4000000 in
theorem law_29 {p : Program} {e : Env} {s : State} {m : MethodId} {below : List Frame} {meth : Method} {c : Code} (l : Launch) {b L : Nat} {xs : Nat → Int32} (hL : L ≤ 4096) (C0 : lw_At p s m meth c b L xs) (D : va_G) (y : Nat → ClassId) (hKK : KK s.heap D y s) (F : Nat) (k18 : Nat → St → Int32 → Option Int32) (hk18 : ∀ (k n : Nat) (κ : Nat → Nat) (σ : St) (v3 : Int32) (H : Heap) (locs : List Loc) (ls : Array Slot), v3 = nI (8 * k) → 8 * k ≤ 4096 → N0 ≤ n → IV s.heap D y n n κ σ locs H → lv_has ls 4 [(0, .ref b), (1, .ref (s.heap.size + 0)), (2, .ref (s.heap.size + 91)), (3, .int v3)] → k18 n σ v3 = some 1 → W p l e room_1 s m #[Value.ref b] below meth c H locs (174 + 6 * k) (257216 + 262 * k) (lw_Z below #[Value.ref b] s) (F0 m 18 ls [])) (k n : Nat) (κ : Nat → Nat) (σ : St) (v3 : Int32) (H : Heap) (locs : List Loc) (ls : Array Slot) (hv : v3 = nI (8 * k)) (hk8 : 8 * k + 8 ≤ 4096) (hN : N0 ≤ n) (hI : IV s.heap D y n n κ σ locs H) (hl : lv_has ls 4 [(0, .ref b), (1, .ref (s.heap.size + 0)), (2, .ref (s.heap.size + 91)), (3, .int v3)]) (h : f_law_29 F xs L k18 n σ v3 = some 1) : W p l e room_1 s m #[Value.ref b] below meth c H locs (174 + 6 * k) (257216 + 262 * k) (lw_Z below #[Value.ref b] s) (F0 m 1156 ls []) := by
  obtain ⟨hx, hb, hr, hml, hown, hts0, hX, hbl, hlocks, hgv⟩ := id C0
  have hbA : ¬ (fun q : Nat => s.heap.size ≤ q) b := Nat.not_le.mpr hbl
  have hts : ∀ w ∈ gtb, w.before #[Value.ref b] s = true := fun w hw => hts0 w (List.mem_filter.mp hw).1
  have hown : s.vm.findClass RL = some m.cls := hown
  unfold f_law_29 at h
  refine lv_aload_n hx hb dL_law_1156 rfl (lv_at hl 1 rfl) ?_
  obtain ⟨q_1157, hq_1157, h⟩ := ob_e h
  refine r_callV (As := []) (rest := []) (cells' := 174 + 6 * k + 6) (slots' := 257216 + 262 * k + 54) hx hb hml hts hown (c_X11_pairing l s.heap D y F n κ σ hN  (σ 1) rfl (σ 6) rfl (σ 7) rfl (σ 8) rfl (σ 9) rfl (σ 17) rfl (σ 20) rfl (σ 21) rfl q_1157 hq_1157) cal_X11_pairing im_X11_pairing se_X11_pairing lm_L_141 ⟨Nat.le_of_ble_eq_true rfl, Nat.le_of_ble_eq_true rfl⟩ hI.nil hKK (r_recv hKK hI (hE11 s.heap.size y) rfl (lc0 hN) (kc0 hI.1.2.2.2.2)) rfl hl.1 hI.2.2 rfl (Nat.le_of_ble_eq_true rfl) dL_law_1157 ⟨by show 174 + 6 * k + 6 ≤ 600000; omega, by show 257216 + 262 * k + 54 ≤ 7302250; omega⟩ rfl rfl rfl (fun H locs hB hlo => ?_)
  obtain ⟨κ, σ, hB, hn2, en7, en9, en17, en20, en21, ho⟩ := hB
  have hN := Nat.le_trans hN hn2
  obtain ⟨σ_1157, qs, h⟩ := bn_e h
  have es : σ = σ_1157 := (sgs_eq (l := [(7, q_1157.2.2.1), (9, q_1157.2.2.2.1), (17, q_1157.2.2.2.2.1), (20, q_1157.2.2.2.2.2.1), (21, q_1157.2.2.2.2.2.2)]) (by intro z hz; simp only [List.mem_cons, List.not_mem_nil, or_false] at hz; rcases hz with rfl | rfl | rfl | rfl | rfl <;> first | exact en7 | exact en9 | exact en17 | exact en20 | exact en21) ho).trans qs.symm
  rw [es] at hB
  have hI := hB.re hlo
  refine lv_aload_n hx hb dL_law_1160 rfl (lv_at hl 2 rfl) ?_
  obtain ⟨q_1161, hq_1161, h⟩ := ob_e h
  refine r_callV (As := []) (rest := [.int (q_1157.1)]) (cells' := 174 + 6 * k + 6) (slots' := 257216 + 262 * k + 54) hx hb hml hts hown (c_X12_pairing l s.heap D y F (q_1157.2.1) κ σ_1157 hN  (σ_1157 23) rfl (σ_1157 24) rfl (σ_1157 25) rfl (σ_1157 38) rfl (σ_1157 41) rfl (σ_1157 42) rfl (σ_1157 43) rfl q_1161 hq_1161) cal_X12_pairing im_X12_pairing se_X12_pairing lm_L_144 ⟨Nat.le_of_ble_eq_true rfl, Nat.le_of_ble_eq_true rfl⟩ hI.nil hKK (r_recv hKK hI (hE12 s.heap.size y) rfl (lc91 hN) (kc91 hI.1.2.2.2.2)) rfl hl.1 hI.2.2 rfl (Nat.le_of_ble_eq_true rfl) dL_law_1161 ⟨by show 174 + 6 * k + 6 + 0 ≤ 600000; omega, by show 257216 + 262 * k + 54 + 0 ≤ 7302250; omega⟩ rfl rfl rfl (fun H locs hB hlo => ?_)
  obtain ⟨σ, hB, en25, en38, en42, en43, ho⟩ := hB
  obtain ⟨σ_1161, qs, h⟩ := bn_e h
  have es : σ = σ_1161 := (sgs_eq (l := [(25, q_1161.2.1), (38, q_1161.2.2.1), (42, q_1161.2.2.2.1), (43, q_1161.2.2.2.2)]) (by intro z hz; simp only [List.mem_cons, List.not_mem_nil, or_false] at hz; rcases hz with rfl | rfl | rfl | rfl <;> first | exact en25 | exact en38 | exact en42 | exact en43) ho).trans qs.symm
  rw [es] at hB
  have hI := hB.re hlo
  refine lv_icmp_eq (tgt := 1314) hx hb dL_law_1164 (by decide) (fun hc => ?_) (fun hc => ?_)
  · replace h := ite_t hc h
    obtain ⟨v3n, qq, h⟩ := bn_e h
    refine lv_iinc (v := v3n) (lv' := [(3, .int v3n), (0, .ref b), (1, .ref (s.heap.size + 0)), (2, .ref (s.heap.size + 91))]) hx hb dL_law_1314 hl (k := 3) rfl (by rw [qq]; rfl) (by decide) rfl (fun ls hl => ?_)
    refine lv_goto (tgt := 18) hx hb dL_law_1317 (by decide) ?_
    refine W.widen (k := 174 + 6 * (k + 1)) (n := 257216 + 262 * (k + 1)) (by omega) (by omega) ?_
    exact hk18 (k + 1) (q_1157.2.1) κ σ_1161 v3n H locs ls (lawv hv qq) (by omega) hN hI (lv_sub hl [1, 2, 3, 0] rfl) h
  · replace h := ite_f hc h
    refine lv_iconst (v := 0) hx hb dL_law_1167 (by decide) ?_
    exact absurd (Option.some.inj h) (by decide)
set_option maxRecDepth 100000 in
set_option maxHeartbeats 4000000 in
theorem law_30 {p : Program} {e : Env} {s : State} {m : MethodId} {below : List Frame} {meth : Method} {c : Code} (l : Launch) {b L : Nat} {xs : Nat → Int32} (hL : L ≤ 4096) (C0 : lw_At p s m meth c b L xs) (D : va_G) (y : Nat → ClassId) (hKK : KK s.heap D y s) (F : Nat) (k18 : Nat → St → Int32 → Option Int32) (hk18 : ∀ (k n : Nat) (κ : Nat → Nat) (σ : St) (v3 : Int32) (H : Heap) (locs : List Loc) (ls : Array Slot), v3 = nI (8 * k) → 8 * k ≤ 4096 → N0 ≤ n → IV s.heap D y n n κ σ locs H → lv_has ls 4 [(0, .ref b), (1, .ref (s.heap.size + 0)), (2, .ref (s.heap.size + 91)), (3, .int v3)] → k18 n σ v3 = some 1 → W p l e room_1 s m #[Value.ref b] below meth c H locs (174 + 6 * k) (257216 + 262 * k) (lw_Z below #[Value.ref b] s) (F0 m 18 ls [])) (k n : Nat) (κ : Nat → Nat) (σ : St) (v3 : Int32) (H : Heap) (locs : List Loc) (ls : Array Slot) (hv : v3 = nI (8 * k)) (hk8 : 8 * k + 8 ≤ 4096) (hN : N0 ≤ n) (hI : IV s.heap D y n n κ σ locs H) (hl : lv_has ls 4 [(0, .ref b), (1, .ref (s.heap.size + 0)), (2, .ref (s.heap.size + 91)), (3, .int v3)]) (h : f_law_30 F xs L k18 n σ v3 = some 1) : W p l e room_1 s m #[Value.ref b] below meth c H locs (174 + 6 * k) (257216 + 262 * k) (lw_Z below #[Value.ref b] s) (F0 m 1169 ls []) := by
  obtain ⟨hx, hb, hr, hml, hown, hts0, hX, hbl, hlocks, hgv⟩ := id C0
  have hbA : ¬ (fun q : Nat => s.heap.size ≤ q) b := Nat.not_le.mpr hbl
  have hts : ∀ w ∈ gtb, w.before #[Value.ref b] s = true := fun w hw => hts0 w (List.mem_filter.mp hw).1
  have hown : s.vm.findClass RL = some m.cls := hown
  unfold f_law_30 at h
  refine lv_aload_n hx hb dL_law_1169 rfl (lv_at hl 1 rfl) ?_
  refine lv_aload_n hx hb dL_law_1170 rfl (lv_at hl 0 rfl) ?_
  refine lv_iload_n hx hb dL_law_1171 rfl (lv_at hl 3 rfl) ?_
  refine lv_iconst (v := 1) hx hb dL_law_1172 (by decide) ?_
  refine lv_iadd hx hb dL_law_1173 ?_
  obtain ⟨hin_, h⟩ := ck_e h
  refine va_sld hx hb hX hbl hbA hI.S hin_ dL_law_1174 ?_
  refine lv_aload_n hx hb dL_law_1175 rfl (lv_at hl 0 rfl) ?_
  refine lv_iload_n hx hb dL_law_1176 rfl (lv_at hl 3 rfl) ?_
  refine lv_iconst (v := 2) hx hb dL_law_1177 (by decide) ?_
  refine lv_iadd hx hb dL_law_1178 ?_
  obtain ⟨hin_, h⟩ := ck_e h
  refine va_sld hx hb hX hbl hbA hI.S hin_ dL_law_1179 ?_
  obtain ⟨q_1180, hq_1180, h⟩ := ob_e h
  refine r_callV (As := [.int (xs (v3 + 1).toNatClampNeg), .int (xs (v3 + 2).toNatClampNeg)]) (rest := []) (cells' := 174 + 6 * k) (slots' := 257216 + 262 * k) hx hb hml hts hown (c_X11_trial l s.heap D y F n κ σ hN (xs (v3 + 1).toNatClampNeg) (xs (v3 + 2).toNatClampNeg) (σ 6) rfl (σ 22) rfl q_1180 hq_1180) cal_X11_trial im_X11_trial se_X11_trial lm_L_145 ⟨Nat.le_of_ble_eq_true rfl, Nat.le_of_ble_eq_true rfl⟩ hI.nil hKK (r_recv hKK hI (hE11 s.heap.size y) rfl (lc0 hN) (kc0 hI.1.2.2.2.2)) rfl hl.1 hI.2.2 rfl (Nat.le_of_ble_eq_true rfl) dL_law_1180 ⟨by show 174 + 6 * k + 0 ≤ 600000; omega, by show 257216 + 262 * k + 0 ≤ 7302250; omega⟩ rfl rfl rfl (fun H locs hB hlo => ?_)
  obtain ⟨σ, hB, en22, ho⟩ := hB
  obtain ⟨σ_1180, qs, h⟩ := bn_e h
  have es : σ = σ_1180 := (sgs_eq (l := [(22, q_1180.2)]) (by intro z hz; rw [List.mem_singleton.mp hz]; exact en22) ho).trans qs.symm
  rw [es] at hB
  have hI := hB.re hlo
  refine lv_aload_n hx hb dL_law_1183 rfl (lv_at hl 2 rfl) ?_
  refine lv_aload_n hx hb dL_law_1184 rfl (lv_at hl 0 rfl) ?_
  refine lv_iload_n hx hb dL_law_1185 rfl (lv_at hl 3 rfl) ?_
  refine lv_iconst (v := 1) hx hb dL_law_1186 (by decide) ?_
  refine lv_iadd hx hb dL_law_1187 ?_
  obtain ⟨hin_, h⟩ := ck_e h
  refine va_sld hx hb hX hbl hbA hI.S hin_ dL_law_1188 ?_
  refine lv_aload_n hx hb dL_law_1189 rfl (lv_at hl 0 rfl) ?_
  refine lv_iload_n hx hb dL_law_1190 rfl (lv_at hl 3 rfl) ?_
  refine lv_iconst (v := 2) hx hb dL_law_1191 (by decide) ?_
  refine lv_iadd hx hb dL_law_1192 ?_
  obtain ⟨hin_, h⟩ := ck_e h
  refine va_sld hx hb hX hbl hbA hI.S hin_ dL_law_1193 ?_
  obtain ⟨q_1194, hq_1194, h⟩ := ob_e h
  refine r_callV (As := [.int (xs (v3 + 1).toNatClampNeg), .int (xs (v3 + 2).toNatClampNeg)]) (rest := [.int (q_1180.1)]) (cells' := 174 + 6 * k) (slots' := 257216 + 262 * k) hx hb hml hts hown (c_X12_trial l s.heap D y F n κ σ_1180 hN (xs (v3 + 1).toNatClampNeg) (xs (v3 + 2).toNatClampNeg) (σ_1180 24) rfl (σ_1180 44) rfl q_1194 hq_1194) cal_X12_trial im_X12_trial se_X12_trial lm_L_148 ⟨Nat.le_of_ble_eq_true rfl, Nat.le_of_ble_eq_true rfl⟩ hI.nil hKK (r_recv hKK hI (hE12 s.heap.size y) rfl (lc91 hN) (kc91 hI.1.2.2.2.2)) rfl hl.1 hI.2.2 rfl (Nat.le_of_ble_eq_true rfl) dL_law_1194 ⟨by show 174 + 6 * k + 0 ≤ 600000; omega, by show 257216 + 262 * k + 0 ≤ 7302250; omega⟩ rfl rfl rfl (fun H locs hB hlo => ?_)
  obtain ⟨σ, hB, en44, ho⟩ := hB
  obtain ⟨σ_1194, qs, h⟩ := bn_e h
  have es : σ = σ_1194 := (sgs_eq (l := [(44, q_1194.2)]) (by intro z hz; rw [List.mem_singleton.mp hz]; exact en44) ho).trans qs.symm
  rw [es] at hB
  have hI := hB.re hlo
  refine lv_icmp_eq (tgt := 1314) hx hb dL_law_1197 (by decide) (fun hc => ?_) (fun hc => ?_)
  · replace h := ite_t hc h
    obtain ⟨v3n, qq, h⟩ := bn_e h
    refine lv_iinc (v := v3n) (lv' := [(3, .int v3n), (0, .ref b), (1, .ref (s.heap.size + 0)), (2, .ref (s.heap.size + 91))]) hx hb dL_law_1314 hl (k := 3) rfl (by rw [qq]; rfl) (by decide) rfl (fun ls hl => ?_)
    refine lv_goto (tgt := 18) hx hb dL_law_1317 (by decide) ?_
    refine W.widen (k := 174 + 6 * (k + 1)) (n := 257216 + 262 * (k + 1)) (by omega) (by omega) ?_
    exact hk18 (k + 1) n κ σ_1194 v3n H locs ls (lawv hv qq) (by omega) hN hI (lv_sub hl [1, 2, 3, 0] rfl) h
  · replace h := ite_f hc h
    refine lv_iconst (v := 0) hx hb dL_law_1200 (by decide) ?_
    exact absurd (Option.some.inj h) (by decide)
set_option maxRecDepth 100000 in
set_option maxHeartbeats 4000000 in
theorem law_31 {p : Program} {e : Env} {s : State} {m : MethodId} {below : List Frame} {meth : Method} {c : Code} (l : Launch) {b L : Nat} {xs : Nat → Int32} (hL : L ≤ 4096) (C0 : lw_At p s m meth c b L xs) (D : va_G) (y : Nat → ClassId) (hKK : KK s.heap D y s) (F : Nat) (k18 : Nat → St → Int32 → Option Int32) (hk18 : ∀ (k n : Nat) (κ : Nat → Nat) (σ : St) (v3 : Int32) (H : Heap) (locs : List Loc) (ls : Array Slot), v3 = nI (8 * k) → 8 * k ≤ 4096 → N0 ≤ n → IV s.heap D y n n κ σ locs H → lv_has ls 4 [(0, .ref b), (1, .ref (s.heap.size + 0)), (2, .ref (s.heap.size + 91)), (3, .int v3)] → k18 n σ v3 = some 1 → W p l e room_1 s m #[Value.ref b] below meth c H locs (174 + 6 * k) (257216 + 262 * k) (lw_Z below #[Value.ref b] s) (F0 m 18 ls [])) (k n : Nat) (κ : Nat → Nat) (σ : St) (v3 : Int32) (H : Heap) (locs : List Loc) (ls : Array Slot) (hv : v3 = nI (8 * k)) (hk8 : 8 * k + 8 ≤ 4096) (hN : N0 ≤ n) (hI : IV s.heap D y n n κ σ locs H) (hl : lv_has ls 4 [(0, .ref b), (1, .ref (s.heap.size + 0)), (2, .ref (s.heap.size + 91)), (3, .int v3)]) (h : f_law_31 F xs L k18 n σ v3 = some 1) : W p l e room_1 s m #[Value.ref b] below meth c H locs (174 + 6 * k) (257216 + 262 * k) (lw_Z below #[Value.ref b] s) (F0 m 1202 ls []) := by
  obtain ⟨hx, hb, hr, hml, hown, hts0, hX, hbl, hlocks, hgv⟩ := id C0
  have hbA : ¬ (fun q : Nat => s.heap.size ≤ q) b := Nat.not_le.mpr hbl
  have hts : ∀ w ∈ gtb, w.before #[Value.ref b] s = true := fun w hw => hts0 w (List.mem_filter.mp hw).1
  have hown : s.vm.findClass RL = some m.cls := hown
  unfold f_law_31 at h
  refine lv_aload_n hx hb dL_law_1202 rfl (lv_at hl 1 rfl) ?_
  refine lv_aload_n hx hb dL_law_1203 rfl (lv_at hl 0 rfl) ?_
  refine lv_iload_n hx hb dL_law_1204 rfl (lv_at hl 3 rfl) ?_
  refine lv_iconst (v := 1) hx hb dL_law_1205 (by decide) ?_
  refine lv_iadd hx hb dL_law_1206 ?_
  obtain ⟨hin_, h⟩ := ck_e h
  refine va_sld hx hb hX hbl hbA hI.S hin_ dL_law_1207 ?_
  refine lv_aload_n hx hb dL_law_1208 rfl (lv_at hl 0 rfl) ?_
  refine lv_iload_n hx hb dL_law_1209 rfl (lv_at hl 3 rfl) ?_
  refine lv_iconst (v := 2) hx hb dL_law_1210 (by decide) ?_
  refine lv_iadd hx hb dL_law_1211 ?_
  obtain ⟨hin_, h⟩ := ck_e h
  refine va_sld hx hb hX hbl hbA hI.S hin_ dL_law_1212 ?_
  obtain ⟨q_1213, hq_1213, h⟩ := ob_e h
  refine r_callV (As := [.int (xs (v3 + 1).toNatClampNeg), .int (xs (v3 + 2).toNatClampNeg)]) (rest := []) (cells' := 174 + 6 * k) (slots' := 257216 + 262 * k) hx hb hml hts hown (c_X11_outcome l s.heap D y F n κ σ hN (xs (v3 + 1).toNatClampNeg) (xs (v3 + 2).toNatClampNeg) (σ 22) rfl q_1213 hq_1213) cal_X11_outcome im_X11_outcome se_X11_outcome lm_L_149 ⟨Nat.le_of_ble_eq_true rfl, Nat.le_of_ble_eq_true rfl⟩ hI.nil hKK (r_recv hKK hI (hE11 s.heap.size y) rfl (lc0 hN) (kc0 hI.1.2.2.2.2)) rfl hl.1 hI.2.2 rfl (Nat.le_of_ble_eq_true rfl) dL_law_1213 ⟨by show 174 + 6 * k + 0 ≤ 600000; omega, by show 257216 + 262 * k + 0 ≤ 7302250; omega⟩ rfl rfl rfl (fun H locs hB hlo => ?_)
  obtain ⟨σ, hB, en22, ho⟩ := hB
  obtain ⟨σ_1213, qs, h⟩ := bn_e h
  have es : σ = σ_1213 := (sgs_eq (l := [(22, q_1213.2)]) (by intro z hz; rw [List.mem_singleton.mp hz]; exact en22) ho).trans qs.symm
  rw [es] at hB
  have hI := hB.re hlo
  refine lv_aload_n hx hb dL_law_1216 rfl (lv_at hl 2 rfl) ?_
  refine lv_aload_n hx hb dL_law_1217 rfl (lv_at hl 0 rfl) ?_
  refine lv_iload_n hx hb dL_law_1218 rfl (lv_at hl 3 rfl) ?_
  refine lv_iconst (v := 1) hx hb dL_law_1219 (by decide) ?_
  refine lv_iadd hx hb dL_law_1220 ?_
  obtain ⟨hin_, h⟩ := ck_e h
  refine va_sld hx hb hX hbl hbA hI.S hin_ dL_law_1221 ?_
  refine lv_aload_n hx hb dL_law_1222 rfl (lv_at hl 0 rfl) ?_
  refine lv_iload_n hx hb dL_law_1223 rfl (lv_at hl 3 rfl) ?_
  refine lv_iconst (v := 2) hx hb dL_law_1224 (by decide) ?_
  refine lv_iadd hx hb dL_law_1225 ?_
  obtain ⟨hin_, h⟩ := ck_e h
  refine va_sld hx hb hX hbl hbA hI.S hin_ dL_law_1226 ?_
  obtain ⟨q_1227, hq_1227, h⟩ := ob_e h
  refine r_callV (As := [.int (xs (v3 + 1).toNatClampNeg), .int (xs (v3 + 2).toNatClampNeg)]) (rest := [.int (q_1213.1)]) (cells' := 174 + 6 * k) (slots' := 257216 + 262 * k) hx hb hml hts hown (c_X12_outcome l s.heap D y F n κ σ_1213 hN (xs (v3 + 1).toNatClampNeg) (xs (v3 + 2).toNatClampNeg) (σ_1213 24) rfl (σ_1213 44) rfl q_1227 hq_1227) cal_X12_outcome im_X12_outcome se_X12_outcome lm_L_152 ⟨Nat.le_of_ble_eq_true rfl, Nat.le_of_ble_eq_true rfl⟩ hI.nil hKK (r_recv hKK hI (hE12 s.heap.size y) rfl (lc91 hN) (kc91 hI.1.2.2.2.2)) rfl hl.1 hI.2.2 rfl (Nat.le_of_ble_eq_true rfl) dL_law_1227 ⟨by show 174 + 6 * k + 0 ≤ 600000; omega, by show 257216 + 262 * k + 0 ≤ 7302250; omega⟩ rfl rfl rfl (fun H locs hB hlo => ?_)
  obtain ⟨σ, hB, en44, ho⟩ := hB
  obtain ⟨σ_1227, qs, h⟩ := bn_e h
  have es : σ = σ_1227 := (sgs_eq (l := [(44, q_1227.2)]) (by intro z hz; rw [List.mem_singleton.mp hz]; exact en44) ho).trans qs.symm
  rw [es] at hB
  have hI := hB.re hlo
  refine lv_icmp_eq (tgt := 1314) hx hb dL_law_1230 (by decide) (fun hc => ?_) (fun hc => ?_)
  · replace h := ite_t hc h
    obtain ⟨v3n, qq, h⟩ := bn_e h
    refine lv_iinc (v := v3n) (lv' := [(3, .int v3n), (0, .ref b), (1, .ref (s.heap.size + 0)), (2, .ref (s.heap.size + 91))]) hx hb dL_law_1314 hl (k := 3) rfl (by rw [qq]; rfl) (by decide) rfl (fun ls hl => ?_)
    refine lv_goto (tgt := 18) hx hb dL_law_1317 (by decide) ?_
    refine W.widen (k := 174 + 6 * (k + 1)) (n := 257216 + 262 * (k + 1)) (by omega) (by omega) ?_
    exact hk18 (k + 1) n κ σ_1227 v3n H locs ls (lawv hv qq) (by omega) hN hI (lv_sub hl [1, 2, 3, 0] rfl) h
  · replace h := ite_f hc h
    refine lv_iconst (v := 0) hx hb dL_law_1233 (by decide) ?_
    exact absurd (Option.some.inj h) (by decide)
set_option maxRecDepth 100000 in
set_option maxHeartbeats 4000000 in
theorem law_32 {p : Program} {e : Env} {s : State} {m : MethodId} {below : List Frame} {meth : Method} {c : Code} (l : Launch) {b L : Nat} {xs : Nat → Int32} (hL : L ≤ 4096) (C0 : lw_At p s m meth c b L xs) (D : va_G) (y : Nat → ClassId) (hKK : KK s.heap D y s) (F : Nat) (k18 : Nat → St → Int32 → Option Int32) (hk18 : ∀ (k n : Nat) (κ : Nat → Nat) (σ : St) (v3 : Int32) (H : Heap) (locs : List Loc) (ls : Array Slot), v3 = nI (8 * k) → 8 * k ≤ 4096 → N0 ≤ n → IV s.heap D y n n κ σ locs H → lv_has ls 4 [(0, .ref b), (1, .ref (s.heap.size + 0)), (2, .ref (s.heap.size + 91)), (3, .int v3)] → k18 n σ v3 = some 1 → W p l e room_1 s m #[Value.ref b] below meth c H locs (174 + 6 * k) (257216 + 262 * k) (lw_Z below #[Value.ref b] s) (F0 m 18 ls [])) (k n : Nat) (κ : Nat → Nat) (σ : St) (v3 : Int32) (H : Heap) (locs : List Loc) (ls : Array Slot) (hv : v3 = nI (8 * k)) (hk8 : 8 * k + 8 ≤ 4096) (hN : N0 ≤ n) (hI : IV s.heap D y n n κ σ locs H) (hl : lv_has ls 4 [(0, .ref b), (1, .ref (s.heap.size + 0)), (2, .ref (s.heap.size + 91)), (3, .int v3)]) (h : f_law_32 F xs L k18 n σ v3 = some 1) : W p l e room_1 s m #[Value.ref b] below meth c H locs (174 + 6 * k) (257216 + 262 * k) (lw_Z below #[Value.ref b] s) (F0 m 1235 ls []) := by
  obtain ⟨hx, hb, hr, hml, hown, hts0, hX, hbl, hlocks, hgv⟩ := id C0
  have hbA : ¬ (fun q : Nat => s.heap.size ≤ q) b := Nat.not_le.mpr hbl
  have hts : ∀ w ∈ gtb, w.before #[Value.ref b] s = true := fun w hw => hts0 w (List.mem_filter.mp hw).1
  have hown : s.vm.findClass RL = some m.cls := hown
  unfold f_law_32 at h
  refine lv_aload_n hx hb dL_law_1235 rfl (lv_at hl 1 rfl) ?_
  refine lv_aload_n hx hb dL_law_1236 rfl (lv_at hl 0 rfl) ?_
  refine lv_iload_n hx hb dL_law_1237 rfl (lv_at hl 3 rfl) ?_
  refine lv_iconst (v := 1) hx hb dL_law_1238 (by decide) ?_
  refine lv_iadd hx hb dL_law_1239 ?_
  obtain ⟨hin_, h⟩ := ck_e h
  refine va_sld hx hb hX hbl hbA hI.S hin_ dL_law_1240 ?_
  obtain ⟨q_1241, hq_1241, h⟩ := ob_e h
  refine r_callV (As := [.int (xs (v3 + 1).toNatClampNeg)]) (rest := []) (cells' := 174 + 6 * k) (slots' := 257216 + 262 * k) hx hb hml hts hown (c_X11_doubt l s.heap D y F n κ σ hN (xs (v3 + 1).toNatClampNeg) (σ 22) rfl q_1241 hq_1241) cal_X11_doubt im_X11_doubt se_X11_doubt lm_L_153 ⟨Nat.le_of_ble_eq_true rfl, Nat.le_of_ble_eq_true rfl⟩ hI.nil hKK (r_recv hKK hI (hE11 s.heap.size y) rfl (lc0 hN) (kc0 hI.1.2.2.2.2)) rfl hl.1 hI.2.2 rfl (Nat.le_of_ble_eq_true rfl) dL_law_1241 ⟨by show 174 + 6 * k + 0 ≤ 600000; omega, by show 257216 + 262 * k + 0 ≤ 7302250; omega⟩ rfl rfl rfl (fun H locs hB hlo => ?_)
  have hI := hB.re hlo
  refine lv_aload_n hx hb dL_law_1244 rfl (lv_at hl 2 rfl) ?_
  refine lv_aload_n hx hb dL_law_1245 rfl (lv_at hl 0 rfl) ?_
  refine lv_iload_n hx hb dL_law_1246 rfl (lv_at hl 3 rfl) ?_
  refine lv_iconst (v := 1) hx hb dL_law_1247 (by decide) ?_
  refine lv_iadd hx hb dL_law_1248 ?_
  obtain ⟨hin_, h⟩ := ck_e h
  refine va_sld hx hb hX hbl hbA hI.S hin_ dL_law_1249 ?_
  obtain ⟨q_1250, hq_1250, h⟩ := ob_e h
  refine r_callV (As := [.int (xs (v3 + 1).toNatClampNeg)]) (rest := [.int q_1241]) (cells' := 174 + 6 * k) (slots' := 257216 + 262 * k) hx hb hml hts hown (c_X12_doubt l s.heap D y F n κ σ hN (xs (v3 + 1).toNatClampNeg) (σ 44) rfl q_1250 hq_1250) cal_X12_doubt im_X12_doubt se_X12_doubt lm_L_156 ⟨Nat.le_of_ble_eq_true rfl, Nat.le_of_ble_eq_true rfl⟩ hI.nil hKK (r_recv hKK hI (hE12 s.heap.size y) rfl (lc91 hN) (kc91 hI.1.2.2.2.2)) rfl hl.1 hI.2.2 rfl (Nat.le_of_ble_eq_true rfl) dL_law_1250 ⟨by show 174 + 6 * k + 0 ≤ 600000; omega, by show 257216 + 262 * k + 0 ≤ 7302250; omega⟩ rfl rfl rfl (fun H locs hB hlo => ?_)
  obtain ⟨σ, hB, en44, ho⟩ := hB
  obtain ⟨σ_1250, qs, h⟩ := bn_e h
  have es : σ = σ_1250 := (sgs_eq (l := [(44, q_1250.2)]) (by intro z hz; rw [List.mem_singleton.mp hz]; exact en44) ho).trans qs.symm
  rw [es] at hB
  have hI := hB.re hlo
  refine lv_icmp_eq (tgt := 1314) hx hb dL_law_1253 (by decide) (fun hc => ?_) (fun hc => ?_)
  · replace h := ite_t hc h
    obtain ⟨v3n, qq, h⟩ := bn_e h
    refine lv_iinc (v := v3n) (lv' := [(3, .int v3n), (0, .ref b), (1, .ref (s.heap.size + 0)), (2, .ref (s.heap.size + 91))]) hx hb dL_law_1314 hl (k := 3) rfl (by rw [qq]; rfl) (by decide) rfl (fun ls hl => ?_)
    refine lv_goto (tgt := 18) hx hb dL_law_1317 (by decide) ?_
    refine W.widen (k := 174 + 6 * (k + 1)) (n := 257216 + 262 * (k + 1)) (by omega) (by omega) ?_
    exact hk18 (k + 1) n κ σ_1250 v3n H locs ls (lawv hv qq) (by omega) hN hI (lv_sub hl [1, 2, 3, 0] rfl) h
  · replace h := ite_f hc h
    refine lv_iconst (v := 0) hx hb dL_law_1256 (by decide) ?_
    exact absurd (Option.some.inj h) (by decide)
set_option maxRecDepth 100000 in
set_option maxHeartbeats 4000000 in
theorem law_33 {p : Program} {e : Env} {s : State} {m : MethodId} {below : List Frame} {meth : Method} {c : Code} (l : Launch) {b L : Nat} {xs : Nat → Int32} (hL : L ≤ 4096) (C0 : lw_At p s m meth c b L xs) (D : va_G) (y : Nat → ClassId) (hKK : KK s.heap D y s) (F : Nat) (k18 : Nat → St → Int32 → Option Int32) (hk18 : ∀ (k n : Nat) (κ : Nat → Nat) (σ : St) (v3 : Int32) (H : Heap) (locs : List Loc) (ls : Array Slot), v3 = nI (8 * k) → 8 * k ≤ 4096 → N0 ≤ n → IV s.heap D y n n κ σ locs H → lv_has ls 4 [(0, .ref b), (1, .ref (s.heap.size + 0)), (2, .ref (s.heap.size + 91)), (3, .int v3)] → k18 n σ v3 = some 1 → W p l e room_1 s m #[Value.ref b] below meth c H locs (174 + 6 * k) (257216 + 262 * k) (lw_Z below #[Value.ref b] s) (F0 m 18 ls [])) (k n : Nat) (κ : Nat → Nat) (σ : St) (v3 : Int32) (H : Heap) (locs : List Loc) (ls : Array Slot) (hv : v3 = nI (8 * k)) (hk8 : 8 * k + 8 ≤ 4096) (hN : N0 ≤ n) (hI : IV s.heap D y n n κ σ locs H) (hl : lv_has ls 4 [(0, .ref b), (1, .ref (s.heap.size + 0)), (2, .ref (s.heap.size + 91)), (3, .int v3)]) (h : f_law_33 F xs L k18 n σ v3 = some 1) : W p l e room_1 s m #[Value.ref b] below meth c H locs (174 + 6 * k) (257216 + 262 * k) (lw_Z below #[Value.ref b] s) (F0 m 1258 ls []) := by
  obtain ⟨hx, hb, hr, hml, hown, hts0, hX, hbl, hlocks, hgv⟩ := id C0
  have hbA : ¬ (fun q : Nat => s.heap.size ≤ q) b := Nat.not_le.mpr hbl
  have hts : ∀ w ∈ gtb, w.before #[Value.ref b] s = true := fun w hw => hts0 w (List.mem_filter.mp hw).1
  have hown : s.vm.findClass RL = some m.cls := hown
  unfold f_law_33 at h
  refine lv_aload_n hx hb dL_law_1258 rfl (lv_at hl 1 rfl) ?_
  refine lv_aload_n hx hb dL_law_1259 rfl (lv_at hl 0 rfl) ?_
  refine lv_iload_n hx hb dL_law_1260 rfl (lv_at hl 3 rfl) ?_
  refine lv_iconst (v := 1) hx hb dL_law_1261 (by decide) ?_
  refine lv_iadd hx hb dL_law_1262 ?_
  obtain ⟨hin_, h⟩ := ck_e h
  refine va_sld hx hb hX hbl hbA hI.S hin_ dL_law_1263 ?_
  refine lv_aload_n hx hb dL_law_1264 rfl (lv_at hl 0 rfl) ?_
  refine lv_iload_n hx hb dL_law_1265 rfl (lv_at hl 3 rfl) ?_
  refine lv_iconst (v := 2) hx hb dL_law_1266 (by decide) ?_
  refine lv_iadd hx hb dL_law_1267 ?_
  obtain ⟨hin_, h⟩ := ck_e h
  refine va_sld hx hb hX hbl hbA hI.S hin_ dL_law_1268 ?_
  obtain ⟨q_1269, hq_1269, h⟩ := ob_e h
  refine r_callV (As := [.int (xs (v3 + 1).toNatClampNeg), .int (xs (v3 + 2).toNatClampNeg)]) (rest := []) (cells' := 174 + 6 * k) (slots' := 257216 + 262 * k) hx hb hml hts hown (c_X11_of l s.heap D y F n κ σ hN (xs (v3 + 1).toNatClampNeg) (xs (v3 + 2).toNatClampNeg) (σ 7) rfl (σ 9) rfl q_1269 hq_1269) cal_X11_of im_X11_of se_X11_of lm_L_157 ⟨Nat.le_of_ble_eq_true rfl, Nat.le_of_ble_eq_true rfl⟩ hI.nil hKK (r_recv hKK hI (hE11 s.heap.size y) rfl (lc0 hN) (kc0 hI.1.2.2.2.2)) rfl hl.1 hI.2.2 rfl (Nat.le_of_ble_eq_true rfl) dL_law_1269 ⟨by show 174 + 6 * k + 0 ≤ 600000; omega, by show 257216 + 262 * k + 0 ≤ 7302250; omega⟩ rfl rfl rfl (fun H locs hB hlo => ?_)
  have hI := hB.re hlo
  refine lv_aload_n hx hb dL_law_1272 rfl (lv_at hl 2 rfl) ?_
  refine lv_aload_n hx hb dL_law_1273 rfl (lv_at hl 0 rfl) ?_
  refine lv_iload_n hx hb dL_law_1274 rfl (lv_at hl 3 rfl) ?_
  refine lv_iconst (v := 1) hx hb dL_law_1275 (by decide) ?_
  refine lv_iadd hx hb dL_law_1276 ?_
  obtain ⟨hin_, h⟩ := ck_e h
  refine va_sld hx hb hX hbl hbA hI.S hin_ dL_law_1277 ?_
  refine lv_aload_n hx hb dL_law_1278 rfl (lv_at hl 0 rfl) ?_
  refine lv_iload_n hx hb dL_law_1279 rfl (lv_at hl 3 rfl) ?_
  refine lv_iconst (v := 2) hx hb dL_law_1280 (by decide) ?_
  refine lv_iadd hx hb dL_law_1281 ?_
  obtain ⟨hin_, h⟩ := ck_e h
  refine va_sld hx hb hX hbl hbA hI.S hin_ dL_law_1282 ?_
  obtain ⟨q_1283, hq_1283, h⟩ := ob_e h
  refine r_callV (As := [.int (xs (v3 + 1).toNatClampNeg), .int (xs (v3 + 2).toNatClampNeg)]) (rest := [.int q_1269]) (cells' := 174 + 6 * k) (slots' := 257216 + 262 * k) hx hb hml hts hown (c_X12_of l s.heap D y F n κ σ hN (xs (v3 + 1).toNatClampNeg) (xs (v3 + 2).toNatClampNeg) (σ 25) rfl (σ 32) rfl q_1283 hq_1283) cal_X12_of im_X12_of se_X12_of lm_L_160 ⟨Nat.le_of_ble_eq_true rfl, Nat.le_of_ble_eq_true rfl⟩ hI.nil hKK (r_recv hKK hI (hE12 s.heap.size y) rfl (lc91 hN) (kc91 hI.1.2.2.2.2)) rfl hl.1 hI.2.2 rfl (Nat.le_of_ble_eq_true rfl) dL_law_1283 ⟨by show 174 + 6 * k + 0 ≤ 600000; omega, by show 257216 + 262 * k + 0 ≤ 7302250; omega⟩ rfl rfl rfl (fun H locs hB hlo => ?_)
  have hI := hB.re hlo
  refine lv_icmp_eq (tgt := 1314) hx hb dL_law_1286 (by decide) (fun hc => ?_) (fun hc => ?_)
  · replace h := ite_t hc h
    obtain ⟨v3n, qq, h⟩ := bn_e h
    refine lv_iinc (v := v3n) (lv' := [(3, .int v3n), (0, .ref b), (1, .ref (s.heap.size + 0)), (2, .ref (s.heap.size + 91))]) hx hb dL_law_1314 hl (k := 3) rfl (by rw [qq]; rfl) (by decide) rfl (fun ls hl => ?_)
    refine lv_goto (tgt := 18) hx hb dL_law_1317 (by decide) ?_
    refine W.widen (k := 174 + 6 * (k + 1)) (n := 257216 + 262 * (k + 1)) (by omega) (by omega) ?_
    exact hk18 (k + 1) n κ σ v3n H locs ls (lawv hv qq) (by omega) hN hI (lv_sub hl [1, 2, 3, 0] rfl) h
  · replace h := ite_f hc h
    refine lv_iconst (v := 0) hx hb dL_law_1289 (by decide) ?_
    exact absurd (Option.some.inj h) (by decide)
set_option maxRecDepth 100000 in
set_option maxHeartbeats 4000000 in
theorem law_34 {p : Program} {e : Env} {s : State} {m : MethodId} {below : List Frame} {meth : Method} {c : Code} (l : Launch) {b L : Nat} {xs : Nat → Int32} (hL : L ≤ 4096) (C0 : lw_At p s m meth c b L xs) (D : va_G) (y : Nat → ClassId) (hKK : KK s.heap D y s) (F : Nat) (k18 : Nat → St → Int32 → Option Int32) (hk18 : ∀ (k n : Nat) (κ : Nat → Nat) (σ : St) (v3 : Int32) (H : Heap) (locs : List Loc) (ls : Array Slot), v3 = nI (8 * k) → 8 * k ≤ 4096 → N0 ≤ n → IV s.heap D y n n κ σ locs H → lv_has ls 4 [(0, .ref b), (1, .ref (s.heap.size + 0)), (2, .ref (s.heap.size + 91)), (3, .int v3)] → k18 n σ v3 = some 1 → W p l e room_1 s m #[Value.ref b] below meth c H locs (174 + 6 * k) (257216 + 262 * k) (lw_Z below #[Value.ref b] s) (F0 m 18 ls [])) (k n : Nat) (κ : Nat → Nat) (σ : St) (v3 : Int32) (H : Heap) (locs : List Loc) (ls : Array Slot) (hv : v3 = nI (8 * k)) (hk8 : 8 * k + 8 ≤ 4096) (hN : N0 ≤ n) (hI : IV s.heap D y n n κ σ locs H) (hl : lv_has ls 4 [(0, .ref b), (1, .ref (s.heap.size + 0)), (2, .ref (s.heap.size + 91)), (3, .int v3)]) (h : f_law_34 F xs L k18 n σ v3 = some 1) : W p l e room_1 s m #[Value.ref b] below meth c H locs (174 + 6 * k) (257216 + 262 * k) (lw_Z below #[Value.ref b] s) (F0 m 1291 ls []) := by
  obtain ⟨hx, hb, hr, hml, hown, hts0, hX, hbl, hlocks, hgv⟩ := id C0
  have hbA : ¬ (fun q : Nat => s.heap.size ≤ q) b := Nat.not_le.mpr hbl
  have hts : ∀ w ∈ gtb, w.before #[Value.ref b] s = true := fun w hw => hts0 w (List.mem_filter.mp hw).1
  have hown : s.vm.findClass RL = some m.cls := hown
  unfold f_law_34 at h
  refine lv_aload_n hx hb dL_law_1291 rfl (lv_at hl 1 rfl) ?_
  refine lv_aload_n hx hb dL_law_1292 rfl (lv_at hl 0 rfl) ?_
  refine lv_iload_n hx hb dL_law_1293 rfl (lv_at hl 3 rfl) ?_
  refine lv_iconst (v := 1) hx hb dL_law_1294 (by decide) ?_
  refine lv_iadd hx hb dL_law_1295 ?_
  obtain ⟨hin_, h⟩ := ck_e h
  refine va_sld hx hb hX hbl hbA hI.S hin_ dL_law_1296 ?_
  obtain ⟨q_1297, hq_1297, h⟩ := ob_e h
  refine r_callV (As := [.int (xs (v3 + 1).toNatClampNeg)]) (rest := []) (cells' := 174 + 6 * k) (slots' := 257216 + 262 * k) hx hb hml hts hown (c_X11_count l s.heap D y F n κ σ hN (xs (v3 + 1).toNatClampNeg) (σ 1) rfl (σ 2) rfl (σ 4) rfl (σ 6) rfl (σ 7) rfl (σ 8) rfl (σ 9) rfl (σ 10) rfl (σ 11) rfl (σ 13) rfl (σ 16) rfl (σ 19) rfl (σ 20) rfl q_1297 hq_1297) cal_X11_count im_X11_count se_X11_count lm_L_161 ⟨Nat.le_of_ble_eq_true rfl, Nat.le_of_ble_eq_true rfl⟩ hI.nil hKK (r_recv hKK hI (hE11 s.heap.size y) rfl (lc0 hN) (kc0 hI.1.2.2.2.2)) rfl hl.1 hI.2.2 rfl (Nat.le_of_ble_eq_true rfl) dL_law_1297 ⟨by show 174 + 6 * k + 0 ≤ 600000; omega, by show 257216 + 262 * k + 0 ≤ 7302250; omega⟩ rfl rfl rfl (fun H locs hB hlo => ?_)
  have hI := hB.re hlo
  refine lv_aload_n hx hb dL_law_1300 rfl (lv_at hl 2 rfl) ?_
  refine lv_aload_n hx hb dL_law_1301 rfl (lv_at hl 0 rfl) ?_
  refine lv_iload_n hx hb dL_law_1302 rfl (lv_at hl 3 rfl) ?_
  refine lv_iconst (v := 1) hx hb dL_law_1303 (by decide) ?_
  refine lv_iadd hx hb dL_law_1304 ?_
  obtain ⟨hin_, h⟩ := ck_e h
  refine va_sld hx hb hX hbl hbA hI.S hin_ dL_law_1305 ?_
  obtain ⟨q_1306, hq_1306, h⟩ := ob_e h
  refine r_callV (As := [.int (xs (v3 + 1).toNatClampNeg)]) (rest := [.int q_1297]) (cells' := 174 + 6 * k) (slots' := 257216 + 262 * k) hx hb hml hts hown (c_X12_count l s.heap D y F n κ σ hN (xs (v3 + 1).toNatClampNeg) (σ 23) rfl (σ 24) rfl (σ 25) rfl (σ 26) rfl (σ 27) rfl (σ 29) rfl (σ 32) rfl (σ 35) rfl (σ 37) rfl (σ 40) rfl (σ 41) rfl (σ 42) rfl q_1306 hq_1306) cal_X12_count im_X12_count se_X12_count lm_L_164 ⟨Nat.le_of_ble_eq_true rfl, Nat.le_of_ble_eq_true rfl⟩ hI.nil hKK (r_recv hKK hI (hE12 s.heap.size y) rfl (lc91 hN) (kc91 hI.1.2.2.2.2)) rfl hl.1 hI.2.2 rfl (Nat.le_of_ble_eq_true rfl) dL_law_1306 ⟨by show 174 + 6 * k + 0 ≤ 600000; omega, by show 257216 + 262 * k + 0 ≤ 7302250; omega⟩ rfl rfl rfl (fun H locs hB hlo => ?_)
  have hI := hB.re hlo
  refine lv_icmp_eq (tgt := 1314) hx hb dL_law_1309 (by decide) (fun hc => ?_) (fun hc => ?_)
  · replace h := ite_t hc h
    obtain ⟨v3n, qq, h⟩ := bn_e h
    refine lv_iinc (v := v3n) (lv' := [(3, .int v3n), (0, .ref b), (1, .ref (s.heap.size + 0)), (2, .ref (s.heap.size + 91))]) hx hb dL_law_1314 hl (k := 3) rfl (by rw [qq]; rfl) (by decide) rfl (fun ls hl => ?_)
    refine lv_goto (tgt := 18) hx hb dL_law_1317 (by decide) ?_
    refine W.widen (k := 174 + 6 * (k + 1)) (n := 257216 + 262 * (k + 1)) (by omega) (by omega) ?_
    exact hk18 (k + 1) n κ σ v3n H locs ls (lawv hv qq) (by omega) hN hI (lv_sub hl [1, 2, 3, 0] rfl) h
  · replace h := ite_f hc h
    refine lv_iconst (v := 0) hx hb dL_law_1312 (by decide) ?_
    exact absurd (Option.some.inj h) (by decide)
set_option maxRecDepth 100000 in
set_option maxHeartbeats 4000000 in
theorem law_loop {p : Program} {e : Env} {s : State} {m : MethodId} {below : List Frame} {meth : Method} {c : Code} (l : Launch) {b L : Nat} {xs : Nat → Int32} (hL : L ≤ 4096) (C0 : lw_At p s m meth c b L xs) (D : va_G) (y : Nat → ClassId) (hKK : KK s.heap D y s) (F : Nat) : ∀ (fu k n : Nat) (κ : Nat → Nat) (σ : St) (v3 : Int32) (H : Heap) (locs : List Loc) (ls : Array Slot), v3 = nI (8 * k) → 8 * k ≤ 4096 → N0 ≤ n → IV s.heap D y n n κ σ locs H → lv_has ls 4 [(0, .ref b), (1, .ref (s.heap.size + 0)), (2, .ref (s.heap.size + 91)), (3, .int v3)] → f_law F xs L fu n σ v3 = some 1 → W p l e room_1 s m #[Value.ref b] below meth c H locs (174 + 6 * k) (257216 + 262 * k) (lw_Z below #[Value.ref b] s) (F0 m 18 ls []) := by
  obtain ⟨hx, hb, hr, hml, hown, hts0, hX, hbl, hlocks, hgv⟩ := id C0
  have hbA : ¬ (fun q : Nat => s.heap.size ≤ q) b := Nat.not_le.mpr hbl
  have hts : ∀ w ∈ gtb, w.before #[Value.ref b] s = true := fun w hw => hts0 w (List.mem_filter.mp hw).1
  have hown : s.vm.findClass RL = some m.cls := hown
  intro fu
  induction fu with
  | zero => intro k n κ σ v3 H locs ls hv hk8 hN hI hl h; exact absurd h (by intro h; cases h)
  | succ fu hk18 =>
    intro k n κ σ v3 H locs ls hv hk8 hN hI hl h
    have h : f_law_b F xs L (f_law F xs L fu) n σ v3 = some 1 := h
    generalize f_law F xs L fu = k18 at h hk18
    unfold f_law_b at h
    refine lv_iload_n hx hb dL_law_18 rfl (lv_at hl 3 rfl) ?_
    refine lv_aload_n hx hb dL_law_19 rfl (lv_at hl 0 rfl) ?_
    refine va_slen hx hb hX hbl hbA hI.S dL_law_20 ?_
    refine lv_bipush (v := 8) hx hb dL_law_21 (by decide) ?_
    refine lv_isub hx hb dL_law_23 ?_
    refine lv_icmp_gt (tgt := 1320) hx hb dL_law_24 (by decide) (fun hc => ?_) (fun hc => ?_)
    · refine lv_iconst (v := 1) hx hb dL_law_1320 (by decide) ?_
      refine va_forget hI.2.2 ?_
      refine W.widen (k := 600000) (n := 7302250) (by omega) (by omega) ?_
      exact lw_ret hx hb hr hlocks dL_law_1321
    · replace h := ite_f hc h
      have hk9 := lawc hL hv hk8 hc
      refine lv_aload_n hx hb dL_law_27 rfl (lv_at hl 0 rfl) ?_
      refine lv_iload_n hx hb dL_law_28 rfl (lv_at hl 3 rfl) ?_
      obtain ⟨hin_, h⟩ := ck_e h
      refine va_sld hx hb hX hbl hbA hI.S hin_ dL_law_29 ?_
      refine lv_bipush (v := 63) hx hb dL_law_30 (by decide) ?_
      refine lv_iand hx hb dL_law_32 ?_
      by_cases hc0 : ((xs v3.toNatClampNeg) &&& 63) = 0
      · replace h := ite_t hc0 h
        refine lv_tableIn (off := 155) (tgt := 188) hx hb dL_law_33 (by rw [hc0]; decide) (by rw [hc0]; decide) (by rw [hc0]; decide) (by decide) ?_
        exact law_0 l hL C0 D y hKK F k18 hk18 k n κ σ v3 H locs ls hv (by omega) hN hI hl h
      · replace h := ite_f hc0 h
        by_cases hc1 : ((xs v3.toNatClampNeg) &&& 63) = 1
        · replace h := ite_t hc1 h
          refine lv_tableIn (off := 188) (tgt := 221) hx hb dL_law_33 (by rw [hc1]; decide) (by rw [hc1]; decide) (by rw [hc1]; decide) (by decide) ?_
          exact law_1 l hL C0 D y hKK F k18 hk18 k n κ σ v3 H locs ls hv (by omega) hN hI hl h
        · replace h := ite_f hc1 h
          by_cases hc2 : ((xs v3.toNatClampNeg) &&& 63) = 2
          · replace h := ite_t hc2 h
            refine lv_tableIn (off := 211) (tgt := 244) hx hb dL_law_33 (by rw [hc2]; decide) (by rw [hc2]; decide) (by rw [hc2]; decide) (by decide) ?_
            exact law_2 l hL C0 D y hKK F k18 hk18 k n κ σ v3 H locs ls hv (by omega) hN hI hl h
          · replace h := ite_f hc2 h
            by_cases hc3 : ((xs v3.toNatClampNeg) &&& 63) = 3
            · replace h := ite_t hc3 h
              refine lv_tableIn (off := 264) (tgt := 297) hx hb dL_law_33 (by rw [hc3]; decide) (by rw [hc3]; decide) (by rw [hc3]; decide) (by decide) ?_
              exact law_3 l hL C0 D y hKK F k18 hk18 k n κ σ v3 H locs ls hv (by omega) hN hI hl h
            · replace h := ite_f hc3 h
              by_cases hc4 : ((xs v3.toNatClampNeg) &&& 63) = 4
              · replace h := ite_t hc4 h
                refine lv_tableIn (off := 297) (tgt := 330) hx hb dL_law_33 (by rw [hc4]; decide) (by rw [hc4]; decide) (by rw [hc4]; decide) (by decide) ?_
                exact law_4 l hL C0 D y hKK F k18 hk18 k n κ σ v3 H locs ls hv (by omega) hN hI hl h
              · replace h := ite_f hc4 h
                by_cases hc5 : ((xs v3.toNatClampNeg) &&& 63) = 5
                · replace h := ite_t hc5 h
                  refine lv_tableIn (off := 320) (tgt := 353) hx hb dL_law_33 (by rw [hc5]; decide) (by rw [hc5]; decide) (by rw [hc5]; decide) (by decide) ?_
                  exact law_5 l hL C0 D y hKK F k18 hk18 k n κ σ v3 H locs ls hv (by omega) hN hI hl h
                · replace h := ite_f hc5 h
                  by_cases hc6 : ((xs v3.toNatClampNeg) &&& 63) = 6
                  · replace h := ite_t hc6 h
                    refine lv_tableIn (off := 353) (tgt := 386) hx hb dL_law_33 (by rw [hc6]; decide) (by rw [hc6]; decide) (by rw [hc6]; decide) (by decide) ?_
                    exact law_6 l hL C0 D y hKK F k18 hk18 k n κ σ v3 H locs ls hv (by omega) hN hI hl h
                  · replace h := ite_f hc6 h
                    by_cases hc7 : ((xs v3.toNatClampNeg) &&& 63) = 7
                    · replace h := ite_t hc7 h
                      refine lv_tableIn (off := 416) (tgt := 449) hx hb dL_law_33 (by rw [hc7]; decide) (by rw [hc7]; decide) (by rw [hc7]; decide) (by decide) ?_
                      exact law_7 l hL C0 D y hKK F k18 hk18 k n κ σ v3 H locs ls hv (by omega) hN hI hl h
                    · replace h := ite_f hc7 h
                      by_cases hc8 : ((xs v3.toNatClampNeg) &&& 63) = 8
                      · replace h := ite_t hc8 h
                        refine lv_tableIn (off := 439) (tgt := 472) hx hb dL_law_33 (by rw [hc8]; decide) (by rw [hc8]; decide) (by rw [hc8]; decide) (by decide) ?_
                        exact law_8 l hL C0 D y hKK F k18 hk18 k n κ σ v3 H locs ls hv (by omega) hN hI hl h
                      · replace h := ite_f hc8 h
                        by_cases hc9 : ((xs v3.toNatClampNeg) &&& 63) = 9
                        · replace h := ite_t hc9 h
                          refine lv_tableIn (off := 462) (tgt := 495) hx hb dL_law_33 (by rw [hc9]; decide) (by rw [hc9]; decide) (by rw [hc9]; decide) (by decide) ?_
                          exact law_9 l hL C0 D y hKK F k18 hk18 k n κ σ v3 H locs ls hv (by omega) hN hI hl h
                        · replace h := ite_f hc9 h
                          by_cases hc10 : ((xs v3.toNatClampNeg) &&& 63) = 10
                          · replace h := ite_t hc10 h
                            refine lv_tableIn (off := 495) (tgt := 528) hx hb dL_law_33 (by rw [hc10]; decide) (by rw [hc10]; decide) (by rw [hc10]; decide) (by decide) ?_
                            exact law_10 l hL C0 D y hKK F k18 hk18 k n κ σ v3 H locs ls hv (by omega) hN hI hl h
                          · replace h := ite_f hc10 h
                            by_cases hc11 : ((xs v3.toNatClampNeg) &&& 63) = 11
                            · replace h := ite_t hc11 h
                              refine lv_tableIn (off := 582) (tgt := 615) hx hb dL_law_33 (by rw [hc11]; decide) (by rw [hc11]; decide) (by rw [hc11]; decide) (by decide) ?_
                              exact law_11 l hL C0 D y hKK F k18 hk18 k n κ σ v3 H locs ls hv (by omega) hN hI hl h
                            · replace h := ite_f hc11 h
                              by_cases hc12 : ((xs v3.toNatClampNeg) &&& 63) = 12
                              · replace h := ite_t hc12 h
                                refine lv_tableIn (off := 635) (tgt := 668) hx hb dL_law_33 (by rw [hc12]; decide) (by rw [hc12]; decide) (by rw [hc12]; decide) (by decide) ?_
                                exact law_12 l hL C0 D y hKK F k18 hk18 k n κ σ v3 H locs ls hv (by omega) hN hI hl h
                              · replace h := ite_f hc12 h
                                by_cases hc13 : ((xs v3.toNatClampNeg) &&& 63) = 13
                                · replace h := ite_t hc13 h
                                  refine lv_tableIn (off := 648) (tgt := 681) hx hb dL_law_33 (by rw [hc13]; decide) (by rw [hc13]; decide) (by rw [hc13]; decide) (by decide) ?_
                                  exact law_13 l hL C0 D y hKK F k18 hk18 k n κ σ v3 H locs ls hv (by omega) hN hI hl h
                                · replace h := ite_f hc13 h
                                  by_cases hc14 : ((xs v3.toNatClampNeg) &&& 63) = 14
                                  · replace h := ite_t hc14 h
                                    refine lv_tableIn (off := 697) (tgt := 730) hx hb dL_law_33 (by rw [hc14]; decide) (by rw [hc14]; decide) (by rw [hc14]; decide) (by decide) ?_
                                    exact law_14 l hL C0 D y hKK F k18 hk18 k n κ σ v3 H locs ls hv (by omega) hN hI hl h
                                  · replace h := ite_f hc14 h
                                    by_cases hc15 : ((xs v3.toNatClampNeg) &&& 63) = 15
                                    · replace h := ite_t hc15 h
                                      refine lv_tableIn (off := 720) (tgt := 753) hx hb dL_law_33 (by rw [hc15]; decide) (by rw [hc15]; decide) (by rw [hc15]; decide) (by decide) ?_
                                      exact law_15 l hL C0 D y hKK F k18 hk18 k n κ σ v3 H locs ls hv (by omega) hN hI hl h
                                    · replace h := ite_f hc15 h
                                      by_cases hc16 : ((xs v3.toNatClampNeg) &&& 63) = 16
                                      · replace h := ite_t hc16 h
                                        refine lv_tableIn (off := 753) (tgt := 786) hx hb dL_law_33 (by rw [hc16]; decide) (by rw [hc16]; decide) (by rw [hc16]; decide) (by decide) ?_
                                        exact law_16 l hL C0 D y hKK F k18 hk18 k n κ σ v3 H locs ls hv (by omega) hN hI hl h
                                      · replace h := ite_f hc16 h
                                        by_cases hc17 : ((xs v3.toNatClampNeg) &&& 63) = 17
                                        · replace h := ite_t hc17 h
                                          refine lv_tableIn (off := 776) (tgt := 809) hx hb dL_law_33 (by rw [hc17]; decide) (by rw [hc17]; decide) (by rw [hc17]; decide) (by decide) ?_
                                          exact law_17 l hL C0 D y hKK F k18 hk18 k n κ σ v3 H locs ls hv (by omega) hN hI hl h
                                        · replace h := ite_f hc17 h
                                          by_cases hc18 : ((xs v3.toNatClampNeg) &&& 63) = 18
                                          · replace h := ite_t hc18 h
                                            refine lv_tableIn (off := 799) (tgt := 832) hx hb dL_law_33 (by rw [hc18]; decide) (by rw [hc18]; decide) (by rw [hc18]; decide) (by decide) ?_
                                            exact law_18 l hL C0 D y hKK F k18 hk18 k n κ σ v3 H locs ls hv (by omega) hN hI hl h
                                          · replace h := ite_f hc18 h
                                            by_cases hc19 : ((xs v3.toNatClampNeg) &&& 63) = 19
                                            · replace h := ite_t hc19 h
                                              refine lv_tableIn (off := 822) (tgt := 855) hx hb dL_law_33 (by rw [hc19]; decide) (by rw [hc19]; decide) (by rw [hc19]; decide) (by decide) ?_
                                              exact law_19 l hL C0 D y hKK F k18 hk18 k n κ σ v3 H locs ls hv (by omega) hN hI hl h
                                            · replace h := ite_f hc19 h
                                              by_cases hc20 : ((xs v3.toNatClampNeg) &&& 63) = 20
                                              · replace h := ite_t hc20 h
                                                refine lv_tableIn (off := 855) (tgt := 888) hx hb dL_law_33 (by rw [hc20]; decide) (by rw [hc20]; decide) (by rw [hc20]; decide) (by decide) ?_
                                                exact law_20 l hL C0 D y hKK F k18 hk18 k n κ σ v3 H locs ls hv (by omega) hN hI hl h
                                              · replace h := ite_f hc20 h
                                                by_cases hc21 : ((xs v3.toNatClampNeg) &&& 63) = 21
                                                · replace h := ite_t hc21 h
                                                  refine lv_tableIn (off := 879) (tgt := 912) hx hb dL_law_33 (by rw [hc21]; decide) (by rw [hc21]; decide) (by rw [hc21]; decide) (by decide) ?_
                                                  exact law_21 l hL C0 D y hKK F k18 hk18 k n κ σ v3 H locs ls hv (by omega) hN hI hl h
                                                · replace h := ite_f hc21 h
                                                  by_cases hc22 : ((xs v3.toNatClampNeg) &&& 63) = 22
                                                  · replace h := ite_t hc22 h
                                                    refine lv_tableIn (off := 922) (tgt := 955) hx hb dL_law_33 (by rw [hc22]; decide) (by rw [hc22]; decide) (by rw [hc22]; decide) (by decide) ?_
                                                    exact law_22 l hL C0 D y hKK F k18 hk18 k n κ σ v3 H locs ls hv (by omega) hN hI hl h
                                                  · replace h := ite_f hc22 h
                                                    by_cases hc23 : ((xs v3.toNatClampNeg) &&& 63) = 23
                                                    · replace h := ite_t hc23 h
                                                      refine lv_tableIn (off := 945) (tgt := 978) hx hb dL_law_33 (by rw [hc23]; decide) (by rw [hc23]; decide) (by rw [hc23]; decide) (by decide) ?_
                                                      exact law_23 l hL C0 D y hKK F k18 hk18 k n κ σ v3 H locs ls hv (by omega) hN hI hl h
                                                    · replace h := ite_f hc23 h
                                                      by_cases hc24 : ((xs v3.toNatClampNeg) &&& 63) = 24
                                                      · replace h := ite_t hc24 h
                                                        refine lv_tableIn (off := 968) (tgt := 1001) hx hb dL_law_33 (by rw [hc24]; decide) (by rw [hc24]; decide) (by rw [hc24]; decide) (by decide) ?_
                                                        exact law_24 l hL C0 D y hKK F k18 hk18 k n κ σ v3 H locs ls hv (by omega) hN hI hl h
                                                      · replace h := ite_f hc24 h
                                                        by_cases hc25 : ((xs v3.toNatClampNeg) &&& 63) = 25
                                                        · replace h := ite_t hc25 h
                                                          refine lv_tableIn (off := 1001) (tgt := 1034) hx hb dL_law_33 (by rw [hc25]; decide) (by rw [hc25]; decide) (by rw [hc25]; decide) (by decide) ?_
                                                          exact law_25 l hL C0 D y hKK F k18 hk18 k n κ σ v3 H locs ls hv (by omega) hN hI hl h
                                                        · replace h := ite_f hc25 h
                                                          by_cases hc26 : ((xs v3.toNatClampNeg) &&& 63) = 26
                                                          · replace h := ite_t hc26 h
                                                            refine lv_tableIn (off := 1034) (tgt := 1067) hx hb dL_law_33 (by rw [hc26]; decide) (by rw [hc26]; decide) (by rw [hc26]; decide) (by decide) ?_
                                                            exact law_26 l hL C0 D y hKK F k18 hk18 k n κ σ v3 H locs ls hv (by omega) hN hI hl h
                                                          · replace h := ite_f hc26 h
                                                            by_cases hc27 : ((xs v3.toNatClampNeg) &&& 63) = 27
                                                            · replace h := ite_t hc27 h
                                                              refine lv_tableIn (off := 1057) (tgt := 1090) hx hb dL_law_33 (by rw [hc27]; decide) (by rw [hc27]; decide) (by rw [hc27]; decide) (by decide) ?_
                                                              exact law_27 l hL C0 D y hKK F k18 hk18 k n κ σ v3 H locs ls hv (by omega) hN hI hl h
                                                            · replace h := ite_f hc27 h
                                                              by_cases hc28 : ((xs v3.toNatClampNeg) &&& 63) = 28
                                                              · replace h := ite_t hc28 h
                                                                refine lv_tableIn (off := 1080) (tgt := 1113) hx hb dL_law_33 (by rw [hc28]; decide) (by rw [hc28]; decide) (by rw [hc28]; decide) (by decide) ?_
                                                                exact law_28 l hL C0 D y hKK F k18 hk18 k n κ σ v3 H locs ls hv (by omega) hN hI hl h
                                                              · replace h := ite_f hc28 h
                                                                by_cases hc29 : ((xs v3.toNatClampNeg) &&& 63) = 29
                                                                · replace h := ite_t hc29 h
                                                                  refine lv_tableIn (off := 1123) (tgt := 1156) hx hb dL_law_33 (by rw [hc29]; decide) (by rw [hc29]; decide) (by rw [hc29]; decide) (by decide) ?_
                                                                  exact law_29 l hL C0 D y hKK F k18 hk18 k n κ σ v3 H locs ls hv (by omega) hN hI hl h
                                                                · replace h := ite_f hc29 h
                                                                  by_cases hc30 : ((xs v3.toNatClampNeg) &&& 63) = 30
                                                                  · replace h := ite_t hc30 h
                                                                    refine lv_tableIn (off := 1136) (tgt := 1169) hx hb dL_law_33 (by rw [hc30]; decide) (by rw [hc30]; decide) (by rw [hc30]; decide) (by decide) ?_
                                                                    exact law_30 l hL C0 D y hKK F k18 hk18 k n κ σ v3 H locs ls hv (by omega) hN hI hl h
                                                                  · replace h := ite_f hc30 h
                                                                    by_cases hc31 : ((xs v3.toNatClampNeg) &&& 63) = 31
                                                                    · replace h := ite_t hc31 h
                                                                      refine lv_tableIn (off := 1169) (tgt := 1202) hx hb dL_law_33 (by rw [hc31]; decide) (by rw [hc31]; decide) (by rw [hc31]; decide) (by decide) ?_
                                                                      exact law_31 l hL C0 D y hKK F k18 hk18 k n κ σ v3 H locs ls hv (by omega) hN hI hl h
                                                                    · replace h := ite_f hc31 h
                                                                      by_cases hc32 : ((xs v3.toNatClampNeg) &&& 63) = 32
                                                                      · replace h := ite_t hc32 h
                                                                        refine lv_tableIn (off := 1202) (tgt := 1235) hx hb dL_law_33 (by rw [hc32]; decide) (by rw [hc32]; decide) (by rw [hc32]; decide) (by decide) ?_
                                                                        exact law_32 l hL C0 D y hKK F k18 hk18 k n κ σ v3 H locs ls hv (by omega) hN hI hl h
                                                                      · replace h := ite_f hc32 h
                                                                        by_cases hc33 : ((xs v3.toNatClampNeg) &&& 63) = 33
                                                                        · replace h := ite_t hc33 h
                                                                          refine lv_tableIn (off := 1225) (tgt := 1258) hx hb dL_law_33 (by rw [hc33]; decide) (by rw [hc33]; decide) (by rw [hc33]; decide) (by decide) ?_
                                                                          exact law_33 l hL C0 D y hKK F k18 hk18 k n κ σ v3 H locs ls hv (by omega) hN hI hl h
                                                                        · replace h := ite_f hc33 h
                                                                          by_cases hc34 : ((xs v3.toNatClampNeg) &&& 63) = 34
                                                                          · replace h := ite_t hc34 h
                                                                            refine lv_tableIn (off := 1258) (tgt := 1291) hx hb dL_law_33 (by rw [hc34]; decide) (by rw [hc34]; decide) (by rw [hc34]; decide) (by decide) ?_
                                                                            exact law_34 l hL C0 D y hKK F k18 hk18 k n κ σ v3 H locs ls hv (by omega) hN hI hl h
                                                                          · replace h := ite_f hc34 h
                                                                            refine lv_tableOut (tgt := 1314) hx hb dL_law_33 (swo (fun j h1 h2 => ?_)) (by decide) ?_
                                                                            · have hj : j = 0 ∨ j = 1 ∨ j = 2 ∨ j = 3 ∨ j = 4 ∨ j = 5 ∨ j = 6 ∨ j = 7 ∨ j = 8 ∨ j = 9 ∨ j = 10 ∨ j = 11 ∨ j = 12 ∨ j = 13 ∨ j = 14 ∨ j = 15 ∨ j = 16 ∨ j = 17 ∨ j = 18 ∨ j = 19 ∨ j = 20 ∨ j = 21 ∨ j = 22 ∨ j = 23 ∨ j = 24 ∨ j = 25 ∨ j = 26 ∨ j = 27 ∨ j = 28 ∨ j = 29 ∨ j = 30 ∨ j = 31 ∨ j = 32 ∨ j = 33 ∨ j = 34 := by omega
                                                                              rcases hj with rfl | rfl | rfl | rfl | rfl | rfl | rfl | rfl | rfl | rfl | rfl | rfl | rfl | rfl | rfl | rfl | rfl | rfl | rfl | rfl | rfl | rfl | rfl | rfl | rfl | rfl | rfl | rfl | rfl | rfl | rfl | rfl | rfl | rfl | rfl
                                                                              · exact lv_neT hc0 (by decide)
                                                                              · exact lv_neT hc1 (by decide)
                                                                              · exact lv_neT hc2 (by decide)
                                                                              · exact lv_neT hc3 (by decide)
                                                                              · exact lv_neT hc4 (by decide)
                                                                              · exact lv_neT hc5 (by decide)
                                                                              · exact lv_neT hc6 (by decide)
                                                                              · exact lv_neT hc7 (by decide)
                                                                              · exact lv_neT hc8 (by decide)
                                                                              · exact lv_neT hc9 (by decide)
                                                                              · exact lv_neT hc10 (by decide)
                                                                              · exact lv_neT hc11 (by decide)
                                                                              · exact lv_neT hc12 (by decide)
                                                                              · exact lv_neT hc13 (by decide)
                                                                              · exact lv_neT hc14 (by decide)
                                                                              · exact lv_neT hc15 (by decide)
                                                                              · exact lv_neT hc16 (by decide)
                                                                              · exact lv_neT hc17 (by decide)
                                                                              · exact lv_neT hc18 (by decide)
                                                                              · exact lv_neT hc19 (by decide)
                                                                              · exact lv_neT hc20 (by decide)
                                                                              · exact lv_neT hc21 (by decide)
                                                                              · exact lv_neT hc22 (by decide)
                                                                              · exact lv_neT hc23 (by decide)
                                                                              · exact lv_neT hc24 (by decide)
                                                                              · exact lv_neT hc25 (by decide)
                                                                              · exact lv_neT hc26 (by decide)
                                                                              · exact lv_neT hc27 (by decide)
                                                                              · exact lv_neT hc28 (by decide)
                                                                              · exact lv_neT hc29 (by decide)
                                                                              · exact lv_neT hc30 (by decide)
                                                                              · exact lv_neT hc31 (by decide)
                                                                              · exact lv_neT hc32 (by decide)
                                                                              · exact lv_neT hc33 (by decide)
                                                                              · exact lv_neT hc34 (by decide)
                                                                            · obtain ⟨v3n, qq, h⟩ := bn_e h
                                                                              refine lv_iinc (v := v3n) (lv' := [(3, .int v3n), (0, .ref b), (1, .ref (s.heap.size + 0)), (2, .ref (s.heap.size + 91))]) hx hb dL_law_1314 hl (k := 3) rfl (by rw [qq]; rfl) (by decide) rfl (fun ls hl => ?_)
                                                                              refine lv_goto (tgt := 18) hx hb dL_law_1317 (by decide) ?_
                                                                              refine W.widen (k := 174 + 6 * (k + 1)) (n := 257216 + 262 * (k + 1)) (by omega) (by omega) ?_
                                                                              exact hk18 (k + 1) n κ σ v3n H locs ls (lawv hv qq) (by omega) hN hI (lv_sub hl [1, 2, 3, 0] rfl) h
