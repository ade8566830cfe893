theorem qc_mk {v : Option Value} {B : Heap → Prop} {a : Array Value} {s t : State} {oc : Outcome} (h1 : oc = .returned v) (h2 : B t.heap) : QCg v B a s oc t := ⟨h1, h2⟩
theorem acq {b x y : Nat} (h : some (b + x) = some (b + y)) : x = y := Nat.add_left_cancel (Option.some.inj h)
theorem swo {x : Int32} {lo hi : Int} (h : ∀ j, lo ≤ j → j ≤ hi → ¬ x.toInt = j) : x.toInt < lo ∨ hi < x.toInt := by
  by_cases h1 : x.toInt < lo
  · exact Or.inl h1
  · by_cases h2 : hi < x.toInt
    · exact Or.inr h2
    · exact absurd rfl (h x.toInt (by omega) (by omega))
theorem rfv_or (b : Nat) (o : Option Nat) : rfv b o = .null ∨ ∃ a, rfv b o = .ref a := by
  cases o with
  | none => exact Or.inl rfl
  | some t => exact Or.inr ⟨_, rfl⟩
theorem TF.setT {n : Nat} {κ : Nat → Nat} {σ : St} {g a k kd K : Nat} {x : Option Nat} (h : TF n κ σ) (hg : g ≠ 0) (hk : κ a = kd) (h1 : ∀ q ∈ typL kd, q.1 = g → q.2.1 = k → q.2.2 = K) (h2 : ∀ q ∈ tarL kd, q.2 = K) (hx : ∀ t, x = some t → t < n ∧ κ t = K) : TF n κ (sg σ g (gR (σ g) a k x)) := by
  have h0 : (sg σ g (gR (σ g) a k x)) 0 = σ 0 := sg_ne _ _ (Ne.symm hg)
  refine ⟨fun hn q hq => by rw [h0]; exact h.1 hn q hq, fun b hb => ⟨fun q hq => by rw [h0]; exact (h.2 b hb).1 q hq, fun q hq t ht => ?_, fun q hq j t ht => ?_⟩⟩
  · by_cases e : q.1 = g
    · rw [e, sg_same] at ht
      simp only [gR] at ht
      split at ht
      · rename_i c
        have hkd : kd = κ b := by rw [← hk, c.1]
        subst hkd
        rw [h1 q hq e c.2]
        exact hx t ht
      · rw [← e] at ht
        exact (h.2 b hb).2.1 q hq t ht
    · rw [sg_ne _ _ e] at ht
      exact (h.2 b hb).2.1 q hq t ht
  · by_cases e : q.1 = g
    · rw [e, sg_same] at ht
      simp only [gR] at ht
      split at ht
      · rename_i c
        have hkd : kd = κ b := by rw [← hk, c.1]
        subst hkd
        rw [h2 q hq]
        exact hx t ht
      · rw [← e] at ht
        exact (h.2 b hb).2.2 q hq j t ht
    · rw [sg_ne _ _ e] at ht
      exact (h.2 b hb).2.2 q hq j t ht
section W06
variable {p : Program} {l : Launch} {e : Env} {R : Room} {s : State} {m : MethodId} {args : Array Value} {below : List Frame} {meth : Method} {c : Code} {H : Heap} {locs : List Loc} {cells slots : Nat} {Q : State → Prop}
variable {cc : ByteArray} {pc : Nat} {ls : Array Slot} {rest : List Value} {HB : Heap} {D : va_G} {y : Nat → ClassId} {n0 n : Nat} {κ : Nat → Nat} {σ : St} {a : Nat}
theorem r_alen13 (hx : p.tables.exec = Jvm.exec) (hb : c.code = cc) (hKK : KK HB D y s) (hI : IV HB D y n0 n κ σ locs H) {G : Grp} (hG : σ 3 = G) (ha : a < n) (hk : κ a = 13) (hdg : decode cc pc = .ok (.arraylength, 1))
    (kk : W p l e R s m args below meth c H locs cells slots Q (F0 m (pc + 1) ls (.int (nI ((G.2.2 a 0).getD 0)) :: rest))) : W p l e R s m args below meth c H locs cells slots Q (F0 m pc ls (.ref (HB.size + a) :: rest)) := by
  subst hG
  exact r_alen hx hb hKK hI (g := 3) (Lf := fun r => (r 3 0).getD 0) (fun _ _ _ => rfl) ha hk hdg kk
theorem r_sld (hx : p.tables.exec = Jvm.exec) (hb : c.code = cc) (hI : IV HB D y n0 n κ σ locs H) {t : Nat} {f : Nat → Int32} (hT : va_T .int t 8 (fun j => .int (f j)) (fun q => HB.size ≤ q) s HB) {i : Int32} (hin : vp_in i 8) (hdg : decode cc pc = .ok (.iaload, 1))
    (kk : W p l e R s m args below meth c H locs cells slots Q (F0 m (pc + 1) ls (.int (f i.toNatClampNeg) :: rest))) : W p l e R s m args below meth c H locs cells slots Q (F0 m pc ls (.int i :: .ref t :: rest)) := by
  obtain ⟨cell, h1, h2, h3, h4, h5, h6, h7⟩ := hT
  have ht : t < HB.size := Nat.not_le.mp h7
  have hlt : i.toNatClampNeg < 8 := Nat.not_le.mp fun q => hin (Or.inr q)
  refine W.iald (v := .int (f i.toNatClampNeg)) hx hb (by rw [hI.1.2.1 t ht]; exact h1) h2 h3 ?_ (h6 _ hlt) rfl rfl hdg kk
  intro q
  rcases q with q | q
  · exact hin (Or.inl q)
  · omega
theorem r_gets (hx : p.tables.exec = Jvm.exec) (hb : c.code = cc) (hts : ∀ w ∈ gtb, w.before args s = true) {own : String} (hown : s.vm.findClass own = some m.cls) {n1 n2 : Nat} {κ1 : Nat → Nat} {σ1 : St} (hI0 : IV HB D y n1 n2 κ1 σ1 [] s.heap) (hI : IV HB D y n0 n κ σ locs H) (hsz : s.heap.size ≤ H.size) {nm : String} {t idx : Nat} (hZ : va_Z "ChildLetters" nm "[I" (.ref t) (fun q => HB.size ≤ q) s HB) (hl : Cond.fieldLink own idx "ChildLetters" nm "[I" ∈ gtb) (hdg : decode cc pc = .ok (.getstatic idx, 3))
    (kk : W p l e R s m args below meth c H locs cells slots Q (F0 m (pc + 3) ls (.ref t :: rest))) : W p l e R s m args below meth c H locs cells slots Q (F0 m pc ls rest) := by
  have hZ2 : va_Z "ChildLetters" nm "[I" (.ref t) (fun q => HB.size ≤ q) s s.heap := hZ.kept fun a ha hA => hI0.1.2.1 a ha
  refine va_gets hx hb hZ2 (H := H) ⟨hsz, fun q h1 h2 => ?_, hI.2.2⟩ hown (hts _ hl) (fun x h => h) hdg kk
  have hq : q < HB.size := Nat.not_le.mp h2
  rw [hI.1.2.1 q hq, hI0.1.2.1 q hq]
end W06
