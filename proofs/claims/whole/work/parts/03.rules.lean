section RULES2
variable {p : Program} {l : Launch} {e : Env} {R : Room} {s : State} {m : MethodId} {args : Array Value} {below : List Frame} {meth : Method} {c : Code} {H : Heap} {locs : List Loc} {cells slots : Nat} {Q : State → Prop}
variable {cc : ByteArray} {pc : Nat} {ls : Array Slot} {rest : List Value} {HB : Heap} {D : va_G} {y : Nat → ClassId} {n0 n : Nat} {κ : Nat → Nat} {σ : St} {a kd : Nat}
theorem r_iald (hx : p.tables.exec = Jvm.exec) (hb : c.code = cc) (hKK : KK HB D y s) (hI : IV HB D y n0 n κ σ locs H) {g : Nat} {Lf : (Nat → Nat → Option Nat) → Nat} (hE : ∀ i j r, entS kd HB.size y i j r = .inl (y 0, Lf r, .inl (i g))) {G : Grp} (hG : σ g = G) (ha : a < n) (hk : κ a = kd) {x : Int32} (hin : vp_in x (Lf (slR σ a))) (hdg : decode cc pc = .ok (.iaload, 1))
    (kk : W p l e R s m args below meth c H locs cells slots Q (F0 m (pc + 1) ls (.int (G.1 a x.toNatClampNeg) :: rest))) : W p l e R s m args below meth c H locs cells slots Q (F0 m pc ls (.int x :: .ref (HB.size + a) :: rest)) := by
  subst hG
  have hat := hI.at ha hk
  rw [hE] at hat
  exact va_iald hx hb hKK.1 (w1 hat) 0 0 rfl rfl hin hdg kk
theorem r_cald (hx : p.tables.exec = Jvm.exec) (hb : c.code = cc) (hKK : KK HB D y s) (hI : IV HB D y n0 n κ σ locs H) {g : Nat} {Lf : (Nat → Nat → Option Nat) → Nat} (hE : ∀ i j r, entS kd HB.size y i j r = .inl (y 2, Lf r, .inl (i g))) {G : Grp} (hG : σ g = G) (ha : a < n) (hk : κ a = kd) {x : Int32} (hin : vp_in x (Lf (slR σ a))) (hdg : decode cc pc = .ok (.caload, 1))
    (kk : W p l e R s m args below meth c H locs cells slots Q (F0 m (pc + 1) ls (.int (G.1 a x.toNatClampNeg) :: rest))) : W p l e R s m args below meth c H locs cells slots Q (F0 m pc ls (.int x :: .ref (HB.size + a) :: rest)) := by
  subst hG
  have hat := hI.at ha hk
  rw [hE] at hat
  exact va_cald hx hb hKK.1 (w1 hat) 0 2 rfl rfl hin hdg kk
theorem r_bald (hx : p.tables.exec = Jvm.exec) (hb : c.code = cc) (hKK : KK HB D y s) (hI : IV HB D y n0 n κ σ locs H) {g : Nat} {Lf : (Nat → Nat → Option Nat) → Nat} (hE : ∀ i j r, entS kd HB.size y i j r = .inl (y 3, Lf r, .inl (i g))) {G : Grp} (hG : σ g = G) (ha : a < n) (hk : κ a = kd) {x : Int32} (hin : vp_in x (Lf (slR σ a))) (hdg : decode cc pc = .ok (.baload, 1))
    (kk : W p l e R s m args below meth c H locs cells slots Q (F0 m (pc + 1) ls (.int (G.1 a x.toNatClampNeg) :: rest))) : W p l e R s m args below meth c H locs cells slots Q (F0 m pc ls (.int x :: .ref (HB.size + a) :: rest)) := by
  subst hG
  have hat := hI.at ha hk
  rw [hE] at hat
  exact va_bald hx hb hKK.1 (w1 hat) 0 3 rfl rfl hin hdg kk
theorem r_zald (hx : p.tables.exec = Jvm.exec) (hb : c.code = cc) (hKK : KK HB D y s) (hI : IV HB D y n0 n κ σ locs H) {g : Nat} {Lf : (Nat → Nat → Option Nat) → Nat} (hE : ∀ i j r, entS kd HB.size y i j r = .inl (y 4, Lf r, .inl (i g))) {G : Grp} (hG : σ g = G) (ha : a < n) (hk : κ a = kd) {x : Int32} (hin : vp_in x (Lf (slR σ a))) (hdg : decode cc pc = .ok (.baload, 1))
    (kk : W p l e R s m args below meth c H locs cells slots Q (F0 m (pc + 1) ls (.int (G.1 a x.toNatClampNeg) :: rest))) : W p l e R s m args below meth c H locs cells slots Q (F0 m pc ls (.int x :: .ref (HB.size + a) :: rest)) := by
  subst hG
  have hat := hI.at ha hk
  rw [hE] at hat
  exact va_zald hx hb hKK.1 (w1 hat) 0 4 rfl rfl hin hdg kk
theorem r_lald (hx : p.tables.exec = Jvm.exec) (hb : c.code = cc) (hKK : KK HB D y s) (hI : IV HB D y n0 n κ σ locs H) {g : Nat} {Lf : (Nat → Nat → Option Nat) → Nat} (hE : ∀ i j r, entS kd HB.size y i j r = .inl (y 1, Lf r, .inr (.inl (j g)))) {G : Grp} (hG : σ g = G) (ha : a < n) (hk : κ a = kd) {x : Int32} (hin : vp_in x (Lf (slR σ a))) (hdg : decode cc pc = .ok (.laload, 1))
    (kk : W p l e R s m args below meth c H locs cells slots Q (F0 m (pc + 1) ls (.long (G.2.1 a x.toNatClampNeg) :: rest))) : W p l e R s m args below meth c H locs cells slots Q (F0 m pc ls (.int x :: .ref (HB.size + a) :: rest)) := by
  subst hG
  have hat := hI.at ha hk
  rw [hE] at hat
  exact va_lald hx hb hKK.1 (w1 hat) 0 1 rfl rfl hin hdg kk
theorem r_iast (hx : p.tables.exec = Jvm.exec) (hb : c.code = cc) (hKK : KK HB D y s) (hI : IV HB D y n0 n κ σ locs H) {g : Nat} {Lf : (Nat → Nat → Option Nat) → Nat} (hE : ∀ i j r, entS kd HB.size y i j r = .inl (y 0, Lf r, .inl (i g))) {G : Grp} (hG : σ g = G) (ha : a < n) (hk : κ a = kd) {i x : Int32} (hin : vp_in i (Lf (slR σ a))) (hdg : decode cc pc = .ok (.iastore, 1))
    (kk : ∀ (σ' : St) (H' : Heap) (locs' : List Loc), IV HB D y n0 n κ σ' locs' H' → σ' g = gI G a i.toNatClampNeg x → (∀ j, j ≠ g → σ' j = σ j) → W p l e R s m args below meth c H' locs' cells slots Q (F0 m (pc + 1) ls rest)) : W p l e R s m args below meth c H locs cells slots Q (F0 m pc ls (.int x :: .int i :: .ref (HB.size + a) :: rest)) := by
  subst hG
  have hat := hI.at ha hk
  rw [hE] at hat
  refine W.iast hx hb hat ((hKK.1.2 0 _ rfl).1 _ (fun j => .int (slI σ a g j))) (fun q => by cases q) (by show ¬ (i < 0 ∨ (arrV _ _ _).slots.size ≤ _); rw [arrV_size]; exact hin) rfl rfl hdg fun H1 e z oq => ?_
  refine kk (sg σ g (gI (σ g) a i.toNatClampNeg x)) H1 _ (hI.putI ha z oq ?_) (sg_same _ _ _) (fun j hj => sg_ne _ _ hj)
  rw [hk, hE]
  show H1[HB.size + a]? = some (vp_cell _ _)
  rw [e]
  show some ((vp_cell _ _).setSlot _ _) = _
  rw [vp_cell_i, vp_cell_i, arrV_store]
  congr 2
  funext q
  by_cases hq : q = i.toNatClampNeg
  · subst hq
    simp [updV, ups, vp_nar]
    try rfl
  · simp [updV, ups, hq]
theorem r_cast (hx : p.tables.exec = Jvm.exec) (hb : c.code = cc) (hKK : KK HB D y s) (hI : IV HB D y n0 n κ σ locs H) {g : Nat} {Lf : (Nat → Nat → Option Nat) → Nat} (hE : ∀ i j r, entS kd HB.size y i j r = .inl (y 2, Lf r, .inl (i g))) {G : Grp} (hG : σ g = G) (ha : a < n) (hk : κ a = kd) {i x : Int32} (hin : vp_in i (Lf (slR σ a))) (hdg : decode cc pc = .ok (.castore, 1))
    (kk : ∀ (σ' : St) (H' : Heap) (locs' : List Loc), IV HB D y n0 n κ σ' locs' H' → σ' g = gI G a i.toNatClampNeg (vp_nar .char x) → (∀ j, j ≠ g → σ' j = σ j) → W p l e R s m args below meth c H' locs' cells slots Q (F0 m (pc + 1) ls rest)) : W p l e R s m args below meth c H locs cells slots Q (F0 m pc ls (.int x :: .int i :: .ref (HB.size + a) :: rest)) := by
  subst hG
  have hat := hI.at ha hk
  rw [hE] at hat
  refine W.cast hx hb hat ((hKK.1.2 2 _ rfl).1 _ (fun j => .int (slI σ a g j))) (fun q => by cases q) (by show ¬ (i < 0 ∨ (arrV _ _ _).slots.size ≤ _); rw [arrV_size]; exact hin) rfl rfl hdg fun H1 e z oq => ?_
  refine kk (sg σ g (gI (σ g) a i.toNatClampNeg (vp_nar .char x))) H1 _ (hI.putI ha z oq ?_) (sg_same _ _ _) (fun j hj => sg_ne _ _ hj)
  rw [hk, hE]
  show H1[HB.size + a]? = some (vp_cell _ _)
  rw [e]
  show some ((vp_cell _ _).setSlot _ _) = _
  rw [vp_cell_i, vp_cell_i, arrV_store]
  congr 2
  funext q
  by_cases hq : q = i.toNatClampNeg
  · subst hq
    simp [updV, ups, vp_nar]
    try rfl
  · simp [updV, ups, hq]
theorem r_bast (hx : p.tables.exec = Jvm.exec) (hb : c.code = cc) (hKK : KK HB D y s) (hI : IV HB D y n0 n κ σ locs H) {g : Nat} {Lf : (Nat → Nat → Option Nat) → Nat} (hE : ∀ i j r, entS kd HB.size y i j r = .inl (y 3, Lf r, .inl (i g))) {G : Grp} (hG : σ g = G) (ha : a < n) (hk : κ a = kd) {i x : Int32} (hin : vp_in i (Lf (slR σ a))) (hdg : decode cc pc = .ok (.bastore, 1))
    (kk : ∀ (σ' : St) (H' : Heap) (locs' : List Loc), IV HB D y n0 n κ σ' locs' H' → σ' g = gI G a i.toNatClampNeg (vp_nar .byte x) → (∀ j, j ≠ g → σ' j = σ j) → W p l e R s m args below meth c H' locs' cells slots Q (F0 m (pc + 1) ls rest)) : W p l e R s m args below meth c H locs cells slots Q (F0 m pc ls (.int x :: .int i :: .ref (HB.size + a) :: rest)) := by
  subst hG
  have hat := hI.at ha hk
  rw [hE] at hat
  refine W.bast hx hb hat ((hKK.1.2 3 _ rfl).1 _ (fun j => .int (slI σ a g j))) (fun q => by cases q) (by show ¬ (i < 0 ∨ (arrV _ _ _).slots.size ≤ _); rw [arrV_size]; exact hin) rfl rfl hdg fun H1 e z oq => ?_
  refine kk (sg σ g (gI (σ g) a i.toNatClampNeg (vp_nar .byte x))) H1 _ (hI.putI ha z oq ?_) (sg_same _ _ _) (fun j hj => sg_ne _ _ hj)
  rw [hk, hE]
  show H1[HB.size + a]? = some (vp_cell _ _)
  rw [e]
  show some ((vp_cell _ _).setSlot _ _) = _
  rw [vp_cell_i, vp_cell_i, arrV_store]
  congr 2
  funext q
  by_cases hq : q = i.toNatClampNeg
  · subst hq
    simp [updV, ups, vp_nar]
    try rfl
  · simp [updV, ups, hq]
theorem r_zast (hx : p.tables.exec = Jvm.exec) (hb : c.code = cc) (hKK : KK HB D y s) (hI : IV HB D y n0 n κ σ locs H) {g : Nat} {Lf : (Nat → Nat → Option Nat) → Nat} (hE : ∀ i j r, entS kd HB.size y i j r = .inl (y 4, Lf r, .inl (i g))) {G : Grp} (hG : σ g = G) (ha : a < n) (hk : κ a = kd) {i x : Int32} (hin : vp_in i (Lf (slR σ a))) (hdg : decode cc pc = .ok (.bastore, 1))
    (kk : ∀ (σ' : St) (H' : Heap) (locs' : List Loc), IV HB D y n0 n κ σ' locs' H' → σ' g = gI G a i.toNatClampNeg (vp_nar .boolean x) → (∀ j, j ≠ g → σ' j = σ j) → W p l e R s m args below meth c H' locs' cells slots Q (F0 m (pc + 1) ls rest)) : W p l e R s m args below meth c H locs cells slots Q (F0 m pc ls (.int x :: .int i :: .ref (HB.size + a) :: rest)) := by
  subst hG
  have hat := hI.at ha hk
  rw [hE] at hat
  refine W.zast hx hb hat ((hKK.1.2 4 _ rfl).1 _ (fun j => .int (slI σ a g j))) (fun q => by cases q) (by show ¬ (i < 0 ∨ (arrV _ _ _).slots.size ≤ _); rw [arrV_size]; exact hin) rfl rfl hdg fun H1 e z oq => ?_
  refine kk (sg σ g (gI (σ g) a i.toNatClampNeg (vp_nar .boolean x))) H1 _ (hI.putI ha z oq ?_) (sg_same _ _ _) (fun j hj => sg_ne _ _ hj)
  rw [hk, hE]
  show H1[HB.size + a]? = some (vp_cell _ _)
  rw [e]
  show some ((vp_cell _ _).setSlot _ _) = _
  rw [vp_cell_i, vp_cell_i, arrV_store]
  congr 2
  funext q
  by_cases hq : q = i.toNatClampNeg
  · subst hq
    simp [updV, ups, vp_nar]
    try rfl
  · simp [updV, ups, hq]
theorem r_last (hx : p.tables.exec = Jvm.exec) (hb : c.code = cc) (hKK : KK HB D y s) (hI : IV HB D y n0 n κ σ locs H) {g : Nat} {Lf : (Nat → Nat → Option Nat) → Nat} (hE : ∀ i j r, entS kd HB.size y i j r = .inl (y 1, Lf r, .inr (.inl (j g)))) {G : Grp} (hG : σ g = G) (ha : a < n) (hk : κ a = kd) {i : Int32} {x : Int64} (hin : vp_in i (Lf (slR σ a))) (hdg : decode cc pc = .ok (.lastore, 1))
    (kk : ∀ (σ' : St) (H' : Heap) (locs' : List Loc), IV HB D y n0 n κ σ' locs' H' → σ' g = gJ G a i.toNatClampNeg x → (∀ j, j ≠ g → σ' j = σ j) → W p l e R s m args below meth c H' locs' cells slots Q (F0 m (pc + 1) ls rest)) : W p l e R s m args below meth c H locs cells slots Q (F0 m pc ls (.long x :: .int i :: .ref (HB.size + a) :: rest)) := by
  subst hG
  have hat := hI.at ha hk
  rw [hE] at hat
  refine W.last hx hb hat ((hKK.1.2 1 _ rfl).1 _ (fun j => .long (slJ σ a g j))) (fun q => by cases q) (by show ¬ (i < 0 ∨ (arrV _ _ _).slots.size ≤ _); rw [arrV_size]; exact hin) rfl rfl hdg fun H1 e z oq => ?_
  refine kk (sg σ g (gJ (σ g) a i.toNatClampNeg x)) H1 _ (hI.putJ ha z oq ?_) (sg_same _ _ _) (fun j hj => sg_ne _ _ hj)
  rw [hk, hE]
  show H1[HB.size + a]? = some (vp_cell _ _)
  rw [e]
  show some ((vp_cell _ _).setSlot _ _) = _
  rw [vp_cell_l, vp_cell_l, arrV_store]
  congr 2
  funext q
  by_cases hq : q = i.toNatClampNeg
  · subst hq
    simp [updV, ups]
    try rfl
  · simp [updV, ups, hq]
theorem r_alen (hx : p.tables.exec = Jvm.exec) (hb : c.code = cc) (hKK : KK HB D y s) (hI : IV HB D y n0 n κ σ locs H) {g : Nat} {Lf : (Nat → Nat → Option Nat) → Nat} (hE : ∀ i j r, entS kd HB.size y i j r = .inl (y 2, Lf r, .inl (i g))) (ha : a < n) (hk : κ a = kd) (hdg : decode cc pc = .ok (.arraylength, 1))
    (kk : W p l e R s m args below meth c H locs cells slots Q (F0 m (pc + 1) ls (.int (nI (Lf (slR σ a))) :: rest))) : W p l e R s m args below meth c H locs cells slots Q (F0 m pc ls (.ref (HB.size + a) :: rest)) := by
  have hat := hI.at ha hk
  rw [hE] at hat
  exact va_alen hx hb hKK.1 (w1 hat) 0 2 rfl rfl rfl hdg kk
theorem r_aald (hx : p.tables.exec = Jvm.exec) (hb : c.code = cc) (hKK : KK HB D y s) (hI : IV HB D y n0 n κ σ locs H) {g t0 L : Nat} {C : String} (ht : (tysL y)[t0]? = some (y t0, .object C)) (hE : ∀ i j r, entS kd HB.size y i j r = .inl (y t0, L, .inr (.inr (.inr (.inr (fun k => (r g k).map (fun x => HB.size + x))))))) {G : Grp} (hG : σ g = G) (ha : a < n) (hk : κ a = kd) {x : Int32} (hin : vp_in x L) (hdg : decode cc pc = .ok (.aaload, 1))
    (kk : W p l e R s m args below meth c H locs cells slots Q (F0 m (pc + 1) ls (rfv HB.size (G.2.2 a x.toNatClampNeg) :: rest))) : W p l e R s m args below meth c H locs cells slots Q (F0 m pc ls (.int x :: .ref (HB.size + a) :: rest)) := by
  subst hG
  have hat := hI.at ha hk
  rw [hE] at hat
  exact va_aldq hx hb hKK.1 (w1 hat) 0 t0 rfl ht hin hdg kk
theorem r_aast (hx : p.tables.exec = Jvm.exec) (hb : c.code = cc) (hKK : KK HB D y s) (hI : IV HB D y n0 n κ σ locs H) {g t0 L kv ci v : Nat} {C : String} {T : u_T} {N : Nat} (ht : (tysL y)[t0]? = some (y t0, .object C)) (hE : ∀ i j r, entS kd HB.size y i j r = .inl (y t0, L, .inr (.inr (.inr (.inr (fun k => (r g k).map (fun x => HB.size + x))))))) (hc : vwCl[ci]? = some (C, T, N)) {F : (Nat → Nat → Int32) → (Nat → Nat → Int64) → (Nat → Nat → Option Nat) → List Value} (hE2 : ∀ i j r, entS kv HB.size y i j r = .inr (ci, F i j r)) {G : Grp} (hG : σ g = G) (ha : a < n) (hk : κ a = kd) (hv : v < n) (hkv : κ v = kv) {i : Int32} (hin : vp_in i L) (hT : TF n0 κ σ → TF n0 κ (sg σ g (gR (σ g) a i.toNatClampNeg (some v)))) (hdg : decode cc pc = .ok (.aastore, 1))
    (kk : ∀ (σ' : St) (H' : Heap) (locs' : List Loc), IV HB D y n0 n κ σ' locs' H' → σ' g = gR G a i.toNatClampNeg (some v) → (∀ j, j ≠ g → σ' j = σ j) → W p l e R s m args below meth c H' locs' cells slots Q (F0 m (pc + 1) ls rest)) : W p l e R s m args below meth c H locs cells slots Q (F0 m pc ls (.ref (HB.size + v) :: .int i :: .ref (HB.size + a) :: rest)) := by
  subst hG
  have hat := hI.at ha hk
  rw [hE] at hat
  have hav := hI.at hv hkv
  rw [hE2] at hav
  have hlt : i.toNatClampNeg < L := Nat.not_le.mp fun q => hin (Or.inr q)
  have h0 : ¬ i < 0 := fun q => hin (Or.inl q)
  obtain ⟨r', hr', cellV, g1, g2, g3, -⟩ := hav
  have hcls := (hKK.1.1 ci _ hc).2
  obtain ⟨kA, comp, k1, k2, k3, -⟩ := (hKK.1.2 t0 _ ht).2
  have hcomp : comp = D.1 ci := Option.some.inj (k3.symm.trans hcls.1)
  subst hcomp
  obtain ⟨kC, hkC, -⟩ := hcls.2
  refine W.aast hx hb hat (fun q h => by cases h) (fun h => by cases h) k1 k2 rfl hkC ⟨h0, by show _ < (arrV _ _ _).slots.size; rw [arrV_size]; exact hlt⟩ g1 (fun q h => by rw [g3] at h; cases h) (by rw [g2]; exact hkC) (by rw [g2]; exact va_assign hcls) rfl rfl hdg fun H1 e z oq => ?_
  refine kk (sg σ g (gR (σ g) a i.toNatClampNeg (some v))) H1 _ (hI.putR ha z oq ?_ hT) (sg_same _ _ _) (fun j hj => sg_ne _ _ hj)
  rw [hk, hE]
  show H1[HB.size + a]? = some (vp_cell _ _)
  rw [e]
  show some ((vp_cell _ _).setSlot _ _) = _
  rw [vp_cell_q, vp_cell_q, arrV_store]
  congr 2
  funext q
  by_cases hq : q = i.toNatClampNeg
  · subst hq
    simp [updV, ups, va_rf]
  · simp [updV, ups, hq]
-- new cells
theorem slz_I (hV : HV HB D y n κ σ H) : slI σ n = fun _ _ => 0 := by funext g k; exact (hV.2.2.2.1 g n k (Nat.le_refl _)).1
theorem slz_J (hV : HV HB D y n κ σ H) : slJ σ n = fun _ _ => 0 := by funext g k; exact (hV.2.2.2.1 g n k (Nat.le_refl _)).2.1
theorem slz_R (hV : HV HB D y n κ σ H) : slR σ n = fun _ _ => none := by funext g k; exact (hV.2.2.2.1 g n k (Nat.le_refl _)).2.2
theorem IV.grow {H1 : Heap} (hI : IV HB D y n0 n κ σ locs H) (hk : κ n = kd) (z : H1.size = H.size + 1) (oq : ∀ q : Nat, q < H.size → H1[q]? = H[q]?) (hat : va_at D vwCl (HB.size + n, entS kd HB.size y (fun _ _ => 0) (fun _ _ => 0) (fun _ _ => none)) H1) : IV HB D y n0 (n + 1) κ σ locs H1 := by
  obtain ⟨⟨h1, h2, h3, h4, h5⟩, h6, h7⟩ := hI
  have hV : HV HB D y n κ σ H := ⟨h1, h2, h3, h4, h5⟩
  refine ⟨⟨by omega, fun q hq => (oq q (by omega)).trans (h2 q hq), fun b hb => ?_, fun g b k hb => h4 g b k (by omega), h5⟩, ⟨by omega, h6.2⟩, h7⟩
  by_cases e : b = n
  · subst e
    unfold ent
    rw [slz_I hV, slz_J hV, slz_R hV, hk]
    exact hat
  · exact (h3 b (by omega)).kept (oq _ (by show HB.size + b < H.size; omega))
theorem r_new (hx : p.tables.exec = Jvm.exec) (hb : c.code = cc) (hts : ∀ w ∈ gtb, w.before args s = true) {own C : String} (hown : s.vm.findClass own = some m.cls) (hKK : KK HB D y s) (hI : IV HB D y n0 n κ σ locs H) {T : u_T} {ty : Nat → FieldType} {N ci index : Nat} {fs : List Value} (hE : entS kd HB.size y (fun _ _ => 0) (fun _ _ => 0) (fun _ _ => none) = .inr (ci, fs)) (hc : vwCl[ci]? = some (C, T, N)) (hin : ∀ w ∈ u_ws C T N, w ∈ gtb) (hty : ∀ k, k < N → parseFieldDescriptor (T k).2.2.1 = some (ty k)) (hfs : ∀ j, j < N → defaultValue (ty j) = vp_V fs j) (hcl : Cond.classLink own index C ∈ gtb) (hinst : Cond.instantiable C N ∈ gtb) (hini : Cond.initialized C ∈ gtb) (hk : κ n = kd) (hcells : cells + 1 ≤ R.cells) (hslots : slots + N ≤ R.slots) (hdg : decode cc pc = .ok (.new index, 3))
    (kk : ∀ H1 : Heap, IV HB D y n0 (n + 1) κ σ locs H1 → W p l e R s m args below meth c H1 locs (cells + 1) (slots + N) Q (F0 m (pc + 3) ls (.ref (HB.size + n) :: rest))) : W p l e R s m args below meth c H locs cells slots Q (F0 m pc ls rest) := by
  have hKn := hKK.1.1 ci _ hc
  refine W.newcK hx hb hown (hts _ hcl) (hts _ hinst) (hts _ hini) rfl hdg hcells hslots hKn.2.1 hI.1.1 fun H1 kC hkC e1 z1 o1 => ?_
  refine kk H1 (hI.grow hk (by rw [z1, hI.1.1]) (fun q hq => o1 q (by rw [← hI.1.1]; exact hq)) ?_)
  rw [hE]
  exact ⟨_, hc, (u_born ty hts hin hKn hkC e1 hty).to hfs⟩
theorem r_newa (hx : p.tables.exec = Jvm.exec) (hb : c.code = cc) (hts : ∀ w ∈ gtb, w.before args s = true) (hKK : KK HB D y s) (hI : IV HB D y n0 n κ σ locs H) {atype : ArrayType} {ty : FieldType} {t0 N : Nat} {x : Int32} {a0 : vp_A} (hty : newarray.typeOf atype = ty) (ht : (tysL y)[t0]? = some (y t0, ty)) (harr : Cond.arrayClass ty ∈ gtb) (hobj : ∀ C, ty ≠ .object C) (hE : entS kd HB.size y (fun _ _ => 0) (fun _ _ => 0) (fun _ _ => none) = .inl (y t0, a0)) (ha0 : ∀ cA : ClassId, vp_cell cA a0 = arrV cA N (fun _ => defaultValue ty)) (hn : ¬ x < 0) (hN : x.toNatClampNeg = N) (hbytes : N * componentBytes ty ≤ 536870912) (hk : κ n = kd) (hcells : cells + 1 ≤ R.cells) (hslots : slots + N ≤ R.slots) (hdg : decode cc pc = .ok (.newarray atype, 2))
    (kk : ∀ H1 : Heap, IV HB D y n0 (n + 1) κ σ locs H1 → W p l e R s m args below meth c H1 locs (cells + 1) (slots + N) Q (F0 m (pc + 2) ls (.ref (HB.size + n) :: rest))) : W p l e R s m args below meth c H locs cells slots Q (F0 m pc ls (.int x :: rest)) := by
  subst hty
  refine va_newaK hx hb (hts _ harr) rfl hdg rfl hn hN hbytes hcells hslots hI.1.1 fun H1 cA e1 z1 o1 hAr hNm => ?_
  refine kk H1 (hI.grow hk (by rw [z1, hI.1.1]) (fun q hq => o1 q (by rw [← hI.1.1]; exact hq)) ?_)
  rw [hE]
  have hRA := (hKK.1.2 t0 _ ht).2
  have hcA : y t0 = cA := by
    have h : s.vm.findClass ("[" ++ (newarray.typeOf atype).toString) = some (y t0) := by
      revert hRA
      cases atype <;> exact id
    exact Option.some.inj (h.symm.trans hNm)
  show H1[HB.size + n]? = some (vp_cell _ _)
  rw [ha0, hcA]
  exact e1
theorem r_anew (hx : p.tables.exec = Jvm.exec) (hb : c.code = cc) (hts : ∀ w ∈ gtb, w.before args s = true) {own C : String} (hown : s.vm.findClass own = some m.cls) (hKK : KK HB D y s) (hI : IV HB D y n0 n κ σ locs H) {t0 N index : Nat} {x : Int32} (ht : (tysL y)[t0]? = some (y t0, .object C)) (hcl : Cond.classLink own index C ∈ gtb) (hover : Cond.arrayOver (.object C) ∈ lw_tbl) (hov : (Cond.arrayOver (.object C)).before args s = true) (hE : entS kd HB.size y (fun _ _ => 0) (fun _ _ => 0) (fun _ _ => none) = .inl (y t0, N, .inr (.inr (.inr (.inr (fun _ => none)))))) (hn : ¬ x < 0) (hN : x.toNatClampNeg = N) (hbytes : N * 4 ≤ 536870912) (hk : κ n = kd) (hcells : cells + 1 ≤ R.cells) (hslots : slots + N ≤ R.slots) (hdg : decode cc pc = .ok (.anewarray index, 3))
    (kk : ∀ H1 : Heap, IV HB D y n0 (n + 1) κ σ locs H1 → W p l e R s m args below meth c H1 locs (cells + 1) (slots + N) Q (F0 m (pc + 3) ls (.ref (HB.size + n) :: rest))) : W p l e R s m args below meth c H locs cells slots Q (F0 m pc ls (.int x :: rest)) := by
  subst hN
  refine W.eq rfl (W.anew hx hb hown (hts _ hcl) hov rfl hdg rfl hn hbytes hcells hslots fun cA kA comp h1 h2 h3 h4 => ?_)
  have hz := hI.1.1
  have hcA : y t0 = cA := by
    obtain ⟨_, _, _, _, _, h⟩ := (hKK.1.2 t0 _ ht).2
    exact Option.some.inj (h.symm.trans h1)
  have hI2 : IV HB D y n0 (n + 1) κ σ locs (H.push { cls := cA, slots := Array.replicate x.toNatClampNeg .null, vm := .none }) := by
    refine hI.grow hk (by simp) (fun q hq => by rw [Array.getElem?_push, if_neg (Nat.ne_of_lt hq)]) ?_
    rw [hE, hcA]
    show (H.push _)[HB.size + n]? = some (vp_cell _ _)
    rw [← hz, vp_cell_q, ← arrV_new]
    simp
    exact Or.inr rfl
  have h9 := kk _ hI2
  rw [← hz] at h9
  exact h9
-- calls: a method's contract in this form
end RULES2
def QCg (v : Option Value) (B : Heap → Prop) : Array Value → State → Outcome → State → Prop := fun _ _ oc t => oc = .returned v ∧ B t.heap
def MT (l : Launch) (HB : Heap) (D : va_G) (y : Nat → ClassId) (ym : MethodName) (b : ByteArray) (L : Nat) (ret : Option FieldType) (rm : Room) (av : List Value) (A : Heap → Prop) (v : Option Value) (B : Heap → Prop) : Prop := Met l ym (.code ym b L ret :: gtb) rm (va_Pc av (fun U => A U.heap ∧ KK HB D y U)) (QCg v B) rm.cells rm.slots (fun q => HB.size ≤ q)
def calOK (ym : MethodName) (b : ByteArray) (L : Nat) (ret : Option FieldType) (n : Nat) : Prop := Cond.code ym b L ret ∈ gtb ∧ Cond.initialized ym.cls ∈ gtb ∧ (ym.cls ≠ "java/lang/invoke/MethodHandle" ∧ ym.cls ≠ "java/lang/invoke/VarHandle" ∧ (parseMethodDescriptor ym.desc).map (fun d => d.parameters.length) = some n)
theorem pcBlind {HB : Heap} {D : va_G} {y : Nat → ClassId} {av : List Value} {A : Heap → Prop} : FrameBlind (va_Pc av (fun U => A U.heap ∧ KK HB D y U)) := fun _ _ _ _ q => ⟨q.1, q.2.1, q.2.2.call⟩
section RULES3
variable {p : Program} {l : Launch} {e : Env} {R : Room} {s : State} {m : MethodId} {args : Array Value} {below : List Frame} {meth : Method} {c : Code} {H : Heap} {locs : List Loc} {cells slots : Nat} {Q : State → Prop}
variable {cc : ByteArray} {pc nL nn bb L index : Nat} {ls : Array Slot} {rest st0 st1 : List Value} {HB : Heap} {D : va_G} {y : Nat → ClassId} {ym : MethodName} {b : ByteArray} {ret : Option FieldType} {rm : Room} {As : List Value} {A B : Heap → Prop} {v : Option Value} {own host : String} {cells' slots' : Nat}
theorem mkB (hts : ∀ w ∈ gtb, w.before args s = true) (cal : calOK ym b L ret nn) (hl : Cond.methodLink own index ym ∈ gtb) (hR : rm.frames + 1 ≤ R.frames ∧ 8 + (L + 11) + rm.locals ≤ R.locals) : CallB R s args own index ym b L ret (.code ym b L ret :: gtb) rm rm.cells rm.slots nn := callB_of nn hts (goodIn_gtb (fun _ h => h) cal.1) rfl rfl rfl (hts _ cal.2.1) (hts _ hl) cal.2.2 hR
theorem mkN (hts : ∀ w ∈ gtb, w.before args s = true) (cal : calOK ym b L ret nn) (hl : va_Nw (.methodLinkNest own index ym host) s) (hR : rm.frames + 1 ≤ R.frames ∧ 8 + (L + 11) + rm.locals ≤ R.locals) : va_CN R s args own index ym host b L ret (.code ym b L ret :: gtb) rm rm.cells rm.slots nn := va_cnB nn hts (goodIn_gtb (fun _ h => h) cal.1) rfl rfl rfl hl (hts _ cal.2.1) cal.2.2 hR
theorem r_ran (hr : va_Run p l e R s m args below meth c H locs cells slots rm.cells rm.slots (F0 m pc ls st0) rest (QCg v B As.toArray) (fun q => HB.size ≤ q)) (hlo : ∀ l ∈ locs, HB.size ≤ l.base) (hs1 : v.toList ++ rest = st1) (hc1 : cells + rm.cells = cells') (hc2 : slots + rm.slots = slots')
    (kk : ∀ (H1 : Heap) (locs1 : List Loc), B H1 → (∀ l ∈ locs1, HB.size ≤ l.base) → W p l e R s m args below meth c H1 locs1 cells' slots' Q (F0 m (pc + 3) ls st1)) : W p l e R s m args below meth c H locs cells slots Q (F0 m pc ls st0) := by
  subst hs1; subst hc1; subst hc2
  intro T hT X
  obtain ⟨v', st₀, t, T', L', h0, X', hL, e1, e2, ⟨hv, hB⟩, st⟩ := hr T hT X
  cases hv
  obtain ⟨t2, a1, b1⟩ := kk T'.heap (locs ++ L') (by rw [e1]; exact hB) (fun q hq => by
    rcases List.mem_append.mp hq with h | h
    · exact hlo q h
    · exact hL q h) T' rfl X'
  exact ⟨t2, st t2 a1, b1⟩
theorem r_callV (hx : p.tables.exec = Jvm.exec) (hb : c.code = cc) (hml : c.maxLocals = nL) (hts : ∀ w ∈ gtb, w.before args s = true) (hown : s.vm.findClass own = some m.cls) (hM : MT l HB D y ym b L ret rm (.ref bb :: As) A v B) (cal : calOK ym b L ret nn) (hins : Cond.instanceMethod ym ∈ gtb) (hsel : Cond.selects ym.cls ym ym ∈ gtb) (hl : Cond.methodLink own index ym ∈ gtb) (hR : rm.frames + 1 ≤ R.frames ∧ 8 + (L + 11) + rm.locals ≤ R.locals) (hA : A H) (hKK : KK HB D y s) (hrec : ∃ cellB : Cell, H[bb]? = some cellB ∧ cellB.vm.isStatics = false ∧ s.vm.findClass ym.cls = some cellB.cls) (hn : As.length = nn) (hsz : ls.size = nL) (hlo : ∀ l ∈ locs, HB.size ≤ l.base) (hs0 : st0 = As.reverse ++ .ref bb :: rest) (hroom : (rest.map fun v => v.category).sum ≤ 8) (hdg : decode cc pc = .ok (.invokevirtual index, 3)) (hf : cells + rm.cells ≤ R.cells ∧ slots + rm.slots ≤ R.slots) (hs1 : v.toList ++ rest = st1) (hc1 : cells + rm.cells = cells') (hc2 : slots + rm.slots = slots')
    (kk : ∀ (H1 : Heap) (locs1 : List Loc), B H1 → (∀ l ∈ locs1, HB.size ≤ l.base) → W p l e R s m args below meth c H1 locs1 cells' slots' Q (F0 m (pc + 3) ls st1)) : W p l e R s m args below meth c H locs cells slots Q (F0 m pc ls st0) :=
  r_ran (As := .ref bb :: As) (va_runV (As := As) (b := bb) (C := ym.cls) ⟨hx, hb, hml, hown, hts⟩ hM ⟨mkB hts cal hl hR, hts _ hins, hts _ hsel⟩ ⟨pcBlind, hrec, fun U hU hW => ⟨rfl, by rw [hU]; exact hA, hKK.warm hW⟩⟩ rfl hn hsz hs0 (lv_room hroom) hdg hf) hlo hs1 hc1 hc2 kk
theorem r_callS (hx : p.tables.exec = Jvm.exec) (hb : c.code = cc) (hml : c.maxLocals = nL) (hts : ∀ w ∈ gtb, w.before args s = true) (hown : s.vm.findClass own = some m.cls) (hM : MT l HB D y ym b L ret rm As A v B) (cal : calOK ym b L ret nn) (hst : Cond.static ym ∈ gtb) (hl : Cond.methodLink own index ym ∈ gtb) (hR : rm.frames + 1 ≤ R.frames ∧ 8 + (L + 11) + rm.locals ≤ R.locals) (hA : A H) (hKK : KK HB D y s) (hn : As.length = nn) (hsz : ls.size = nL) (hlo : ∀ l ∈ locs, HB.size ≤ l.base) (hs0 : st0 = As.reverse ++ rest) (hroom : (rest.map fun v => v.category).sum ≤ 8) (hdg : decode cc pc = .ok (.invokestatic index, 3)) (hf : cells + rm.cells ≤ R.cells ∧ slots + rm.slots ≤ R.slots) (hs1 : v.toList ++ rest = st1) (hc1 : cells + rm.cells = cells') (hc2 : slots + rm.slots = slots')
    (kk : ∀ (H1 : Heap) (locs1 : List Loc), B H1 → (∀ l ∈ locs1, HB.size ≤ l.base) → W p l e R s m args below meth c H1 locs1 cells' slots' Q (F0 m (pc + 3) ls st1)) : W p l e R s m args below meth c H locs cells slots Q (F0 m pc ls st0) :=
  r_ran (As := As) (va_runS (As := As) ⟨hx, hb, hml, hown, hts⟩ hM ⟨mkB hts cal hl hR, hts _ hst⟩ ⟨pcBlind, fun U hU hW => ⟨rfl, by rw [hU]; exact hA, hKK.warm hW⟩⟩ rfl hn hsz hs0 (lv_room hroom) hdg hf) hlo hs1 hc1 hc2 kk
theorem r_callSN (hx : p.tables.exec = Jvm.exec) (hb : c.code = cc) (hml : c.maxLocals = nL) (hts : ∀ w ∈ gtb, w.before args s = true) (hown : s.vm.findClass own = some m.cls) (hM : MT l HB D y ym b L ret rm As A v B) (cal : calOK ym b L ret nn) (hst : Cond.static ym ∈ gtb) (hl : va_Nw (.methodLinkNest own index ym host) s) (hR : rm.frames + 1 ≤ R.frames ∧ 8 + (L + 11) + rm.locals ≤ R.locals) (hA : A H) (hKK : KK HB D y s) (hn : As.length = nn) (hsz : ls.size = nL) (hlo : ∀ l ∈ locs, HB.size ≤ l.base) (hs0 : st0 = As.reverse ++ rest) (hroom : (rest.map fun v => v.category).sum ≤ 8) (hdg : decode cc pc = .ok (.invokestatic index, 3)) (hf : cells + rm.cells ≤ R.cells ∧ slots + rm.slots ≤ R.slots) (hs1 : v.toList ++ rest = st1) (hc1 : cells + rm.cells = cells') (hc2 : slots + rm.slots = slots')
    (kk : ∀ (H1 : Heap) (locs1 : List Loc), B H1 → (∀ l ∈ locs1, HB.size ≤ l.base) → W p l e R s m args below meth c H1 locs1 cells' slots' Q (F0 m (pc + 3) ls st1)) : W p l e R s m args below meth c H locs cells slots Q (F0 m pc ls st0) :=
  r_ran (As := As) (va_runSN (As := As) ⟨hx, hb, hml, hown, hts⟩ hM ⟨mkN hts cal hl hR, hts _ hst, trivial⟩ ⟨pcBlind, fun U hU hW => ⟨rfl, by rw [hU]; exact hA, hKK.warm hW⟩⟩ rfl hn hsz hs0 (lv_room hroom) hdg hf) hlo hs1 hc1 hc2 kk
theorem r_callI (hx : p.tables.exec = Jvm.exec) (hb : c.code = cc) (hml : c.maxLocals = nL) (hts : ∀ w ∈ gtb, w.before args s = true) (hown : s.vm.findClass own = some m.cls) (hM : MT l HB D y ym b L none rm (.ref bb :: As) A v B) (cal : calOK ym b L none nn) (hyn : ym.name = "<init>") (hins : Cond.instanceMethod ym ∈ gtb) (hl : Cond.methodLink own index ym ∈ gtb) (hR : rm.frames + 1 ≤ R.frames ∧ 8 + (L + 11) + rm.locals ≤ R.locals) (hA : A H) (hKK : KK HB D y s) (hn : As.length = nn) (hsz : ls.size = nL) (hlo : ∀ l ∈ locs, HB.size ≤ l.base) (hs0 : st0 = As.reverse ++ .ref bb :: rest) (hroom : (rest.map fun v => v.category).sum ≤ 8) (hdg : decode cc pc = .ok (.invokespecial index, 3)) (hf : cells + rm.cells ≤ R.cells ∧ slots + rm.slots ≤ R.slots) (hs1 : v.toList ++ rest = st1) (hc1 : cells + rm.cells = cells') (hc2 : slots + rm.slots = slots')
    (kk : ∀ (H1 : Heap) (locs1 : List Loc), B H1 → (∀ l ∈ locs1, HB.size ≤ l.base) → W p l e R s m args below meth c H1 locs1 cells' slots' Q (F0 m (pc + 3) ls st1)) : W p l e R s m args below meth c H locs cells slots Q (F0 m pc ls st0) :=
  r_ran (As := .ref bb :: As) (va_runI (As := As) (b := bb) ⟨hx, hb, hml, hown, hts⟩ hM ⟨mkB hts cal hl hR, hyn, hts _ hins⟩ ⟨pcBlind, fun U hU hW => ⟨rfl, by rw [hU]; exact hA, hKK.warm hW⟩⟩ rfl hn hsz hs0 (lv_room hroom) hdg hf) hlo hs1 hc1 hc2 kk
theorem r_callIN (hx : p.tables.exec = Jvm.exec) (hb : c.code = cc) (hml : c.maxLocals = nL) (hts : ∀ w ∈ gtb, w.before args s = true) (hown : s.vm.findClass own = some m.cls) (hM : MT l HB D y ym b L none rm (.ref bb :: As) A v B) (cal : calOK ym b L none nn) (hyn : ym.name = "<init>") (hins : Cond.instanceMethod ym ∈ gtb) (hl : va_Nw (.methodLinkNest own index ym host) s) (hR : rm.frames + 1 ≤ R.frames ∧ 8 + (L + 11) + rm.locals ≤ R.locals) (hA : A H) (hKK : KK HB D y s) (hn : As.length = nn) (hsz : ls.size = nL) (hlo : ∀ l ∈ locs, HB.size ≤ l.base) (hs0 : st0 = As.reverse ++ .ref bb :: rest) (hroom : (rest.map fun v => v.category).sum ≤ 8) (hdg : decode cc pc = .ok (.invokespecial index, 3)) (hf : cells + rm.cells ≤ R.cells ∧ slots + rm.slots ≤ R.slots) (hs1 : v.toList ++ rest = st1) (hc1 : cells + rm.cells = cells') (hc2 : slots + rm.slots = slots')
    (kk : ∀ (H1 : Heap) (locs1 : List Loc), B H1 → (∀ l ∈ locs1, HB.size ≤ l.base) → W p l e R s m args below meth c H1 locs1 cells' slots' Q (F0 m (pc + 3) ls st1)) : W p l e R s m args below meth c H locs cells slots Q (F0 m pc ls st0) :=
  r_ran (As := .ref bb :: As) (va_runIN (As := As) (b := bb) ⟨hx, hb, hml, hown, hts⟩ hM ⟨mkN hts cal hl hR, hyn, hts _ hins⟩ ⟨pcBlind, fun U hU hW => ⟨rfl, by rw [hU]; exact hA, hKK.warm hW⟩⟩ rfl hn hsz hs0 (lv_room hroom) hdg hf) hlo hs1 hc1 hc2 kk
theorem r_recv {n0 n kd a ci : Nat} {κ : Nat → Nat} {σ : St} {C : String} {T : u_T} {N : Nat} {F : (Nat → Nat → Int32) → (Nat → Nat → Int64) → (Nat → Nat → Option Nat) → List Value} (hKK : KK HB D y s) (hI : IV HB D y n0 n κ σ locs H) (hE : ∀ i j r, entS kd HB.size y i j r = .inr (ci, F i j r)) (hc : vwCl[ci]? = some (C, T, N)) (ha : a < n) (hk : κ a = kd) : ∃ cellB : Cell, H[HB.size + a]? = some cellB ∧ cellB.vm.isStatics = false ∧ s.vm.findClass C = some cellB.cls := by
  have hat := hI.at ha hk
  rw [hE] at hat
  exact va_recv (q0 := 0) hKK.1 (w1 hat) hc rfl
end RULES3
abbrev WX (RM : Room) (p : Program) (l : Launch) (e : Env) (s : State) (m : MethodId) (args : Array Value) (below : List Frame) (meth : Method) (c : Code) (HB : Heap) (v : Option Value) (B : Heap → Prop) (H : Heap) (locs : List Loc) (g : JFrame) : Prop := W p l e RM s m args below meth c H locs 0 0 (MQ below (QCg v B) args s 0 0 (fun x => HB.size ≤ x)) g
-- the words of the functions that say what a method does
def ck {α : Type} (i : Int32) (n : Nat) (x : Option α) : Option α := if i < 0 ∨ n ≤ i.toNatClampNeg then none else x
def cz {α : Type} (d : Int32) (x : Option α) : Option α := if d = 0 then none else x
def cb {α : Type} (v : Int32) (x : Option α) : Option α := if v = 0 ∨ v = 1 then x else none
def bn {α β : Type} (x : α) (f : α → β) : β := f x
def om {α : Type} (o : Option Nat) (a : α) (f : Nat → α) : α := match o with | none => a | some t => f t
def ob {α β : Type} (o : Option α) (f : α → Option β) : Option β := match o with | none => none | some t => f t
theorem ck_e {α : Type} {i : Int32} {n : Nat} {x : Option α} {r : α} (h : ck i n x = some r) : vp_in i n ∧ x = some r := by
  unfold ck at h
  split at h
  · cases h
  · exact ⟨by assumption, h⟩
theorem cz_e {α : Type} {d : Int32} {x : Option α} {r : α} (h : cz d x = some r) : ¬ d = 0 ∧ x = some r := by
  unfold cz at h
  split at h
  · cases h
  · exact ⟨by assumption, h⟩
theorem cb_e {α : Type} {v : Int32} {x : Option α} {r : α} (h : cb v x = some r) : narrow .boolean (.int v) = .int v ∧ x = some r := by
  unfold cb at h
  split at h
  · rename_i q
    refine ⟨?_, h⟩
    rcases q with q | q <;> subst q <;> rfl
  · cases h
theorem bn_e {α β : Type} {x : α} {f : α → β} {r : β} (h : bn x f = r) : ∃ z, z = x ∧ f z = r := ⟨x, rfl, h⟩
theorem om_e {α : Type} {o : Option Nat} {a : α} {f : Nat → α} {r : α} (h : om o a f = r) : (o = none ∧ a = r) ∨ ∃ t, o = some t ∧ f t = r := by
  cases o with
  | none => exact Or.inl ⟨rfl, h⟩
  | some t => exact Or.inr ⟨t, rfl, h⟩
theorem ob_e {α β : Type} {o : Option α} {f : α → Option β} {r : β} (h : ob o f = some r) : ∃ q, o = some q ∧ f q = some r := by
  cases o with
  | none => cases h
  | some q => exact ⟨q, rfl, h⟩
theorem ite_t {c : Prop} [Decidable c] {α : Type} {a b r : α} (hc : c) (h : (if c then a else b) = r) : a = r := by rw [if_pos hc] at h; exact h
theorem ite_f {c : Prop} [Decidable c] {α : Type} {a b r : α} (hc : ¬ c) (h : (if c then a else b) = r) : b = r := by rw [if_neg hc] at h; exact h
theorem ite_n {c : Prop} [Decidable c] {α : Type} {a b r : α} (hc : ¬ ¬ c) (h : (if c then a else b) = r) : a = r := ite_t (Classical.not_not.mp hc) h
theorem frs {σ0 σ σ' : St} {g : Nat} {W : List Nat} (fr : ∀ j, j ∉ W → σ j = σ0 j) (ho : ∀ j, j ≠ g → σ' j = σ j) (hm : g ∈ W) : ∀ j, j ∉ W → σ' j = σ0 j := fun j hj => (ho j (fun e => hj (e ▸ hm))).trans (fr j hj)
theorem frc {σ0 σ σ' : St} {W W2 : List Nat} (fr : ∀ j, j ∉ W → σ j = σ0 j) (ho : ∀ j, j ∉ W2 → σ' j = σ j) (hm : ∀ j ∈ W2, j ∈ W) : ∀ j, j ∉ W → σ' j = σ0 j := fun j hj => (ho j (fun e => hj (hm j e))).trans (fr j hj)
theorem nn {a b : Nat} (h : (a == b) = false) : a ≠ b := fun e => by subst e; simp at h
theorem ni {a : Nat} {W : List Nat} (h : W.contains a = false) : a ∉ W := fun e => by simp [e] at h
theorem topi {p : Program} {l : Launch} {e : Env} {R : Room} {s : State} {m : MethodId} {args : Array Value} {below : List Frame} {meth : Method} {c : Code} {H : Heap} {locs : List Loc} {cells slots : Nat} {Q : State → Prop} {pc : Nat} {ls : Array Slot} {rest : List Value} {v x : Int32} (q : v = x) (k : W p l e R s m args below meth c H locs cells slots Q (F0 m pc ls (.int v :: rest))) : W p l e R s m args below meth c H locs cells slots Q (F0 m pc ls (.int x :: rest)) := q ▸ k
theorem topl {p : Program} {l : Launch} {e : Env} {R : Room} {s : State} {m : MethodId} {args : Array Value} {below : List Frame} {meth : Method} {c : Code} {H : Heap} {locs : List Loc} {cells slots : Nat} {Q : State → Prop} {pc : Nat} {ls : Array Slot} {rest : List Value} {v x : Int64} (q : v = x) (k : W p l e R s m args below meth c H locs cells slots Q (F0 m pc ls (.long v :: rest))) : W p l e R s m args below meth c H locs cells slots Q (F0 m pc ls (.long x :: rest)) := q ▸ k
theorem topr {p : Program} {l : Launch} {e : Env} {R : Room} {s : State} {m : MethodId} {args : Array Value} {below : List Frame} {meth : Method} {c : Code} {H : Heap} {locs : List Loc} {cells slots : Nat} {Q : State → Prop} {pc : Nat} {ls : Array Slot} {rest : List Value} {b : Nat} {o : Option Nat} {t : Nat} (q : o = some t) (k : W p l e R s m args below meth c H locs cells slots Q (F0 m pc ls (.ref (b + t) :: rest))) : W p l e R s m args below meth c H locs cells slots Q (F0 m pc ls (rfv b o :: rest)) := by
  subst q; exact k
theorem topn {p : Program} {l : Launch} {e : Env} {R : Room} {s : State} {m : MethodId} {args : Array Value} {below : List Frame} {meth : Method} {c : Code} {H : Heap} {locs : List Loc} {cells slots : Nat} {Q : State → Prop} {pc : Nat} {ls : Array Slot} {rest : List Value} {b : Nat} {o : Option Nat} (q : o = none) (k : W p l e R s m args below meth c H locs cells slots Q (F0 m pc ls (.null :: rest))) : W p l e R s m args below meth c H locs cells slots Q (F0 m pc ls (rfv b o :: rest)) := by
  subst q; exact k

