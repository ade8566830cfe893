/-! The pure half: Int32 by Int, programs that may be stuck, counting. -/
def iI (z : Int) : Int32 := Int32.ofInt z
theorem iI_add (a b : Int) : iI a + iI b = iI (a + b) := (Int32.ofInt_add a b).symm
theorem iI_sub (a b : Int) : iI a - iI b = iI (a - b) := (Int32.ofInt_sub a b).symm
theorem iI_mul (a b : Int) : iI a * iI b = iI (a * b) := (Int32.ofInt_mul a b).symm
theorem iI_neg (a : Int) : -iI a = iI (-a) := (Int32.ofInt_neg a).symm
theorem iI_toInt {a : Int} (h1 : -2147483648 ≤ a) (h2 : a < 2147483648) : (iI a).toInt = a := by
  unfold iI
  rw [Int32.toInt_ofInt_of_le (by simpa using h1) (by simpa using h2)]
theorem iI_lt {a b : Int} (h1 : -2147483648 ≤ a) (h2 : a < 2147483648) (h3 : -2147483648 ≤ b) (h4 : b < 2147483648) : iI a < iI b ↔ a < b := by
  rw [Int32.lt_iff_toInt_lt, iI_toInt h1 h2, iI_toInt h3 h4]
theorem iI_le {a b : Int} (h1 : -2147483648 ≤ a) (h2 : a < 2147483648) (h3 : -2147483648 ≤ b) (h4 : b < 2147483648) : iI a ≤ iI b ↔ a ≤ b := by
  rw [Int32.le_iff_toInt_le, iI_toInt h1 h2, iI_toInt h3 h4]
theorem iI_eq {a b : Int} (h1 : -2147483648 ≤ a) (h2 : a < 2147483648) (h3 : -2147483648 ≤ b) (h4 : b < 2147483648) : iI a = iI b ↔ a = b := by
  rw [← Int32.toInt_inj, iI_toInt h1 h2, iI_toInt h3 h4]
theorem iI_ex (x : Int32) : ∃ z : Int, x = iI z ∧ -2147483648 ≤ z ∧ z < 2147483648 := by
  refine ⟨x.toInt, (Int32.ofInt_toInt x).symm, ?_, ?_⟩
  · exact Int32.le_toInt x
  · exact Int32.toInt_lt x
theorem iI_cl {a : Int} (h1 : -2147483648 ≤ a) (h2 : a < 2147483648) : (iI a).toNatClampNeg = a.toNat := by
  show (iI a).toInt.toNat = _
  rw [iI_toInt h1 h2]
theorem iI_nI (n : Nat) : nI n = iI n := rfl
theorem iI_lit (n : Nat) : (OfNat.ofNat n : Int32) = iI (OfNat.ofNat n) := rfl

theorem iI_in {a : Int} {n : Nat} (h1 : -2147483648 ≤ a) (h2 : a < 2147483648) : vp_in (iI a) n ↔ (0 ≤ a ∧ a < n) := by
  unfold vp_in
  rw [iI_cl h1 h2, iI_lit, iI_lt h1 h2 (by decide) (by decide)]
  omega
theorem ck_ok {α : Type} {i : Int32} {n : Nat} {x : Option α} (h : vp_in i n) : ck i n x = x := by
  unfold ck
  rw [if_neg h]
theorem ck_iI {α : Type} {a : Int} {n : Nat} {x : Option α} (h1 : 0 ≤ a) (h2 : a < n) (h3 : a < 2147483648) : ck (iI a) n x = x := ck_ok ((iI_in (by omega) h3).mpr ⟨h1, h2⟩)
theorem cz_ok {α : Type} {i : Int32} {x : Option α} (h : ¬ i = 0) : cz i x = x := if_neg h
theorem cb_ok {α : Type} {i : Int32} {x : Option α} (h : i = 0 ∨ i = 1) : cb i x = x := if_pos h
theorem bn_eq {α β : Type} (x : α) (f : α → β) : bn x f = f x := rfl
theorem ob_s {α β : Type} (x : α) (f : α → Option β) : ob (some x) f = f x := rfl
theorem om_n {α : Type} (a : α) (f : Nat → α) : om none a f = a := rfl
theorem om_s {α : Type} (t : Nat) (a : α) (f : Nat → α) : om (some t) a f = f t := rfl
/-- the program comes through, with P of its answer -/
def ok {α : Type} (x : Option α) (P : α → Prop) : Prop := match x with
  | none => False
  | some r => P r
theorem ok_s {α : Type} (r : α) (P : α → Prop) : ok (some r) P = P r := rfl
theorem ok_iff {α : Type} {x : Option α} {P : α → Prop} : ok x P ↔ ∃ r, x = some r ∧ P r := by
  cases x with
  | none => exact ⟨fun h => h.elim, fun ⟨r, h, _⟩ => by cases h⟩
  | some r => exact ⟨fun h => ⟨r, rfl, h⟩, fun ⟨r', h, h2⟩ => by cases h; exact h2⟩
theorem ok_ck {α : Type} {i : Int32} {n : Nat} {x : Option α} {P : α → Prop} : ok (ck i n x) P ↔ vp_in i n ∧ ok x P := by
  unfold ck vp_in
  split
  · rename_i h; exact ⟨fun h2 => h2.elim, fun h2 => absurd h h2.1⟩
  · rename_i h; exact ⟨fun h2 => ⟨h, h2⟩, fun h2 => h2.2⟩
theorem ok_bn {α β : Type} (x : β) (f : β → Option α) (P : α → Prop) : ok (bn x f) P = ok (f x) P := rfl
theorem ok_ob {α β : Type} (o : Option β) (f : β → Option α) (P : α → Prop) : ok (ob o f) P = ok o (fun r => ok (f r) P) := by
  cases o <;> rfl
theorem ok_if {α : Type} {c : Prop} [Decidable c] {a b : Option α} {P : α → Prop} : ok (if c then a else b) P ↔ (c → ok a P) ∧ (¬ c → ok b P) := by
  by_cases h : c
  · simp [h]
  · simp [h]
theorem ok.imp {α : Type} {x : Option α} {P Q : α → Prop} (h : ok x P) (hq : ∀ r, P r → Q r) : ok x Q := by
  cases x with
  | none => exact h
  | some r => exact hq r h
theorem ok_of {α : Type} {x : Option α} {r : α} {P : α → Prop} (h : x = some r) (hp : P r) : ok x P := by rw [h]; exact hp
theorem ok.ob {α β : Type} {o : Option β} {f : β → Option α} {P : β → Prop} {Q : α → Prop} (h : ok o P) (hf : ∀ r, P r → ok (f r) Q) : ok (ob o f) Q := by
  rw [ok_ob]
  exact h.imp hf
/-- an answer 'boolean' -/
def bI (c : Prop) [Decidable c] : Int32 := if c then 1 else 0
theorem bI_0 {c : Prop} [Decidable c] : bI c = 0 ↔ ¬ c := by
  unfold bI
  by_cases h : c
  · rw [if_pos h]; simp [h]
  · rw [if_neg h]; simp [h]
theorem bI_1 {c : Prop} [Decidable c] : bI c = 1 ↔ c := by
  unfold bI
  by_cases h : c
  · rw [if_pos h]; simp [h]
  · rw [if_neg h]; simp [h]
theorem bI_i0 {c : Prop} [Decidable c] : bI c = iI 0 ↔ ¬ c := bI_0
theorem bI_i1 {c : Prop} [Decidable c] : bI c = iI 1 ↔ c := bI_1
theorem bI_t {c : Prop} [Decidable c] (h : c) : bI c = 1 := if_pos h
theorem bI_f {c : Prop} [Decidable c] (h : ¬ c) : bI c = 0 := if_neg h
theorem bI_congr {c d : Prop} [Decidable c] [Decidable d] (h : c ↔ d) : bI c = bI d := by
  unfold bI
  by_cases hc : c
  · rw [if_pos hc, if_pos (h.mp hc)]
  · rw [if_neg hc, if_neg (fun z => hc (h.mpr z))]
theorem bI_T [Decidable True] : bI True = iI 1 := bI_t trivial
theorem bI_F [Decidable False] : bI False = iI 0 := bI_f id
theorem bI_01 {c : Prop} [Decidable c] : bI c = 0 ∨ bI c = 1 := (Decidable.em c).elim (fun h => Or.inr (bI_t h)) (fun h => Or.inl (bI_f h))
theorem cb_bI {α : Type} {c : Prop} [Decidable c] {x : Option α} : cb (bI c) x = x := cb_ok bI_01
theorem iI_bI0 {c : Prop} [Decidable c] : iI 0 = bI c ↔ ¬ c := ⟨fun h => bI_0.mp h.symm, fun h => (bI_0.mpr h).symm⟩
theorem iI_bI1 {c : Prop} [Decidable c] : iI 1 = bI c ↔ c := ⟨fun h => bI_1.mp h.symm, fun h => (bI_1.mpr h).symm⟩
-- reading what was written
theorem gI_g (G : Grp) (a k : Nat) (x : Int32) (b j : Nat) : (gI G a k x).1 b j = if b = a ∧ j = k then x else G.1 b j := rfl
theorem gI_2 (G : Grp) (a k : Nat) (x : Int32) : (gI G a k x).2 = G.2 := rfl
theorem gJ_1 (G : Grp) (a k : Nat) (x : Int64) : (gJ G a k x).1 = G.1 := rfl
theorem gJ_g (G : Grp) (a k : Nat) (x : Int64) (b j : Nat) : (gJ G a k x).2.1 b j = if b = a ∧ j = k then x else G.2.1 b j := rfl
theorem gJ_2 (G : Grp) (a k : Nat) (x : Int64) : (gJ G a k x).2.2 = G.2.2 := rfl
theorem gR_1 (G : Grp) (a k : Nat) (x : Option Nat) : (gR G a k x).1 = G.1 := rfl
theorem gR_2 (G : Grp) (a k : Nat) (x : Option Nat) : (gR G a k x).2.1 = G.2.1 := rfl
theorem gR_g (G : Grp) (a k : Nat) (x : Option Nat) (b j : Nat) : (gR G a k x).2.2 b j = if b = a ∧ j = k then x else G.2.2 b j := rfl
theorem cast_s (i : Nat) : ((i + 1 : Nat) : Int) = (i : Int) + 1 := rfl
theorem up_ind {n : Nat} {Q : Nat → Nat → Prop} (base : ∀ fu, Q (fu + 1) n) (step : ∀ i fu, i < n → Q fu (i + 1) → Q (fu + 1) i) : ∀ i fu, i ≤ n → n - i < fu → Q fu i := by
  have key : ∀ (k i fu : Nat), i + k = n → k < fu → Q fu i := by
    intro k
    induction k with
    | zero =>
      intro i fu e1 e2
      obtain ⟨fu, rfl⟩ : ∃ f, fu = f + 1 := ⟨fu - 1, by omega⟩
      rw [show i = n by omega]
      exact base fu
    | succ k ih =>
      intro i fu e1 e2
      obtain ⟨fu, rfl⟩ : ∃ f, fu = f + 1 := ⟨fu - 1, by omega⟩
      exact step i fu (by omega) (ih (i + 1) fu (by omega) (by omega))
  exact fun i fu h1 h2 => key (n - i) i fu (by omega) h2
/-- downward: at i there are i more to come (the index is i - 1) -/
theorem dn_ind {Q : Nat → Nat → Prop} (base : ∀ fu, Q (fu + 1) 0) (step : ∀ i fu, Q fu i → Q (fu + 1) (i + 1)) : ∀ i fu, i < fu → Q fu i := by
  intro i
  induction i with
  | zero =>
    intro fu e
    obtain ⟨fu, rfl⟩ : ∃ f, fu = f + 1 := ⟨fu - 1, by omega⟩
    exact base fu
  | succ i ih =>
    intro fu e
    obtain ⟨fu, rfl⟩ : ∃ f, fu = f + 1 := ⟨fu - 1, by omega⟩
    exact step i fu (ih fu (by omega))
-- how many, how much, the first, the last
def cnt (p : Nat → Prop) [DecidablePred p] : Nat → Nat
  | 0 => 0
  | n + 1 => cnt p n + if p n then 1 else 0
theorem cnt_le (p : Nat → Prop) [DecidablePred p] (n : Nat) : cnt p n ≤ n := by
  induction n with
  | zero => exact Nat.le_refl _
  | succ n ih => unfold cnt; split <;> omega
theorem cnt_s (p : Nat → Prop) [DecidablePred p] (n : Nat) : cnt p (n + 1) = cnt p n + if p n then 1 else 0 := rfl
theorem cnt_t {p : Nat → Prop} [DecidablePred p] {n : Nat} (h : p n) : cnt p (n + 1) = cnt p n + 1 := by rw [cnt_s, if_pos h]
theorem cnt_f {p : Nat → Prop} [DecidablePred p] {n : Nat} (h : ¬ p n) : cnt p (n + 1) = cnt p n := by rw [cnt_s, if_neg h, Nat.add_zero]
theorem cnt_congr {p q : Nat → Prop} [DecidablePred p] [DecidablePred q] {n : Nat} (h : ∀ i, i < n → (p i ↔ q i)) : cnt p n = cnt q n := by
  induction n with
  | zero => rfl
  | succ n ih =>
    unfold cnt
    rw [ih fun i hi => h i (by omega)]
    by_cases hp : p n
    · rw [if_pos hp, if_pos ((h n (by omega)).mp hp)]
    · rw [if_neg hp, if_neg fun z => hp ((h n (by omega)).mpr z)]
def sumI (f : Nat → Int) : Nat → Int
  | 0 => 0
  | n + 1 => sumI f n + f n
theorem sumI_congr {f g : Nat → Int} {n : Nat} (h : ∀ i, i < n → f i = g i) : sumI f n = sumI g n := by
  induction n with
  | zero => rfl
  | succ n ih => unfold sumI; rw [ih fun i hi => h i (by omega), h n (by omega)]
/-- the first below n -/
def fst (p : Nat → Prop) [DecidablePred p] : Nat → Option Nat
  | 0 => none
  | n + 1 => match fst p n with
    | some i => some i
    | none => if p n then some n else none
theorem fst_none {p : Nat → Prop} [DecidablePred p] {n : Nat} : fst p n = none ↔ ∀ i, i < n → ¬ p i := by
  induction n with
  | zero => simp [fst]
  | succ n ih =>
    unfold fst
    cases h : fst p n with
    | some i =>
      simp only [reduceCtorEq, false_iff]
      intro z
      have := ih.mpr (fun i hi => z i (by omega))
      rw [h] at this
      cases this
    | none =>
      have h1 := ih.mp h
      by_cases hp : p n
      · simp only [if_pos hp, reduceCtorEq, false_iff]
        intro z
        exact z n (by omega) hp
      · simp only [if_neg hp, true_iff]
        intro i hi
        by_cases e : i = n
        · rw [e]; exact hp
        · exact h1 i (by omega)
theorem fst_some_aux {p : Nat → Prop} [DecidablePred p] {n k : Nat} (h : fst p n = some k) : k < n ∧ p k := by
  induction n with
  | zero => cases h
  | succ n ih =>
    unfold fst at h
    cases h2 : fst p n with
    | some i => rw [h2] at h; cases h; exact ⟨by have := (ih h2).1; omega, (ih h2).2⟩
    | none =>
      rw [h2] at h
      simp only [] at h
      split at h
      · rename_i hp; cases h; exact ⟨by omega, hp⟩
      · cases h
theorem fst_some {p : Nat → Prop} [DecidablePred p] {n i : Nat} : fst p n = some i ↔ i < n ∧ p i ∧ ∀ j, j < i → ¬ p j := by
  induction n with
  | zero => simp [fst]
  | succ n ih =>
    unfold fst
    cases h : fst p n with
    | some k =>
      rw [h] at ih
      simp only []
      constructor
      · intro e
        have := ih.mp e
        exact ⟨by omega, this.2⟩
      · intro ⟨h1, h2, h3⟩
        by_cases e : i = n
        · have hk := (fst_some_aux h)
          exact absurd hk.2 (h3 k (by omega))
        · exact ih.mpr ⟨by omega, h2, h3⟩
    | none =>
      have h1 := fst_none.mp h
      by_cases hp : p n
      · simp only [if_pos hp, Option.some.injEq]
        constructor
        · intro e; subst e; exact ⟨by omega, hp, h1⟩
        · intro ⟨h4, h5, h6⟩
          by_cases e : i = n
          · exact e.symm
          · exact absurd h5 (h1 i (by omega))
      · simp only [if_neg hp, reduceCtorEq, false_iff]
        intro ⟨h4, h5, h6⟩
        by_cases e : i = n
        · rw [e] at h5; exact hp h5
        · exact h1 i (by omega) h5
theorem within_v (F : Nat) (v a b : Int32) : f_X11_within F v a b = some (bI (a ≤ v ∧ v ≤ b)) := by
  unfold f_X11_within bI
  grind [Int32.not_lt]
theorem in_v (F : Nat) (v a b : Int32) : f_X12_in F v a b = some (bI (a ≤ v ∧ v ≤ b)) := by
  unfold f_X12_in bI
  grind
