/-! sets as bits -/
def andn (a b : Nat) : Nat := a ^^^ (a &&& b)
theorem andn_bit (a b i : Nat) : (andn a b).testBit i = (a.testBit i && !b.testBit i) := by
  unfold andn
  rw [Nat.testBit_xor, Nat.testBit_and]
  cases a.testBit i <;> cases b.testBit i <;> rfl
theorem andn_lt {a b n : Nat} (h : a < 2 ^ n) : andn a b < 2 ^ n := Nat.xor_lt_two_pow h (Nat.lt_of_le_of_lt Nat.and_le_left h)
theorem andn_0 {a b : Nat} : andn a b = 0 ↔ ∀ i, a.testBit i = true → b.testBit i = true := by
  constructor
  · intro h i hi
    have := andn_bit a b i
    rw [h, Nat.zero_testBit, hi] at this
    cases hb : b.testBit i with
    | true => rfl
    | false => rw [hb] at this; cases this
  · intro h
    apply Nat.eq_of_testBit_eq
    intro i
    rw [andn_bit, Nat.zero_testBit]
    cases ha : a.testBit i with
    | false => rfl
    | true => rw [h i ha]; rfl
theorem andn_self (a : Nat) : andn a a = 0 := andn_0.mpr fun _ h => h
theorem andn_le {a b : Nat} (h : andn a b = 0) : a ≤ b := Nat.le_of_testBit (andn_0.mp h)
theorem iI_m1 : (iI (-1)).toBitVec = BitVec.allOnes 32 := by decide
theorem iI_andn (a b : Nat) : iI (a : Int) &&& (iI (b : Int) ^^^ iI (-1)) = iI ((andn a b : Nat) : Int) := by
  apply Int32.toBitVec_inj.mp
  rw [Int32.toBitVec_and, Int32.toBitVec_xor, iI_bv, iI_bv, iI_bv, iI_m1, BitVec.xor_allOnes]
  apply BitVec.eq_of_getLsbD_eq
  intro i hi
  rw [BitVec.getLsbD_and, BitVec.getLsbD_not, BitVec.getLsbD_ofNat, BitVec.getLsbD_ofNat, BitVec.getLsbD_ofNat, andn_bit]
  simp [hi]
theorem iI_andn0 {a b : Nat} (h : a < 2147483648) : iI (a : Int) &&& (iI (b : Int) ^^^ iI (-1)) = iI 0 ↔ andn a b = 0 := by
  have h2 : andn a b < 2 ^ 31 := andn_lt h
  rw [iI_andn, iI_eq (by omega) (by omega) (by omega) (by omega)]
  omega
/-- those below n, as bits -/
def msk (p : Nat → Prop) [DecidablePred p] : Nat → Nat
  | 0 => 0
  | n + 1 => if p n then msk p n ||| 2 ^ n else msk p n
theorem msk_t {p : Nat → Prop} [DecidablePred p] {n : Nat} (h : p n) : msk p (n + 1) = msk p n ||| 2 ^ n := if_pos h
theorem msk_f {p : Nat → Prop} [DecidablePred p] {n : Nat} (h : ¬ p n) : msk p (n + 1) = msk p n := if_neg h
theorem msk_bit (p : Nat → Prop) [DecidablePred p] (n i : Nat) : (msk p n).testBit i = true ↔ i < n ∧ p i := by
  induction n with
  | zero => simp [msk]
  | succ n ih =>
    by_cases hp : p n
    · rw [msk_t hp, Nat.testBit_or, Bool.or_eq_true, ih, Nat.testBit_two_pow, decide_eq_true_iff]
      constructor
      · rintro (h | h)
        · exact ⟨by omega, h.2⟩
        · subst h; exact ⟨by omega, hp⟩
      · intro h
        by_cases e : i = n
        · exact Or.inr e.symm
        · exact Or.inl ⟨by omega, h.2⟩
    · rw [msk_f hp, ih]
      constructor
      · exact fun h => ⟨by omega, h.2⟩
      · intro h
        refine ⟨?_, h.2⟩
        by_cases e : i = n
        · subst e; exact absurd h.2 hp
        · omega
theorem msk_lt (p : Nat → Prop) [DecidablePred p] (n : Nat) : msk p n < 2 ^ n := by
  induction n with
  | zero => exact Nat.one_pos
  | succ n ih =>
    have h1 : 2 ^ (n + 1) = 2 ^ n + 2 ^ n := by rw [Nat.pow_succ]; omega
    by_cases hp : p n
    · rw [msk_t hp]
      exact Nat.or_lt_two_pow (by omega) (by omega)
    · rw [msk_f hp]; omega
theorem pw_le {n m : Nat} (h : n ≤ m) : 2 ^ n ≤ 2 ^ m := Nat.pow_le_pow_right (by omega) h
theorem msk_congr {p q : Nat → Prop} [DecidablePred p] [DecidablePred q] {n : Nat} (h : ∀ i, i < n → (p i ↔ q i)) : msk p n = msk q n := by
  apply Nat.eq_of_testBit_eq
  intro i
  apply Bool.eq_iff_iff.mpr
  rw [msk_bit, msk_bit]
  exact ⟨fun z => ⟨z.1, (h i z.1).mp z.2⟩, fun z => ⟨z.1, (h i z.1).mpr z.2⟩⟩
/-- the sum of those in a set -/
def bsm (c : Nat → Int) (s : Nat) : Nat → Int
  | 0 => 0
  | n + 1 => bsm c s n + if s.testBit n = true then c n else 0
theorem bsm_t {c : Nat → Int} {s n : Nat} (h : s.testBit n = true) : bsm c s (n + 1) = bsm c s n + c n := by rw [show bsm c s (n + 1) = bsm c s n + if s.testBit n = true then c n else 0 from rfl, if_pos h]
theorem bsm_f {c : Nat → Int} {s n : Nat} (h : ¬ s.testBit n = true) : bsm c s (n + 1) = bsm c s n := by rw [show bsm c s (n + 1) = bsm c s n + if s.testBit n = true then c n else 0 from rfl, if_neg h, Int.add_zero]
theorem bsm_b {c : Nat → Int} {s n : Nat} (h : ∀ i, i < n → s.testBit i = true → 0 ≤ c i ∧ c i ≤ 1000000) : 0 ≤ bsm c s n ∧ bsm c s n ≤ n * 1000000 := by
  induction n with
  | zero => exact ⟨Int.le_refl _, Int.le_refl _⟩
  | succ n ih =>
    have h1 := ih fun i hi => h i (by omega)
    by_cases e : s.testBit n = true
    · have h2 := h n (by omega) e
      rw [bsm_t e]; omega
    · rw [bsm_f e]; omega
theorem bsm_congr {c e : Nat → Int} {s n : Nat} (h : ∀ i, i < n → s.testBit i = true → c i = e i) : bsm c s n = bsm e s n := by
  induction n with
  | zero => rfl
  | succ n ih =>
    by_cases b : s.testBit n = true
    · rw [bsm_t b, bsm_t b, ih (fun i hi => h i (by omega)), h n (by omega) b]
    · rw [bsm_f b, bsm_f b, ih fun i hi => h i (by omega)]
/-- the best of the sets, from the least on -/
def bst (g : Nat → Prop) [DecidablePred g] (c w : Nat → Int) : Nat → Nat
  | 0 => 0
  | n + 1 => if g n ∧ (w (bst g c w n) < w n ∨ (w n = w (bst g c w n) ∧ c n < c (bst g c w n))) then n else bst g c w n
theorem bst_t {g : Nat → Prop} [DecidablePred g] {c w : Nat → Int} {n : Nat} (h : g n ∧ (w (bst g c w n) < w n ∨ (w n = w (bst g c w n) ∧ c n < c (bst g c w n)))) : bst g c w (n + 1) = n := if_pos h
theorem bst_f {g : Nat → Prop} [DecidablePred g] {c w : Nat → Int} {n : Nat} (h : ¬ (g n ∧ (w (bst g c w n) < w n ∨ (w n = w (bst g c w n) ∧ c n < c (bst g c w n))))) : bst g c w (n + 1) = bst g c w n := if_neg h
theorem bst_1 {g : Nat → Prop} [DecidablePred g] {c w : Nat → Int} : bst g c w 1 = 0 := by
  rw [bst_f]
  · rfl
  · intro h
    have : bst g c w 0 = 0 := rfl
    rw [this] at h
    omega
theorem bst_lt {g : Nat → Prop} [DecidablePred g] {c w : Nat → Int} : ∀ n, bst g c w (n + 1) ≤ n := by
  intro n
  induction n with
  | zero => rw [bst_1]; omega
  | succ n ih =>
    by_cases h : g (n + 1) ∧ (w (bst g c w (n + 1)) < w (n + 1) ∨ (w (n + 1) = w (bst g c w (n + 1)) ∧ c (n + 1) < c (bst g c w (n + 1))))
    · rw [bst_t h]; omega
    · rw [bst_f h]; omega
theorem bst_ext {g : Nat → Prop} [DecidablePred g] {c w : Nat → Int} {m : Nat} : ∀ n, m ≤ n → (∀ k, m ≤ k → k < n → ¬ g k) → bst g c w n = bst g c w m := by
  intro n
  induction n with
  | zero => intro h _; rw [show m = 0 by omega]
  | succ n ih =>
    intro h1 h2
    by_cases e : m = n + 1
    · rw [e]
    · rw [bst_f fun z => h2 n (by omega) (by omega) z.1]
      exact ih (by omega) fun k h3 h4 => h2 k h3 (by omega)
theorem bst_g {g : Nat → Prop} [DecidablePred g] {c w : Nat → Int} : ∀ n, bst g c w n = 0 ∨ (0 < bst g c w n ∧ g (bst g c w n)) := by
  intro n
  induction n with
  | zero => exact Or.inl rfl
  | succ n ih =>
    by_cases h : g n ∧ (w (bst g c w n) < w n ∨ (w n = w (bst g c w n) ∧ c n < c (bst g c w n)))
    · rw [bst_t h]
      by_cases e : n = 0
      · exact Or.inl e
      · exact Or.inr ⟨by omega, h.1⟩
    · rw [bst_f h]; exact ih
