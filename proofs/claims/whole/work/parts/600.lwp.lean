/-! the law, over the relation; its beginning; the claim -/
theorem RS_0 : RS 174 sig0 := by
  have nm : RNum (sig0 2) (sig0 26) (fun k => ([7, 2, 5, 3, 60, 10, 40, 5000] : List Int).getD k 0) := by
    refine ⟨fun k hk => ?_, by decide⟩
    have c : k = 0 ∨ k = 1 ∨ k = 2 ∨ k = 3 ∨ k = 4 ∨ k = 5 ∨ k = 6 ∨ k = 7 := by omega
    rcases c with rfl | rfl | rfl | rfl | rfl | rfl | rfl | rfl
    all_goals exact ⟨by decide +kernel, by decide +kernel, by decide, by decide⟩
  have no : ∀ {α : Prop} {i : Nat}, i < 0 → α := fun h => absurd h (Nat.not_lt_zero _)
  refine ⟨0, 0, 0, 0, 0, by omega, rfl, rfl, ?_, ⟨0, 0, fun _ => 0, fun _ => 0, fun _ => 0, fun _ _ => 0, fun _ _ => 0, fun _ _ => 0, ?_⟩, ⟨0, fun _ _ => 0, ?_⟩, ⟨_, nm⟩, ⟨0, fun _ => 0, ?_⟩, ⟨3, 13, 0, 0, 0, fun _ => 0, fun _ => 0, fun _ => 0, ?_⟩, ?_, ?_, ?_, ⟨0, fun _ _ => 0, ?_⟩, ?_, ⟨0, 0, fun _ _ => 0, ?_⟩, ⟨fun _ _ => 0, ?_⟩, ⟨0, 0, fun _ => 0, ?_⟩⟩
  · exact ⟨by omega, by omega, by omega, rfl, rfl, rfl, rfl, rfl, rfl, fun i hi => no hi, fun i hi => no hi, fun i hi => no hi⟩
  · refine ⟨⟨by omega, rfl, rfl, fun i hi => no hi, fun i hi => no hi, fun i j hi => no hi, fun i j hi => no hi, fun _ _ _ => rfl, by omega, by omega⟩, ⟨rfl, fun i hi => no hi, fun i j hi => no hi, fun _ _ => rfl⟩, ⟨rfl, fun i hi => no hi, fun _ _ => rfl⟩, ⟨by omega, fun i hi => no hi⟩, fun i hi => no hi, ⟨fun i hi => no hi, fun _ _ _ => rfl, fun _ _ => rfl⟩, fun i hi => no hi, fun p hp => no hp, Nat.le_refl 0, Nat.le_refl _⟩
  · exact ⟨by omega, rfl, rfl, fun i hi => no hi, fun i hi => no hi, by omega⟩
  · exact ⟨by omega, rfl, rfl, by decide +kernel, fun i hi => no hi, fun _ => (by decide : 0 < 256)⟩
  · exact ⟨Or.inl ⟨rfl, rfl⟩, by decide +kernel, by decide +kernel, rfl, rfl, rfl, rfl, fun k hk => no hk, rfl, rfl, fun i hi => no hi, by omega, by omega, by omega⟩
  · exact ⟨⟨0, fun _ => (0, 0, 0, 0), ⟨by decide +kernel, fun j hj => no hj⟩, ⟨by decide +kernel, fun j hj => no hj⟩, by omega⟩, ⟨30, 31, by decide +kernel, by decide +kernel, Or.inl ⟨rfl, rfl⟩⟩, ⟨58, 59, by decide +kernel, by decide +kernel, Or.inl ⟨rfl, rfl⟩⟩⟩
  · exact ⟨fun _ _ => rfl, fun _ _ => rfl⟩
  · exact ⟨by omega, rfl, rfl, fun s hs => no hs⟩
  · exact ⟨by omega, rfl, rfl, fun s hs => no hs, fun s hs => no hs⟩
  · exact ⟨rfl, rfl, rfl, fun _ _ => rfl, fun _ _ _ => rfl, fun c _ => ⟨rfl, rfl, rfl, 0, by omega, by omega, rfl⟩, fun _ _ _ => ⟨rfl, rfl⟩⟩
  · exact ⟨by omega, rfl, rfl, rfl, by decide, fun i _ => by rw [Nat.zero_testBit]; exact (bI_f (by decide)).symm, fun i hi => no hi, fun i hi => no hi, by omega⟩
  · exact ⟨by omega, fun g _ => ⟨rfl, rfl, rfl, rfl, rfl, rfl⟩, fun g _ => ⟨Or.inl rfl, (by decide : (0 : Int) ≤ 0 ∧ (0 : Int) ≤ 31), (by decide : (0 : Int) ≤ 0 ∧ (0 : Int) ≤ 63), fun _ => rfl⟩⟩
  · exact ⟨by omega, by decide, by decide, rfl, rfl, rfl, rfl, fun c _ => ⟨rfl, rfl, (by decide : (-1 : Int) ≤ 0), (by decide : (0 : Int) ≤ 999)⟩⟩
section PR
variable {F n L : Nat} {σ : St} {xs : Nat → Int32} {v3 : Int32}
theorem lw_b (h : RS n σ) (hF : 200000 ≤ F) (c0 : ∀ x : Option Int32, ck v3 L x = x) (c1 : ∀ x : Option Int32, ck (v3 + 1) L x = x) (c2 : ∀ x : Option Int32, ck (v3 + 2) L x = x) (c3 : ∀ x : Option Int32, ck (v3 + 3) L x = x) (c4 : ∀ x : Option Int32, ck (v3 + 4) L x = x) (c5 : ∀ x : Option Int32, ck (v3 + 5) L x = x) (c6 : ∀ x : Option Int32, ck (v3 + 6) L x = x) (c7 : ∀ x : Option Int32, ck (v3 + 7) L x = x) {k18 : Nat → St → Int32 → Option Int32} (hk : ∀ n σ, RS n σ → k18 n σ (v3 + 8) = some 1) (hc : ¬ nI L - 8 < v3) : f_law_b F xs L k18 n σ v3 = some 1 := by
  unfold f_law_b
  rw [if_n hc, c0]
  generalize xs v3.toNatClampNeg &&& 63 = y
  by_cases e0 : y = 0
  · rw [if_p e0]
    exact lw_0 h hF c1 c2 c3 c4 c5 c6 c7 hk
  rw [if_n e0]
  by_cases e1 : y = 1
  · rw [if_p e1]
    exact lw_1 h hF c1 c2 c3 c4 c5 c6 c7 hk
  rw [if_n e1]
  by_cases e2 : y = 2
  · rw [if_p e2]
    exact lw_2 h hF c1 c2 c3 c4 c5 c6 c7 hk
  rw [if_n e2]
  by_cases e3 : y = 3
  · rw [if_p e3]
    exact lw_3 h hF c1 c2 c3 c4 c5 c6 c7 hk
  rw [if_n e3]
  by_cases e4 : y = 4
  · rw [if_p e4]
    exact lw_4 h hF c1 c2 c3 c4 c5 c6 c7 hk
  rw [if_n e4]
  by_cases e5 : y = 5
  · rw [if_p e5]
    exact lw_5 h hF c1 c2 c3 c4 c5 c6 c7 hk
  rw [if_n e5]
  by_cases e6 : y = 6
  · rw [if_p e6]
    exact lw_6 h hF c1 c2 c3 c4 c5 c6 c7 hk
  rw [if_n e6]
  by_cases e7 : y = 7
  · rw [if_p e7]
    exact lw_7 h hF c1 c2 c3 c4 c5 c6 c7 hk
  rw [if_n e7]
  by_cases e8 : y = 8
  · rw [if_p e8]
    exact lw_8 h hF c1 c2 c3 c4 c5 c6 c7 hk
  rw [if_n e8]
  by_cases e9 : y = 9
  · rw [if_p e9]
    exact lw_9 h hF c1 c2 c3 c4 c5 c6 c7 hk
  rw [if_n e9]
  by_cases e10 : y = 10
  · rw [if_p e10]
    exact lw_10 h hF c1 c2 c3 c4 c5 c6 c7 hk
  rw [if_n e10]
  by_cases e11 : y = 11
  · rw [if_p e11]
    exact lw_11 h hF c1 c2 c3 c4 c5 c6 c7 hk
  rw [if_n e11]
  by_cases e12 : y = 12
  · rw [if_p e12]
    exact lw_12 h hF c1 c2 c3 c4 c5 c6 c7 hk
  rw [if_n e12]
  by_cases e13 : y = 13
  · rw [if_p e13]
    exact lw_13 h hF c1 c2 c3 c4 c5 c6 c7 hk
  rw [if_n e13]
  by_cases e14 : y = 14
  · rw [if_p e14]
    exact lw_14 h hF c1 c2 c3 c4 c5 c6 c7 hk
  rw [if_n e14]
  by_cases e15 : y = 15
  · rw [if_p e15]
    exact lw_15 h hF c1 c2 c3 c4 c5 c6 c7 hk
  rw [if_n e15]
  by_cases e16 : y = 16
  · rw [if_p e16]
    exact lw_16 h hF c1 c2 c3 c4 c5 c6 c7 hk
  rw [if_n e16]
  by_cases e17 : y = 17
  · rw [if_p e17]
    exact lw_17 h hF c1 c2 c3 c4 c5 c6 c7 hk
  rw [if_n e17]
  by_cases e18 : y = 18
  · rw [if_p e18]
    exact lw_18 h hF c1 c2 c3 c4 c5 c6 c7 hk
  rw [if_n e18]
  by_cases e19 : y = 19
  · rw [if_p e19]
    exact lw_19 h hF c1 c2 c3 c4 c5 c6 c7 hk
  rw [if_n e19]
  by_cases e20 : y = 20
  · rw [if_p e20]
    exact lw_20 h hF c1 c2 c3 c4 c5 c6 c7 hk
  rw [if_n e20]
  by_cases e21 : y = 21
  · rw [if_p e21]
    exact lw_21 h hF c1 c2 c3 c4 c5 c6 c7 hk
  rw [if_n e21]
  by_cases e22 : y = 22
  · rw [if_p e22]
    exact lw_22 h hF c1 c2 c3 c4 c5 c6 c7 hk
  rw [if_n e22]
  by_cases e23 : y = 23
  · rw [if_p e23]
    exact lw_23 h hF c1 c2 c3 c4 c5 c6 c7 hk
  rw [if_n e23]
  by_cases e24 : y = 24
  · rw [if_p e24]
    exact lw_24 h hF c1 c2 c3 c4 c5 c6 c7 hk
  rw [if_n e24]
  by_cases e25 : y = 25
  · rw [if_p e25]
    exact lw_25 h hF c1 c2 c3 c4 c5 c6 c7 hk
  rw [if_n e25]
  by_cases e26 : y = 26
  · rw [if_p e26]
    exact lw_26 h hF c1 c2 c3 c4 c5 c6 c7 hk
  rw [if_n e26]
  by_cases e27 : y = 27
  · rw [if_p e27]
    exact lw_27 h hF c1 c2 c3 c4 c5 c6 c7 hk
  rw [if_n e27]
  by_cases e28 : y = 28
  · rw [if_p e28]
    exact lw_28 h hF c1 c2 c3 c4 c5 c6 c7 hk
  rw [if_n e28]
  by_cases e29 : y = 29
  · rw [if_p e29]
    exact lw_29 h hF c1 c2 c3 c4 c5 c6 c7 hk
  rw [if_n e29]
  by_cases e30 : y = 30
  · rw [if_p e30]
    exact lw_30 h hF c1 c2 c3 c4 c5 c6 c7 hk
  rw [if_n e30]
  by_cases e31 : y = 31
  · rw [if_p e31]
    exact lw_31 h hF c1 c2 c3 c4 c5 c6 c7 hk
  rw [if_n e31]
  by_cases e32 : y = 32
  · rw [if_p e32]
    exact lw_32 h hF c1 c2 c3 c4 c5 c6 c7 hk
  rw [if_n e32]
  by_cases e33 : y = 33
  · rw [if_p e33]
    exact lw_33 h hF c1 c2 c3 c4 c5 c6 c7 hk
  rw [if_n e33]
  by_cases e34 : y = 34
  · rw [if_p e34]
    exact lw_34 h hF c1 c2 c3 c4 c5 c6 c7 hk
  rw [if_n e34]
  exact hk n σ h
theorem ckv {k j : Nat} (hv : v3 = nI (8 * k)) (hk : 8 * k + 8 ≤ L) (hL : L ≤ 4096) (hj : j < 8) (x : Option Int32) : ck (v3 + iI (j : Int)) L x = x := by
  rw [hv, iI_nI, iI_add]
  exact ck_iI (by omega) (by omega) (by omega)
theorem law_pure (hL : L ≤ 4096) (hF : 200000 ≤ F) : ∀ (m k : Nat), 8 * k + m = 4096 → ∀ fu, m < fu → ∀ n σ, RS n σ → f_law F xs L fu n σ (nI (8 * k)) = some 1 := by
  intro m
  induction m using Nat.strongRecOn with
  | ind m ih =>
    intro k hk fu hfu n σ h
    obtain ⟨fu, rfl⟩ : ∃ f, fu = f + 1 := ⟨fu - 1, by omega⟩
    show f_law_b F xs L (f_law F xs L fu) n σ (nI (8 * k)) = some 1
    by_cases hc : nI L - 8 < nI (8 * k)
    · unfold f_law_b
      rw [if_p hc]
    · have h8 := lawc hL (v := nI (8 * k)) rfl (by omega) hc
      have cc : ∀ j : Nat, j < 8 → ∀ x : Option Int32, ck (nI (8 * k) + iI (j : Int)) L x = x := fun j hj x => ckv rfl h8 hL hj x
      have c0 : ∀ x : Option Int32, ck (nI (8 * k)) L x = x := fun x => by
        have this : ck (nI (8 * k) + iI 0) L x = x := cc 0 (by omega) x
        rw [add_0] at this
        exact this
      refine lw_b h hF c0 (cc 1 (by omega)) (cc 2 (by omega)) (cc 3 (by omega)) (cc 4 (by omega)) (cc 5 (by omega)) (cc 6 (by omega)) (cc 7 (by omega)) (fun n' σ' h' => ?_) hc
      rw [lawv (k := k) rfl rfl]
      exact ih (m - 8) (by omega) (k + 1) (by omega) fu (by omega) n' σ' h'
theorem law_one (hL : L ≤ 4096) : ∃ F fu : Nat, f_law F xs L fu 174 sig0 0 = some 1 := ⟨200000, 5000, law_pure (F := 200000) hL (Nat.le_refl _) 4096 0 (by omega) 5000 (by omega) 174 sig0 RS_0⟩
end PR
