/-! a text is read -/
theorem nI_all (x : Int32) : ∃ n, x = nI n := ⟨x.toBitVec.toNat, by
  unfold nI
  apply Int32.toBitVec_inj.mp
  simp⟩
theorem kd_c (x : Int32) (M : Mem) : f_X0_kindOf x M = if x = 116 then some 0 else if x = 119 then some 1 else if x = 101 then some 2 else if x = 115 then some 3 else if x = 102 then some 4 else if x = 100 then some 5 else some (-1) := by
  unfold f_X0_kindOf
  obtain ⟨fu, hfu, hf2⟩ := FUx
  rw [← hfu]
  obtain ⟨f, rfl⟩ : ∃ f, fu = f + 7 := ⟨fu - 7, by omega⟩
  have st : ∀ (n j : Nat) (y : Int32), j < 6 → lett j = y → f_X0_kindOf_L2 x M (n + 1) (nI j) = if y = x then some (nI j) else f_X0_kindOf_L2 x M n (nI (j + 1)) := by
    intro n j y hj hy
    rw [f_X0_kindOf_L2, show (6 : Int32) = nI 6 from rfl, iteLe (by omega) (by omega), if_neg (by omega), grd_t (inb_t hj (by omega)), ixn (by omega), hy, show nI j + 1 = nI (j + 1) from nI_1 j]
  have en : ∀ n, f_X0_kindOf_L2 x M (n + 1) (nI 6) = some (-1) := by
    intro n
    rw [f_X0_kindOf_L2, show (6 : Int32) = nI 6 from rfl, iteLe (by omega) (by omega), if_pos (by omega)]
  refine at0 (fun z => f_X0_kindOf_L2 x M (f + 7) z) ?_
  rw [st (f + 6) 0 116 (by omega) rfl, st (f + 5) 1 119 (by omega) rfl, st (f + 4) 2 101 (by omega) rfl, st (f + 3) 3 115 (by omega) rfl, st (f + 2) 4 102 (by omega) rfl, st (f + 1) 5 100 (by omega) rfl, en f]
  simp only [eq_comm (b := x)]
  rfl
theorem kd_m (x : Int32) (M : Mem) : f_X2_kindBy x M = if x = 116 then some 0 else if x = 119 then some 1 else if x = 101 then some 2 else if x = 115 then some 3 else if x = 102 then some 4 else if x = 100 then some 5 else some (-1) := by
  unfold f_X2_kindBy
  by_cases e1 : x = 116
  · subst e1; rfl
  · by_cases e2 : x = 119
    · subst e2; rfl
    · by_cases e3 : x = 101
      · subst e3; rfl
      · by_cases e4 : x = 115
        · subst e4; rfl
        · by_cases e5 : x = 102
          · subst e5; rfl
          · by_cases e6 : x = 100
            · subst e6; rfl
            · simp only [e1, e2, e3, e4, e5, e6, if_false, ite_self]
theorem kd_or (x : Int32) (M M2 : Mem) : (∃ κ, κ ≤ 5 ∧ f_X0_kindOf x M = some (nI κ) ∧ f_X2_kindBy x M2 = some (nI κ)) ∨ (f_X0_kindOf x M = some (-1) ∧ f_X2_kindBy x M2 = some (-1)) := by
  rw [kd_c, kd_m]
  repeat' split
  · exact Or.inl ⟨0, by omega, rfl, rfl⟩
  · exact Or.inl ⟨1, by omega, rfl, rfl⟩
  · exact Or.inl ⟨2, by omega, rfl, rfl⟩
  · exact Or.inl ⟨3, by omega, rfl, rfl⟩
  · exact Or.inl ⟨4, by omega, rfl, rfl⟩
  · exact Or.inl ⟨5, by omega, rfl, rfl⟩
  · exact Or.inr ⟨rfl, rfl⟩
def Rd (Mc0 Mm0 Nc Nm : Mem) (k : Nat) : Prop := Nc.2 = Mc0.2 ∧ (∀ a, (a < 22 ∨ 28 < a) → Nc.1 a = Mc0.1 a) ∧ Nm.2 = Mm0.2 ∧ (∀ a, 1 ≤ a → a ≤ 13 → Nm.1 a = Mm0.1 a) ∧ (∀ j, j ≠ 19 → Nm.1 0 j = Mm0.1 0 j)
def RdK (Nc Nm : Mem) (k : Nat) : Prop := Nc.1 22 6 = nI k ∧ Nm.1 0 19 = nI k ∧ ∀ j, j < k → ∃ κ l μ, κ ≤ 5 ∧ 2 ≤ l ∧ l ≤ 9 ∧ μ ≤ 9 ∧ Nc.1 23 j = nI κ ∧ Nc.1 24 j = nI l ∧ Nc.1 25 j = nI μ ∧ Nm.1 14 j = nI κ ∧ Nm.1 15 j = nI l ∧ Nm.1 16 j = nI μ
def RdQ (Mc0 Mm0 : Mem) (A B : Option (Int32 × Mem)) : Prop := ∃ r P1 P2, A = some (r, P1) ∧ B = some (r, P2) ∧ Rd Mc0 Mm0 P1 P2 0 ∧ (r = -9 → ∃ k, 2 ≤ k ∧ k ≤ 7 ∧ RdK P1 P2 k)
theorem ne9 {n : Nat} (hn : n < 2147483648) : ¬ nI n = -9 := by
  intro q
  have := nI_pos hn
  rw [q] at this
  exact this (by decide)
/-- a figure at a place: good, or not -/
theorem fig_or (x : Int32) (a : Nat) (ha : 48 ≤ a) (hb : a ≤ 57) (M : Mem) : (∃ l, a ≤ l + 48 ∧ l ≤ 9 ∧ x - 48 = nI l ∧ ¬ x < nI a ∧ ¬ (57 : Int32) < x ∧ f_X2_in x (nI a) 57 M = some 1) ∨ ((x < nI a ∨ (57 : Int32) < x) ∧ f_X2_in x (nI a) 57 M = some 0) := by
  by_cases h1 : x < nI a
  · exact Or.inr ⟨Or.inl h1, (inNo (Or.inl h1)).1⟩
  · by_cases h2 : (57 : Int32) < x
    · exact Or.inr ⟨Or.inr h2, (inNo (Or.inr h2)).1⟩
    · left
      have h0 : ¬ x < 0 := fun q => h1 (Int32.lt_of_lt_of_le q (nI_pos' (by omega)))
      obtain ⟨n, hn, rfl⟩ := nI_of h0
      have g1 : a ≤ n := Nat.le_of_not_lt (fun q => h1 (nI_lt q (by omega)))
      have g2 : n ≤ 57 := Nat.le_of_not_lt (fun q => h2 (show nI 57 < nI n from nI_lt q hn))
      exact ⟨n - 48, by omega, by omega, show nI n - nI 48 = _ from subN (by omega), h1, h2, (inY h1 h2).1⟩
