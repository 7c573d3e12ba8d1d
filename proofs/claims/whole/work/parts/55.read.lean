/-! what is told -/
def BothR {α : Type} (A B : Option α) : Prop := ∃ r : α, A = some r ∧ B = some r
theorem tt_asked {Mc Mm : Mem} (h0 : Sim Mc Mm) : BothR (f_X1_asked Mc) (f_X2_asked Mm) := by
  obtain ⟨c, ds, d, h⟩ := id h0
  exact ⟨_, rfl, congrArg some h.2.2.2.2.2.1.symm⟩
theorem tt_upper {Mc Mm : Mem} (h0 : Sim Mc Mm) : BothR (f_X1_upper Mc) (f_X2_upper Mm) := by
  obtain ⟨c, ds, d, h⟩ := id h0
  exact ⟨_, rfl, congrArg some h.2.2.2.2.2.2.1.symm⟩
theorem tt_lower {Mc Mm : Mem} (h0 : Sim Mc Mm) : BothR (f_X1_lower Mc) (f_X2_lower Mm) := by
  obtain ⟨c, ds, d, h⟩ := id h0
  exact ⟨_, rfl, congrArg some h.2.2.2.2.2.2.2.symm⟩
theorem tt_finding {Mc Mm : Mem} (h0 : Sim Mc Mm) : BothR (f_X1_finding Mc) (f_X2_finding Mm) := by
  obtain ⟨c, ds, d, h⟩ := id h0
  exact ⟨_, rfl, congrArg some h.2.2.2.2.1.2.symm⟩
/-- an int: one of a .. b, or none of them -/
theorem in_rng (x : Int32) (a b : Nat) (ha : a < 2147483648) (hb : b < 2147483648) (Mc Mm : Mem) : (∃ i, a ≤ i ∧ i ≤ b ∧ x = nI i ∧ f_X1_isWithin x (nI a) (nI b) Mc = some 1 ∧ f_X2_in x (nI a) (nI b) Mm = some 1) ∨ (f_X1_isWithin x (nI a) (nI b) Mc = some 0 ∧ f_X2_in x (nI a) (nI b) Mm = some 0) := by
  by_cases h0 : x < 0
  · have w : x < nI a := Int32.lt_of_lt_of_le h0 (nI_pos' ha)
    exact Or.inr ⟨(inNo (Or.inl w)).2, (inNo (Or.inl w)).1⟩
  · obtain ⟨j, hj, rfl⟩ := nI_of h0
    by_cases e : a ≤ j
    · by_cases e2 : j ≤ b
      · exact Or.inl ⟨j, e, e2, rfl, (inY (nI_nlt e hj) (nI_nlt e2 hb)).2, (inY (nI_nlt e hj) (nI_nlt e2 hb)).1⟩
      · have w : nI b < nI j := nI_lt (by omega) hj
        exact Or.inr ⟨(inNo (Or.inr w)).2, (inNo (Or.inr w)).1⟩
    · have w : nI j < nI a := nI_lt (by omega) ha
      exact Or.inr ⟨(inNo (Or.inl w)).2, (inNo (Or.inl w)).1⟩
theorem tt_findings {Mc Mm : Mem} (h0 : Sim Mc Mm) (x : Int32) : BothR (f_X1_findings x Mc) (f_X2_findings x Mm) := by
  obtain ⟨c, ds, d, h⟩ := id h0
  unfold f_X1_findings f_X2_findings
  rcases in_rng x 1 5 (by omega) (by omega) Mc Mm with ⟨i, h1, h2, rfl, e1, e2⟩ | ⟨e1, e2⟩
  · rw [show f_X1_isWithin (nI i) 1 5 Mc = some 1 from e1, show f_X2_in (nI i) 1 5 Mm = some 1 from e2, bR_s, bR_s, if10, if10, grd_t (inb_t (show i < 6 by omega) (by omega)), grd_t (inb_t (show i < 6 by omega) (by omega)), ixn (by omega), h.2.2.2.2.1.1 i h1 h2]
    exact ⟨_, rfl, rfl⟩
  · rw [show f_X1_isWithin x 1 5 Mc = some 0 from e1, show f_X2_in x 1 5 Mm = some 0 from e2, bR_s, bR_s, if00, if00]
    exact ⟨_, rfl, rfl⟩
def prI (A : Nat → Int32) : Nat → Int32
  | 0 => 0
  | j + 1 => if A j = -1 then prI A j else prI A j + 1
theorem prI_c {A B : Nat → Int32} : ∀ {n : Nat}, (∀ j, j < n → A j = B j) → prI A n = prI B n
  | 0, _ => rfl
  | n + 1, h => by rw [prI, prI, prI_c (n := n) (fun j hj => h j (by omega)), h n (by omega)]
theorem nI_nm {n : Nat} (hn : n < 2147483648) : ¬ nI n = -1 := by
  intro q
  have := nI_pos hn
  rw [q] at this
  exact this (by decide)
theorem c_presL (k0 : Nat) {n0 : Nat} (M : Mem) (hn : n0 ≤ 6) : ∀ (n j : Nat), j ≤ n0 → n0 - j < n → f_X1_present_L10 k0 n0 (nI n0) M n (prI (M.1 k0) j) (nI j) = some (prI (M.1 k0) n0)
  | 0, j, _, h => by omega
  | n + 1, j, hj, h => by
    rw [f_X1_present_L10, iteLe (by omega) (by omega)]
    by_cases e : n0 ≤ j
    · rw [if_pos e, show j = n0 by omega]
    · rw [if_neg e, grd_t (inb_t (by omega) (by omega)), ixn (by omega), show nI j + 1 = nI (j + 1) from nI_1 j]
      simp only [jn]
      have ih := c_presL k0 M hn n (j + 1) (by omega) (by omega)
      rw [prI] at ih
      by_cases g : M.1 k0 j = -1
      · rw [if_pos g] at ih ⊢; exact ih
      · rw [if_neg g] at ih ⊢; exact ih
theorem c_pres (k0 : Nat) {n0 : Nat} (M : Mem) (hn : n0 ≤ 6) : f_X1_present k0 n0 M = some (prI (M.1 k0) n0) := by
  unfold f_X1_present
  obtain ⟨fu, hfu, hf2⟩ := FUx
  rw [← hfu]
  exact at0 (fun x => f_X1_present_L10 k0 n0 (nI n0) M fu 0 x) (c_presL k0 M hn fu 0 (by omega) (by omega))
theorem m_presL (k0 : Nat) {n0 : Nat} (M : Mem) (hn : n0 ≤ 6) (hs : ∀ j, j < n0 → M.1 k0 j = -1 ∨ ∃ e, e ≤ 60 ∧ M.1 k0 j = nI e) : ∀ (n j : Nat), j ≤ n0 → n0 - j < n → f_X2_there_L4 k0 n0 M n (prI (M.1 k0) j) (nI j) = some (prI (M.1 k0) n0)
  | 0, j, _, h => by omega
  | n + 1, j, hj, h => by
    rw [f_X2_there_L4, iteLe (by omega) (by omega)]
    by_cases e : n0 ≤ j
    · rw [if_pos e, show j = n0 by omega]
    · rw [if_neg e, grd_t (inb_t (by omega) (by omega)), ixn (by omega), show nI j + 1 = nI (j + 1) from nI_1 j]
      simp only [jn]
      have ih := m_presL k0 M hn hs n (j + 1) (by omega) (by omega)
      rw [prI] at ih
      rcases hs j (by omega) with g | ⟨q, hq, g⟩
      · rw [if_pos g] at ih
        rw [g, if_neg (show ¬ (0 : Int32) ≤ -1 by decide), show prI (M.1 k0) j + 0 = prI (M.1 k0) j from Int32.add_zero _]
        exact ih
      · rw [if_neg (by rw [g]; exact nI_nm (by omega))] at ih
        rw [g, if_pos (nI_pos' (by omega))]; exact ih
theorem m_pres (k0 : Nat) {n0 : Nat} (M : Mem) (hn : n0 ≤ 6) (hs : ∀ j, j < n0 → M.1 k0 j = -1 ∨ ∃ e, e ≤ 60 ∧ M.1 k0 j = nI e) : f_X2_there k0 n0 M = some (prI (M.1 k0) n0) := by
  unfold f_X2_there
  obtain ⟨fu, hfu, hf2⟩ := FUx
  rw [← hfu]
  exact at0 (fun x => f_X2_there_L4 k0 n0 M fu 0 x) (m_presL k0 M hn hs fu 0 (by omega) (by omega))
theorem m_keptL {A : Nat → Int32} (M : Mem) (hs : ∀ j, j < 3 → (M.1 12 j = 0 ↔ A j = -1)) : ∀ (n j : Nat), j ≤ 3 → 3 - j < n → f_X2_keptMany_L4 M n (prI A j) (nI j) = some (prI A 3)
  | 0, j, _, h => by omega
  | n + 1, j, hj, h => by
    rw [f_X2_keptMany_L4, show (3 : Int32) = nI 3 from rfl, iteLe (by omega) (by omega)]
    by_cases e : 3 ≤ j
    · rw [if_pos e, show j = 3 by omega]
    · rw [if_neg e, grd_t (inb_t (by omega) (by omega)), ixn (by omega), show nI j + 1 = nI (j + 1) from nI_1 j]
      simp only [jn]
      have ih := m_keptL M hs n (j + 1) (by omega) (by omega)
      rw [prI] at ih
      by_cases g : A j = -1
      · rw [if_pos g] at ih
        rw [if_pos ((hs j (by omega)).mpr g), show prI A j + 0 = prI A j from Int32.add_zero _]
        exact ih
      · rw [if_neg g] at ih
        rw [if_neg (fun q => g ((hs j (by omega)).mp q))]; exact ih
theorem m_kept {A : Nat → Int32} (M : Mem) (hs : ∀ j, j < 3 → (M.1 12 j = 0 ↔ A j = -1)) : f_X2_keptMany M = some (prI A 3) := by
  unfold f_X2_keptMany
  obtain ⟨fu, hfu, hf2⟩ := FUx
  rw [← hfu]
  exact at0 (fun x => f_X2_keptMany_L4 M fu 0 x) (m_keptL M hs fu 0 (by omega) (by omega))
theorem kept_iff {Mc Mm : Mem} {c : Cfg} (h : SKp Mc Mm c) : ∀ j, j < 3 → (Mm.1 12 j = 0 ↔ Mc.1 34 j = -1) := by
  intro j hj
  rcases h j hj with ⟨a, b⟩ | ⟨e, ks, h1, h2, h3, h4, h5, h6, h7, h8⟩
  · exact ⟨fun _ => a, fun _ => b⟩
  · exact ⟨fun q => absurd (h5.symm.trans q) one_ne, fun q => absurd (h3.symm.trans q) (nI_nm (by omega))⟩
/-- the counts are the same ones -/
theorem tt_cnt {Mc Mm : Mem} {c : Cfg} {ds : Nat → Nat} {d : Nat} (h : SimX c ds d Mc Mm) {w : Nat} (hw : w ≤ 10) : BothR (f_X1_countOf (nI w) Mc) (f_X2_count (nI w) Mm) := by
  obtain ⟨hc, h40, a3, a4, a5, a6, a7, a8, a9⟩ := id h.1
  have e6 : f_X2_there 1 6 Mm = f_X1_present 8 6 Mc := by
    rw [c_pres 8 Mc (by omega), m_pres 1 Mm (by omega) (fun j hj => ?_), prI_c (n := 6) (fun j hj => (h.2.2.1 j hj).1)]
    obtain ⟨s1, s2, -⟩ := h.2.2.1 j hj
    rw [← s1]
    rcases s2 with s | ⟨n, hn, s⟩
    · exact Or.inl s
    · exact Or.inr ⟨n, by omega, s⟩
  have e7 : f_X2_there 3 4 Mm = f_X1_present 14 4 Mc := by
    rw [c_pres 14 Mc (by omega), m_pres 3 Mm (by omega) (fun j hj => ?_), prI_c (n := 4) (fun j hj => (h.2.2.2.1 j hj).1)]
    obtain ⟨s1, s2, -⟩ := h.2.2.2.1 j hj
    rw [← s1]; exact s2
  have e8 : f_X2_keptMany Mm = f_X1_present 34 3 Mc := by
    rw [c_pres 34 Mc (by omega), m_kept Mm (kept_iff h.2.1)]
  unfold f_X1_countOf f_X2_count
  rw [e6, e7, e8, c_pres 8 Mc (by omega), c_pres 14 Mc (by omega), c_pres 34 Mc (by omega), cs_pulses a4 hc, ms_pulses a7 hc h.okS, cs_slots a4 hc, ms_slots a7 hc, cs_emptyOnes a4 hc h.okS, ms_empties a7 hc h.okS, show f_X0_manyOf 15 1 Mc = _ from cs_manyOf (a := 1) a4 hc (by omega), show f_X0_manyOf 15 2 Mc = _ from cs_manyOf (a := 2) a4 hc (by omega), show f_X2_those 1 Mm = _ from ms_those (a := 1) a7 hc (by omega), show f_X2_those 2 Mm = _ from ms_those (a := 2) a7 hc (by omega), a4.1, a4.2.1, a5, a7.1, g15, ix0, a7.2.1, a8]
  simp only [bR_s]
  rcases (show w = 0 ∨ w = 1 ∨ w = 2 ∨ w = 3 ∨ w = 4 ∨ w = 5 ∨ w = 6 ∨ w = 7 ∨ w = 8 ∨ w = 9 ∨ w = 10 by omega) with rfl | rfl | rfl | rfl | rfl | rfl | rfl | rfl | rfl | rfl | rfl <;> exact ⟨_, rfl, rfl⟩
theorem tt_count {Mc Mm : Mem} (h0 : Sim Mc Mm) (x : Int32) : BothR (f_X1_count x Mc) (f_X2_count x Mm) := by
  obtain ⟨c, ds, d, h⟩ := id h0
  unfold f_X1_count
  rcases in_rng x 0 10 (by omega) (by omega) Mc Mm with ⟨i, h1, h2, rfl, e1, e2⟩ | ⟨e1, e2⟩
  · rw [show f_X1_isWithin (nI i) 0 10 Mc = some 1 from e1, bR_s, if10]
    obtain ⟨r, q1, q2⟩ := tt_cnt h h2
    rw [q1, q2, bR_s]
    exact ⟨_, rfl, rfl⟩
  · rw [show f_X1_isWithin x 0 10 Mc = some 0 from e1, bR_s, if00]
    refine ⟨_, rfl, ?_⟩
    have z : ∀ i, i ≤ 10 → ¬ x = nI i := by
      intro i hi q
      rw [q, show f_X1_isWithin (nI i) (nI 0) (nI 10) Mc = some 1 from (inY (nI_pos (by omega)) (nI_nlt hi (by omega))).2] at e1
      exact one_ne (Option.some.inj e1)
    unfold f_X2_count
    rw [if_neg (show ¬ x = 0 from z 0 (by omega)), if_neg (show ¬ x = 1 from z 1 (by omega)), if_neg (show ¬ x = 2 from z 2 (by omega)), if_neg (show ¬ x = 3 from z 3 (by omega)), if_neg (show ¬ x = 4 from z 4 (by omega)), if_neg (show ¬ x = 5 from z 5 (by omega)), if_neg (show ¬ x = 6 from z 6 (by omega)), if_neg (show ¬ x = 7 from z 7 (by omega)), if_neg (show ¬ x = 8 from z 8 (by omega)), if_neg (show ¬ x = 9 from z 9 (by omega)), if_neg (show ¬ x = 10 from z 10 (by omega))]
