/-! rows and texts -/
theorem sI_comm {M : Mem} {k k' i i' : Nat} {v v' : Int32} (h : k ≠ k') : sI (sI M k i v) k' i' v' = sI (sI M k' i' v') k i v := by
  refine Prod.ext (funext fun a => ?_) rfl
  by_cases q1 : a = k
  · rw [q1, sI_n _ _ _ _ h, sI_1, sI_1, sI_n _ _ _ _ h]
  · by_cases q2 : a = k'
    · rw [q2, sI_1, sI_n _ _ _ _ (Ne.symm h), sI_n _ _ _ _ (Ne.symm h), sI_1]
    · rw [sI_n _ _ _ _ q2, sI_n _ _ _ _ q1, sI_n _ _ _ _ q1, sI_n _ _ _ _ q2]
theorem both_bad {Mc Mm : Mem} (h : Sim Mc Mm) (r : Int32) : Both (some (r, Mc)) (some (r, Mm)) := ⟨r, Mc, Mm, rfl, rfl, h⟩
theorem both_ref {Mc Mm : Mem} {c : Cfg} {ds : Nat → Nat} {d : Nat} (h : SimX c ds d Mc Mm) {f : Nat} (h1 : 1 ≤ f) (h5 : f ≤ 5) : Both (bI (f_X1_refuse (nI f) Mc) fun r M => some (r, M)) (bI (f_X2_found (nI f) Mm) fun r M => some (r, M)) := by
  obtain ⟨Mc', Mm', e1, e2, e3⟩ := h.refuse h1 h5
  rw [e1, e2, bI_s, bI_s]
  exact ⟨_, _, _, rfl, rfl, c, ds, d, e3⟩
theorem both_told {Mc Mm : Mem} {c : Cfg} {ds : Nat → Nat} {d : Nat} (h : SimX c ds d Mc Mm) (v r : Int32) : Both (lt (sI Mc 0 13 v) fun M => some (r, M)) (bI (f_X2_tells v r Mm) fun r M => some (r, M)) := ⟨r, _, _, rfl, rfl, c, ds, d, h.told v⟩
theorem SimX.rows {Mc Mm Mc' Mm' : Mem} {c : Cfg} {ds : Nat → Nat} {d : Nat} (h : SimX c ds d Mc Mm) (c2 : Mc'.2 = Mc.2) (hc : ∀ a, ¬ (2 ≤ a ∧ a ≤ 8) → Mc'.1 a = Mc.1 a) (m2 : Mm'.2 = Mm.2) (hm : ∀ a, a ≠ 1 → a ≠ 2 → Mm'.1 a = Mm.1 a) (hr : SRw Mc' Mm') : SimX c ds d Mc' Mm' := by
  obtain ⟨a1, a2, a3, a4, a5, a6⟩ := h
  have e0 := hc 0 (by omega)
  have m0 := hm 0 (by omega) (by omega)
  exact ⟨a1.cg (by rw [e0]) (fun a q1 q2 => hc a (by omega)) (hc 29 (by omega)) (by rw [m0]) (by rw [m0]) (fun a q1 q2 => hm a (by omega) (by omega)) (hm 10 (by omega) (by omega)), a2.cg (fun a q1 q2 => hc a (by omega)) (hm 11 (by omega) (by omega)) (hm 12 (by omega) (by omega)), hr, a4.cg (fun a q1 q2 => hc a (by omega)) (hm 3 (by omega) (by omega)) (hm 4 (by omega) (by omega)), a5.cg (hc 42 (by omega)) (by rw [e0]) (hm 13 (by omega) (by omega)) (by rw [m0]), a6.cg (by rw [e0]) c2 (by rw [m0]) m2⟩
theorem SimX.texts {Mc Mm Mc' Mm' : Mem} {c : Cfg} {ds : Nat → Nat} {d : Nat} (h : SimX c ds d Mc Mm) (c2 : Mc'.2 = Mc.2) (hc : ∀ a, ¬ (10 ≤ a ∧ a ≤ 14) → Mc'.1 a = Mc.1 a) (m2 : Mm'.2 = Mm.2) (hm : ∀ a, a ≠ 3 → a ≠ 4 → Mm'.1 a = Mm.1 a) (hr : STx Mc' Mm') : SimX c ds d Mc' Mm' := by
  obtain ⟨a1, a2, a3, a4, a5, a6⟩ := h
  have e0 := hc 0 (by omega)
  have m0 := hm 0 (by omega) (by omega)
  exact ⟨a1.cg (by rw [e0]) (fun a q1 q2 => hc a (by omega)) (hc 29 (by omega)) (by rw [m0]) (by rw [m0]) (fun a q1 q2 => hm a (by omega) (by omega)) (hm 10 (by omega) (by omega)), a2.cg (fun a q1 q2 => hc a (by omega)) (hm 11 (by omega) (by omega)) (hm 12 (by omega) (by omega)), a3.cg (fun a q1 q2 => hc a (by omega)) (hm 1 (by omega) (by omega)) (hm 2 (by omega) (by omega)), hr, a5.cg (hc 42 (by omega)) (by rw [e0]) (hm 13 (by omega) (by omega)) (by rw [m0]), a6.cg (by rw [e0]) c2 (by rw [m0]) m2⟩
theorem c_mkL {r n : Nat} (hr : r < 6) (hn : n ≤ 40) (K : Mem → Option Mem) : ∀ (f j : Nat) (M : Mem), j ≤ n → n - j < f → ∃ M', f_X1_makeRow_L2 (nI r) (nI n) K f (nI j) M = K M' ∧ (∀ a, a ≠ 2 + r → M'.1 a = M.1 a) ∧ M'.2 = M.2 ∧ ∀ x, M'.1 (2 + r) x = if j ≤ x ∧ x < n then 0 else M.1 (2 + r) x
  | 0, j, M, _, h => by omega
  | f + 1, j, M, hj, hf => by
    rw [f_X1_makeRow_L2, iteLe (by omega) (by omega)]
    by_cases e : n ≤ j
    · rw [if_pos e]
      exact ⟨M, rfl, fun _ _ => rfl, rfl, fun x => by rw [if_neg (by omega)]⟩
    · rw [if_neg e, grd_t (inb_t (by omega) (by omega)), grd_t (inb_t (by omega) (by omega)), ixn (by omega), ixn (by omega), show nI j + 1 = nI (j + 1) from nI_1 j]
      obtain ⟨M', e1, e2, e3, e4⟩ := c_mkL hr hn K f (j + 1) (sI M (2 + r) j 0) (by omega) (by omega)
      refine ⟨M', e1, fun a ha => (e2 a ha).trans (sI_n _ _ _ _ ha), e3, fun x => ?_⟩
      rw [e4, sI_1]
      by_cases g : x = j
      · subst g; rw [if_neg (by omega), upd_same, if_pos (by omega)]
      · rw [upd_ne _ _ g]
        by_cases g2 : j + 1 ≤ x ∧ x < n
        · rw [if_pos g2, if_pos (by omega)]
        · rw [if_neg g2, if_neg (by omega)]
theorem m_mkL {r n : Nat} (hr : r < 6) (hn : n ≤ 40) : ∀ (f j : Nat) (M : Mem), j ≤ n → n - j < f → ∃ M', f_X2_makesRow_L9 (nI r) (nI n) f (nI j) M = some M' ∧ (∀ a, a ≠ 2 → M'.1 a = M.1 a) ∧ M'.2 = M.2 ∧ ∀ x, M'.1 2 x = if 40 * r + j ≤ x ∧ x < 40 * r + n then 0 else M.1 2 x
  | 0, j, M, _, h => by omega
  | f + 1, j, M, hj, hf => by
    rw [f_X2_makesRow_L9, iteLe (by omega) (by omega)]
    by_cases e : n ≤ j
    · rw [if_pos e]
      exact ⟨M, rfl, fun _ _ => rfl, rfl, fun x => by rw [if_neg (by omega)]⟩
    · rw [if_neg e, show (40 : Int32) * nI r = nI (40 * r) from mulN 40 r, addN, grd_t (inb_t (by omega) (by omega)), ixn (by omega), show nI j + 1 = nI (j + 1) from nI_1 j]
      obtain ⟨M', e1, e2, e3, e4⟩ := m_mkL hr hn f (j + 1) (sI M 2 (40 * r + j) 0) (by omega) (by omega)
      refine ⟨M', e1, fun a ha => (e2 a ha).trans (sI_n _ _ _ _ ha), e3, fun x => ?_⟩
      rw [e4, sI_1]
      by_cases g : x = 40 * r + j
      · subst g; rw [if_neg (by omega), upd_same, if_pos (by omega)]
      · rw [upd_ne _ _ g]
        by_cases g2 : 40 * r + (j + 1) ≤ x ∧ x < 40 * r + n
        · rw [if_pos g2, if_pos (by omega)]
        · rw [if_neg g2, if_neg (by omega)]
theorem tt_make {Mc Mm : Mem} {c : Cfg} {ds : Nat → Nat} {d r n : Nat} (h : SimX c ds d Mc Mm) (hr : r < 6) (hn : n ≤ 40) : ∃ Mc' Mm', f_X1_makeRow (nI r) (nI n) Mc = some Mc' ∧ f_X2_makesRow (nI r) (nI n) Mm = some Mm' ∧ SimX c ds d Mc' Mm' ∧ (∀ a, ¬ (2 ≤ a ∧ a ≤ 8) → Mc'.1 a = Mc.1 a) ∧ Mc'.2 = Mc.2 ∧ (∀ a, a ≠ 1 → a ≠ 2 → Mm'.1 a = Mm.1 a) ∧ Mm'.2 = Mm.2 ∧ Mc'.1 8 r = nI n := by
  unfold f_X1_makeRow f_X2_makesRow
  obtain ⟨fu, hfu, hf2⟩ := FUx
  rw [← hfu]
  simp only [jn, lt]
  rw [grd_t (inb_t (show r < 6 by omega) (by omega)), ixn (by omega)]
  obtain ⟨M1, e1, e2, e3, e4⟩ := c_mkL hr hn (fun M_22x => grd (inb (nI r) 6) (some (sI M_22x 8 r (nI n)))) fu 0 Mc (by omega) (by omega)
  obtain ⟨M2, g1, g2, g3, g4⟩ := m_mkL hr hn fu 0 (sI Mm 1 r (nI n)) (by omega) (by omega)
  refine ⟨sI M1 8 r (nI n), M2, (at0 (fun x => f_X1_makeRow_L2 (nI r) (nI n) (fun M_22x => grd (inb (nI r) 6) (some (sI M_22x 8 r (nI n)))) fu x Mc) e1).trans (grd_t (inb_t (by omega) (by omega))), at0 (fun x => f_X2_makesRow_L9 (nI r) (nI n) fu x (sI Mm 1 r (nI n))) g1, ?_, fun a ha => ?_, e3, fun a ha hb => ?_, g3, ?_⟩
  · refine h.rows e3 (fun a ha => by rw [sI_n _ _ _ _ (by omega), e2 a (by omega)]) g3 (fun a ha hb => by rw [g2 a hb, sI_n _ _ _ _ ha]) (fun q hq => ?_)
    obtain ⟨s1, s2, s3⟩ := h.2.2.1 q hq
    rw [sI_1, g2 1 (by omega), sI_1, e2 8 (by omega)]
    by_cases e : q = r
    · subst e
      rw [upd_same, upd_same]
      refine ⟨rfl, Or.inr ⟨n, hn, rfl⟩, fun i hi => ?_⟩
      rw [sI_n _ _ _ _ (by omega), e4, g4, sI_n _ _ _ _ (by omega)]
      by_cases g : i < n
      · rw [if_pos (by omega), if_pos (by omega)]
      · rw [if_neg (by omega), if_neg (by omega)]; exact s3 i hi
    · rw [upd_ne _ _ e, upd_ne _ _ e]
      refine ⟨s1, s2, fun i hi => ?_⟩
      rw [sI_n _ _ _ _ (by omega), e2 (2 + q) (by omega), g4, if_neg (by omega), sI_n _ _ _ _ (by omega)]
      exact s3 i hi
  · rw [sI_n _ _ _ _ (by omega), e2 a (by omega)]
  · rw [g2 a hb, sI_n _ _ _ _ ha]
  · rw [sI_1, upd_same]
/-- an int: below 0, or a natural one up to m, or beyond -/
theorem int_3 (x : Int32) (m : Nat) : x < 0 ∨ (∃ n, n ≤ m ∧ x = nI n) ∨ ∃ n, m < n ∧ n < 2147483648 ∧ x = nI n := by
  by_cases h0 : x < 0
  · exact Or.inl h0
  · obtain ⟨j, hj, rfl⟩ := nI_of h0
    by_cases e : j ≤ m
    · exact Or.inr (Or.inl ⟨j, e, rfl⟩)
    · exact Or.inr (Or.inr ⟨j, by omega, hj, rfl⟩)
theorem neg_nle {x : Int32} (h : x < 0) : ¬ (0 : Int32) ≤ x := fun q => Int32.lt_irrefl (Int32.lt_of_lt_of_le h q)
theorem neg_le {x : Int32} (h : x < 0) (m : Nat) (hm : m < 2147483648) : x ≤ nI m := Int32.le_of_lt (Int32.lt_of_lt_of_le h (nI_pos' hm))
theorem tt_row {Mc Mm : Mem} (h0 : Sim Mc Mm) (x y : Int32) : Both (f_X1_row x y Mc) (f_X2_row x y Mm) := by
  obtain ⟨c, ds, d, h⟩ := id h0
  unfold f_X1_row f_X2_row
  rcases isRow_or x Mc Mm with ⟨r, hr, rfl, e1, e2⟩ | ⟨e1, e2⟩
  · rw [e1, e2, bR_s, bR_s, if10, if10]
    rw [show (40 : Int32) = nI 40 from rfl]
    rcases int_3 y 40 with hy | ⟨n, hn, rfl⟩ | ⟨n, hn, hn2, rfl⟩
    · rw [if_pos (show y ≤ nI 40 from neg_le hy 40 (by omega)), if_neg (neg_nle hy), if_pos (show y ≤ nI 40 from neg_le hy 40 (by omega)), if_neg (neg_nle hy)]
      exact both_ref h (f := 5) (by omega) (by omega)
    · rw [if_pos (show nI n ≤ nI 40 from nI_le hn (by omega)), if_pos (nI_pos' (by omega)), if_pos (show nI n ≤ nI 40 from nI_le hn (by omega)), if_pos (nI_pos' (by omega))]
      obtain ⟨Mc', Mm', g1, g2, g3, -⟩ := tt_make h hr hn
      rw [g1, g2, bR_s, bR_s]
      exact both_bad ⟨c, ds, d, g3⟩ _
    · rw [if_neg (show ¬ nI n ≤ nI 40 from nI_ge hn (by omega)), if_neg (show ¬ nI n ≤ nI 40 from nI_ge hn (by omega))]
      exact both_bad h0 _
  · rw [e1, e2, bR_s, bR_s, if00, if00]
    exact both_bad h0 _
theorem look_or {Mc Mm : Mem} {c : Cfg} {ds : Nat → Nat} {d r : Nat} (h : SimX c ds d Mc Mm) (hr : r < 6) (y : Int32) : (∃ i n, i < n ∧ n ≤ 40 ∧ y = nI i ∧ Mc.1 8 r = nI n ∧ f_X1_lookForPlace y (Mc.1 8 r) Mc = some 0 ∧ f_X2_placeOf (nI r) y Mm = some 0) ∨ ∃ f, 1 ≤ f ∧ f ≤ 2 ∧ f_X1_lookForPlace y (Mc.1 8 r) Mc = some (nI f) ∧ f_X2_placeOf (nI r) y Mm = some (nI f) := by
  obtain ⟨s1, s2, s3⟩ := h.2.2.1 r hr
  unfold f_X1_lookForPlace f_X2_placeOf
  rw [grd_t (inb_t (by omega) (by omega)), ixn (by omega), ← s1]
  rcases s2 with s2 | ⟨n, hn, s2⟩
  · rw [s2, if_pos (show (-1 : Int32) = -1 from rfl), if_neg (show ¬ (0 : Int32) ≤ -1 by decide)]
    exact Or.inr ⟨1, by omega, by omega, rfl, rfl⟩
  · rw [s2, if_neg (by
      intro q
      have := nI_pos (show n < 2 ^ 31 by omega)
      rw [q] at this
      exact this (by decide)), if_pos (nI_pos' (by omega)), grd_t (inb_t (by omega) (by omega))]
    by_cases hy : y < 0
    · rw [if_pos hy, (inNo (Or.inl hy)).1, bR_s, if00]
      exact Or.inr ⟨2, by omega, by omega, rfl, rfl⟩
    · obtain ⟨i, hi, rfl⟩ := nI_of hy
      rw [if_neg hy, iteLt (by omega) (by omega)]
      by_cases e : i < n
      · rw [if_pos e, n1, subN (by omega), (inY hy (nI_nlt (by omega) (by omega))).1, bR_s, if10]
        exact Or.inl ⟨i, n, e, hn, rfl, rfl, rfl, rfl⟩
      · have q : f_X2_in (nI i) 0 (nI n - 1) Mm = some 0 := by
          refine (inNo (Or.inr ?_)).1
          by_cases z : n = 0
          · subst z
            exact Int32.lt_of_lt_of_le (by decide) (nI_pos' hi)
          · rw [n1, subN (by omega)]
            exact nI_lt (by omega) hi
        rw [if_neg e, q, bR_s, if00]
        exact Or.inr ⟨2, by omega, by omega, rfl, rfl⟩
theorem SRw.put {Mc Mm : Mem} (h : SRw Mc Mm) {r i : Nat} (hr : r < 6) (hi : i < 40) (v : Int32) : SRw (sI Mc (2 + r) i v) (sI Mm 2 (40 * r + i) v) := by
  intro q hq
  obtain ⟨s1, s2, s3⟩ := h q hq
  rw [sI_n _ _ _ _ (by omega), sI_n _ _ _ _ (by omega)]
  refine ⟨s1, s2, fun j hj => ?_⟩
  by_cases e : q = r
  · subst e
    rw [sI_1, sI_1]
    by_cases g : j = i
    · subst g; rw [upd_same, upd_same]
    · rw [upd_ne _ _ g, upd_ne _ _ (by omega)]; exact s3 j hj
  · rw [sI_n _ _ _ _ (by omega), sI_1, upd_ne _ _ (by omega)]; exact s3 j hj
theorem nz_if {f : Nat} (h1 : 1 ≤ f) (h2 : f ≤ 5) {α : Type} (a b : α) : (if nI f = 0 then a else b) = b := if_neg (nI_ne0 (by omega) (by omega))
theorem tt_at {Mc Mm : Mem} (h0 : Sim Mc Mm) (x y : Int32) : Both (f_X1_at x y Mc) (f_X2_at x y Mm) := by
  obtain ⟨c, ds, d, h⟩ := id h0
  unfold f_X1_at f_X2_at
  rcases isRow_or x Mc Mm with ⟨r, hr, rfl, e1, e2⟩ | ⟨e1, e2⟩
  · rw [e1, e2, bR_s, bR_s, if10, if10, grd_t (inb_t (by omega) (by omega)), ixn (by omega)]
    rcases look_or h hr y with ⟨i, n, hi, hn, rfl, hz, g1, g2⟩ | ⟨f, f1, f2, g1, g2⟩
    · rw [g1, g2, bR_s, bR_s, if00, if00, grd_t (inb_t (by omega) (by omega)), grd_t (inb_t (by omega) (by omega)), ixn (by omega), show (40 : Int32) * nI r = nI (40 * r) from mulN 40 r, addN, grd_t (inb_t (by omega) (by omega)), ixn (by omega), (h.2.2.1 r hr).2.2 i (by omega)]
      exact both_told h _ _
    · rw [g1, g2, bR_s, bR_s, nz_if f1 (by omega), nz_if f1 (by omega)]
      exact both_ref h f1 (by omega)
  · rw [e1, e2, bR_s, bR_s, if00, if00]
    exact both_bad h0 _
theorem tt_lay {Mc Mm : Mem} (h0 : Sim Mc Mm) (x y v : Int32) : Both (f_X1_lay x y v Mc) (f_X2_lay x y v Mm) := by
  obtain ⟨c, ds, d, h⟩ := id h0
  unfold f_X1_lay f_X2_lay
  rcases isRow_or x Mc Mm with ⟨r, hr, rfl, e1, e2⟩ | ⟨e1, e2⟩
  · rw [e1, e2, bR_s, bR_s, if10, if10, grd_t (inb_t (by omega) (by omega)), ixn (by omega)]
    rcases look_or h hr y with ⟨i, n, hi, hn, rfl, hz, g1, g2⟩ | ⟨f, f1, f2, g1, g2⟩
    · rw [g1, g2, bR_s, bR_s, if00, if00]
      simp only [lt]
      rw [grd_t (inb_t (by omega) (by omega)), grd_t (inb_t (by omega) (by omega)), grd_t (inb_t (by omega) (by omega)), grd_t (inb_t (by omega) (by omega)), ixn (by omega), show (40 : Int32) * nI r = nI (40 * r) from mulN 40 r, addN, grd_t (inb_t (by omega) (by omega)), grd_t (inb_t (by omega) (by omega)), ixn (by omega), (h.2.2.1 r hr).2.2 i (by omega)]
      have h1 : SimX c ds d (sI Mc (2 + r) i v) (sI Mm 2 (40 * r + i) v) := h.rows rfl (fun a ha => sI_n _ _ _ _ (by omega)) rfl (fun a _ hb => sI_n _ _ _ _ hb) (h.2.2.1.put hr (by omega) v)
      have h2 := h1.told (Mm.1 2 (40 * r + i))
      have ec : sI (sI Mc 0 13 (Mm.1 2 (40 * r + i))) (2 + r) i v = sI (sI Mc (2 + r) i v) 0 13 (Mm.1 2 (40 * r + i)) := sI_comm (by omega)
      rw [ec]
      exact ⟨1, _, _, rfl, rfl, c, ds, d, h2⟩
    · rw [g1, g2, bR_s, bR_s, nz_if f1 (by omega), nz_if f1 (by omega)]
      exact both_ref h f1 (by omega)
  · rw [e1, e2, bR_s, bR_s, if00, if00]
    exact both_bad h0 _
theorem ne_m1 {n : Nat} (h : n < 2147483648) : ¬ nI n = -1 := by
  intro q
  have := nI_pos (show n < 2 ^ 31 by omega)
  rw [q] at this
  exact this (by decide)
theorem tt_tear {Mc Mm : Mem} (h0 : Sim Mc Mm) (x : Int32) : Both (f_X1_tear x Mc) (f_X2_tear x Mm) := by
  obtain ⟨c, ds, d, h⟩ := id h0
  unfold f_X1_tear f_X2_tear
  rcases isRow_or x Mc Mm with ⟨r, hr, rfl, e1, e2⟩ | ⟨e1, e2⟩
  · obtain ⟨s1, s2, s3⟩ := h.2.2.1 r hr
    rw [e1, e2, bR_s, bR_s, if10, if10]
    simp only [lt]
    rw [grd_t (inb_t (by omega) (by omega)), grd_t (inb_t (by omega) (by omega)), grd_t (inb_t (by omega) (by omega)), grd_t (inb_t (by omega) (by omega)), ixn (by omega), ← s1]
    rcases s2 with s2 | ⟨n, hn, s2⟩
    · rw [s2, if_pos (show (-1 : Int32) = -1 from rfl), if_neg (show ¬ (0 : Int32) ≤ -1 by decide)]
      exact both_ref h (f := 1) (by omega) (by omega)
    · rw [s2, if_neg (ne_m1 (by omega)), if_pos (nI_pos' (by omega))]
      refine both_bad ⟨c, ds, d, h.rows (Mc' := sI Mc 8 r (-1)) (Mm' := sI Mm 1 r (-1)) rfl (fun a ha => sI_n _ _ _ _ (by omega)) rfl (fun a ha _ => sI_n _ _ _ _ ha) (fun q hq => ?_)⟩ _
      obtain ⟨z1, z2, z3⟩ := h.2.2.1 q hq
      rw [sI_1, sI_1, sI_n _ _ _ _ (by omega), sI_n _ _ _ _ (by omega)]
      refine ⟨?_, ?_, z3⟩
      · by_cases e : q = r
        · subst e; rw [upd_same, upd_same]
        · rw [upd_ne _ _ e, upd_ne _ _ e]; exact z1
      · by_cases e : q = r
        · subst e; rw [upd_same]; exact Or.inl rfl
        · rw [upd_ne _ _ e]; exact z2
  · rw [e1, e2, bR_s, bR_s, if00, if00]
    exact both_bad h0 _
def smL (f : Nat → Int32) : Nat → Int64
  | 0 => 0
  | i + 1 => smL f i + (f i).toInt64
theorem c_meanL {M : Mem} {r n : Nat} (hr : r < 6) (hn : n ≤ 40) (K : Int64 → Option (Int32 × Mem)) : ∀ (f j : Nat), j ≤ n → n - j < f → f_X1_mean_L42 (nI r) (nI n) M K f (smL (M.1 (2 + r)) j) (nI j) = K (smL (M.1 (2 + r)) n)
  | 0, j, _, h => by omega
  | f + 1, j, hj, hf => by
    rw [f_X1_mean_L42, iteLe (by omega) (by omega)]
    by_cases e : n ≤ j
    · rw [if_pos e, show j = n by omega]
    · rw [if_neg e, grd_t (inb_t (by omega) (by omega)), grd_t (inb_t (by omega) (by omega)), ixn (by omega), ixn (by omega), show nI j + 1 = nI (j + 1) from nI_1 j]
      exact c_meanL hr hn K f (j + 1) (by omega) (by omega)
theorem m_meanL {Mc Mm : Mem} (h : SRw Mc Mm) {r n : Nat} (hr : r < 6) (hn : n ≤ 40) (hz : Mm.1 1 r = nI n) (K : Int64 → Option (Int32 × Mem)) : ∀ (f j : Nat), j ≤ n → n - j < f → f_X2_mean_L44 (nI r) Mm K f (smL (Mc.1 (2 + r)) j) (nI j) = K (smL (Mc.1 (2 + r)) n)
  | 0, j, _, h => by omega
  | f + 1, j, hj, hf => by
    rw [f_X2_mean_L44, grd_t (inb_t (by omega) (by omega)), ixn (by omega), hz, iteLe (by omega) (by omega)]
    by_cases e : n ≤ j
    · rw [if_pos e, show j = n by omega]
    · rw [if_neg e, show (40 : Int32) * nI r = nI (40 * r) from mulN 40 r, addN, grd_t (inb_t (by omega) (by omega)), ixn (by omega), show nI j + 1 = nI (j + 1) from nI_1 j, ← (h r hr).2.2 j (by omega)]
      exact m_meanL h hr hn hz K f (j + 1) (by omega) (by omega)
theorem nzL_n {n : Nat} (h0 : 0 < n) (h : n < 2147483648) : nzL (nI n).toInt64 = true := by
  unfold nzL
  rw [decide_eq_true_iff, nI_l h]
  intro q
  have := (lN_eq (a := n) (b := 0) h (by omega)).mp q
  omega
theorem tt_mean {Mc Mm : Mem} (h0 : Sim Mc Mm) (x : Int32) : Both (f_X1_mean x Mc) (f_X2_mean x Mm) := by
  obtain ⟨c, ds, d, h⟩ := id h0
  unfold f_X1_mean f_X2_mean
  obtain ⟨fu, hfu, hf2⟩ := FUx
  rw [← hfu]
  rcases isRow_or x Mc Mm with ⟨r, hr, rfl, e1, e2⟩ | ⟨e1, e2⟩
  · obtain ⟨s1, s2, s3⟩ := h.2.2.1 r hr
    rw [e1, e2, bR_s, bR_s, if10, if10]
    simp only [jn]
    rw [grd_t (inb_t (show r < 6 by omega) (by omega)), grd_t (inb_t (show r < 6 by omega) (by omega)), grd_t (inb_t (show r < 6 by omega) (by omega)), ixn (by omega), ← s1]
    rcases s2 with s2 | ⟨n, hn, s2⟩
    · rw [s2, if_pos (show (-1 : Int32) = -1 from rfl), if_neg (show ¬ (0 : Int32) ≤ -1 by decide)]
      exact both_ref h (f := 1) (by omega) (by omega)
    · rw [s2, if_neg (ne_m1 (by omega)), if_pos (nI_pos' (by omega))]
      by_cases z : n = 0
      · subst z
        rw [if_pos (show nI 0 = 0 from rfl), if_pos (show nI 0 = 0 from rfl)]
        exact both_ref h (f := 4) (by omega) (by omega)
      · rw [if_neg (nI_ne0 (by omega) (by omega)), if_neg (nI_ne0 (by omega) (by omega))]
        have q1 := at0 (fun x => f_X1_mean_L42 (nI r) (nI n) Mc (fun v3_67x => grd (nzL (nI n).toInt64) (lt (sI Mc 0 13 (v3_67x / (nI n).toInt64).toInt32) fun M73 => some (1, M73))) fu 0 x) (c_meanL hr hn _ fu 0 (by omega) (by omega))
        have q2 := at0 (fun x => f_X2_mean_L44 (nI r) Mm (fun v2_77x => grd (inb (nI r) 6) (grd (nzL (nI n).toInt64) (bI (f_X2_tells (v2_77x / (nI n).toInt64).toInt32 1 Mm) fun r89 M89 => some (r89, M89)))) fu 0 x) (m_meanL h.2.2.1 hr hn (by rw [← s1]; exact s2) _ fu 0 (by omega) (by omega))
        rw [q1, q2]
        show Both (grd (nzL (nI n).toInt64) _) (grd (inb (nI r) 6) (grd (nzL (nI n).toInt64) _))
        rw [grd_t (inb_t (show r < 6 by omega) (by omega)), grd_t (nzL_n (by omega) (by omega)), grd_t (nzL_n (by omega) (by omega))]
        exact both_told h _ _
  · rw [e1, e2, bR_s, bR_s, if00, if00]
    exact both_bad h0 _
