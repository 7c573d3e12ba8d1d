/-! what is heard -/
theorem tt_mark {Mc Mm : Mem} (h0 : Sim Mc Mm) (x y : Int32) : Both (f_X1_mark x y Mc) (f_X2_mark x y Mm) := by
  obtain ⟨c, ds, d, h⟩ := id h0
  obtain ⟨hc, h40, a3, a4, a5, a6, a7, a8, a9⟩ := id h.1
  have h7 := hc.1
  have ht := h.t
  have ht2 : (rpN c ds d).1 < 1000 := by omega
  unfold f_X1_mark f_X2_mark
  rcases has_or h x with ⟨i, hi, rfl, e1, e2⟩ | ⟨e1, e2⟩
  · obtain ⟨b1, b2, b3, b4⟩ := hc.2 i hi
    obtain ⟨s1, s2, s3, s4, s5⟩ := a7.2.2 i hi
    rw [e1, e2, bR_s, bR_s, if10, if10]
    rcases int_3 y 5 with hy | ⟨v, hv, rfl⟩ | ⟨v, hv, hv2, rfl⟩
    · have z : y < 1 := Int32.lt_of_lt_of_le hy (by decide)
      rw [(inNo (M := Mc) (b := 5) (Or.inl z)).2, (inNo (M := Mm) (b := 5) (Or.inl z)).1, bR_s, bR_s, if00, if00]
      exact both_bad h0 _
    · by_cases ev : v = 0
      · subst ev
        have z : nI 0 < 1 := by decide
        rw [(inNo (M := Mc) (b := 5) (Or.inl z)).2, (inNo (M := Mm) (b := 5) (Or.inl z)).1, bR_s, bR_s, if00, if00]
        exact both_bad h0 _
      · have z1 : ¬ nI v < 1 := (show ¬ nI v < nI 1 from nI_nlt (by omega) (by omega))
        have z2 : ¬ 5 < nI v := (show ¬ nI 5 < nI v from nI_nlt (by omega) (by omega))
        rw [(inY (M := Mc) z1 z2).2, (inY (M := Mm) z1 z2).1, bR_s, bR_s, if10, if10, cs_isOf a4 hc hi hv, ms_isA a7 hc hi hv, bR_s, bR_s]
        by_cases g : isN (c.2.1 i) v = true
        · rw [if_pos g, if10, if10, cs_tells a4 hc h.okS ht2 hi hv, bR_s]
          have hx := inN_le c (rpN c ds d) i
          have l1 : ∀ as x, x ≤ 1 → sN c (rpN c ds d) i as x < 2147483648 := fun as x hx => by have := @sN_le c (rpN c ds d) i as x hx; omega
          have hlt : (rpN c ds d).1 % (c.2.2.2 i + 2) < c.2.2.2 i + 2 := Nat.mod_lt _ (by omega)
          have q1 : f_X2_sentBy 8 15 (nI i) (nI (c.2.1 i)) 0 Mm = some (nI (sN c (rpN c ds d) i (c.2.1 i) 0)) := ms_sentBy a7 hc h.okS ht2 hi b1 (x := 0) (by omega)
          have q2 : f_X2_sentBy 8 15 (nI i) (nI (c.2.1 i)) 1 Mm = some (nI (sN c (rpN c ds d) i (c.2.1 i) 1)) := ms_sentBy a7 hc h.okS ht2 hi b1 (x := 1) (by omega)
          have q3 : f_X2_sentNow (nI i) 4 Mm = some (nI (sN c (rpN c ds d) i 4 (inN c (rpN c ds d) i))) := ms_sentNow a7 hc h.okS ht2 hi (as := 4) (by omega)
          have q4 : f_X2_sentNow (nI i) 1 Mm = some (nI (sN c (rpN c ds d) i 1 (inN c (rpN c ds d) i))) := ms_sentNow a7 hc h.okS ht2 hi (as := 1) (by omega)
          have q5 : f_X2_sentNow (nI i) 5 Mm = some (nI (sN c (rpN c ds d) i 5 (inN c (rpN c ds d) i))) := ms_sentNow a7 hc h.okS ht2 hi (as := 5) (by omega)
          have q6 : f_X2_sentNow (nI i) 2 Mm = some (nI (sN c (rpN c ds d) i 2 (inN c (rpN c ds d) i))) := ms_sentNow a7 hc h.okS ht2 hi (as := 2) (by omega)
          simp only [g15, ix0, grd_t (inb_t (show i < 7 by omega) (show 7 < 2147483648 by omega)), ixn (show i < 2147483648 by omega), s1, s2, s3, a7.2.1, show nI (c.2.2.2 i) + 2 = nI (c.2.2.2 i + 2) from addN _ 2, grd_t (nzN (show 0 < c.2.2.2 i + 2 by omega) (show c.2.2.2 i + 2 < 2147483648 by omega)), q1, q2, q3, q4, q5, q6, bR_s]
          rw [irmN (by omega) (by omega) (by omega), subN (by omega), irmN (by omega) (by omega) (by omega), show (2 : Int32) * nI (c.2.2.1 i) = nI (2 * c.2.2.1 i) from mulN 2 _]
          have key : ∀ z : Int32, z = nI (tlN c (rpN c ds d) i v) → Both (some (nI (tlN c (rpN c ds d) i v), Mc)) (some (z, Mm)) := fun z hz => by rw [hz]; exact both_bad h0 _
          skip
          rcases (show v = 1 ∨ v = 2 ∨ v = 3 ∨ v = 4 ∨ v = 5 by omega) with rfl | rfl | rfl | rfl | rfl
          · exact key _ rfl
          · have e := l1 (c.2.1 i) 0 (by omega)
            have e' := l1 (c.2.1 i) 1 (by omega)
            show Both _ (if nI (sN c (rpN c ds d) i (c.2.1 i) 0) = nI (sN c (rpN c ds d) i (c.2.1 i) 1) then some (1, Mm) else some (0, Mm))
            rw [iteEq e e']
            by_cases w : sN c (rpN c ds d) i (c.2.1 i) 0 = sN c (rpN c ds d) i (c.2.1 i) 1
            · rw [if_pos w]
              refine key _ ?_
              show (1 : Int32) = nI (if sN c (rpN c ds d) i (c.2.1 i) 1 = sN c (rpN c ds d) i (c.2.1 i) 0 then 1 else 0)
              rw [if_pos w.symm]; rfl
            · rw [if_neg w]
              refine key _ ?_
              show (0 : Int32) = nI (if sN c (rpN c ds d) i (c.2.1 i) 1 = sN c (rpN c ds d) i (c.2.1 i) 0 then 1 else 0)
              rw [if_neg (fun z => w z.symm)]; rfl
          · exact key _ rfl
          · show Both _ (if nI (sN c (rpN c ds d) i 4 (inN c (rpN c ds d) i)) = nI (sN c (rpN c ds d) i 1 (inN c (rpN c ds d) i)) then some (0, Mm) else some (1, Mm))
            rw [iteEq (l1 _ _ hx) (l1 _ _ hx)]
            by_cases w : sN c (rpN c ds d) i 4 (inN c (rpN c ds d) i) = sN c (rpN c ds d) i 1 (inN c (rpN c ds d) i)
            · rw [if_pos w]
              refine key _ ?_
              show (0 : Int32) = nI (if sN c (rpN c ds d) i 4 (inN c (rpN c ds d) i) = sN c (rpN c ds d) i 1 (inN c (rpN c ds d) i) then 0 else 1)
              rw [if_pos w]; rfl
            · rw [if_neg w]
              refine key _ ?_
              show (1 : Int32) = nI (if sN c (rpN c ds d) i 4 (inN c (rpN c ds d) i) = sN c (rpN c ds d) i 1 (inN c (rpN c ds d) i) then 0 else 1)
              rw [if_neg w]; rfl
          · show Both _ (if nI (sN c (rpN c ds d) i 5 (inN c (rpN c ds d) i)) = nI (sN c (rpN c ds d) i 2 (inN c (rpN c ds d) i)) then some (0, Mm) else some (1, Mm))
            rw [iteEq (l1 _ _ hx) (l1 _ _ hx)]
            by_cases w : sN c (rpN c ds d) i 5 (inN c (rpN c ds d) i) = sN c (rpN c ds d) i 2 (inN c (rpN c ds d) i)
            · rw [if_pos w]
              refine key _ ?_
              show (0 : Int32) = nI (if sN c (rpN c ds d) i 5 (inN c (rpN c ds d) i) = sN c (rpN c ds d) i 2 (inN c (rpN c ds d) i) then 0 else 1)
              rw [if_pos w]; rfl
            · rw [if_neg w]
              refine key _ ?_
              show (1 : Int32) = nI (if sN c (rpN c ds d) i 5 (inN c (rpN c ds d) i) = sN c (rpN c ds d) i 2 (inN c (rpN c ds d) i) then 0 else 1)
              rw [if_neg w]; rfl
        · rw [if_neg g, if00, if00]
          exact both_ref h (f := 3) (by omega) (by omega)
    · have z : 5 < nI v := (show nI 5 < nI v from nI_lt hv hv2)
      rw [(inNo (M := Mc) (a := 1) (Or.inr z)).2, (inNo (M := Mm) (a := 1) (Or.inr z)).1, bR_s, bR_s, if00, if00]
      exact both_bad h0 _
  · rw [e1, e2, bR_s, bR_s, if00, if00]
    exact both_bad h0 _
theorem b_findsL {c : Cfg} {ds : Nat → Nat} {d i : Nat} (hi : i < c.1) (v m : Int32) (K1 K2 : Int32 → Int32 → Mem → Option (Int32 × Mem)) (hK : ∀ a b Nc Nm, SimX c ds d Nc Nm → Both (K1 a b Nc) (K2 a b Nm)) : ∀ (n j : Nat) (a b p : Int32) (Nc Nm : Mem) (τ : Sg), Try c ds d Nc Nm τ → 1 ≤ j → j ≤ 61 → 61 - j < n → τ.1 + (61 - j) < 900 → Both (f_X1_finds_L59 (nI i) v m K1 n a b p (nI j) Nc) (f_X2_finds_L46 (nI i) v m K2 n p a b (nI j) Nm)
  | 0, j, a, b, p, Nc, Nm, τ, _, _, _, h, _ => by omega
  | n + 1, j, a, b, p, Nc, Nm, τ, h, hj1, hj, hn, ht => by
    have hc := h.1.1.1
    rw [f_X1_finds_L59, f_X2_finds_L46, show (60 : Int32) = nI 60 from rfl, iteLt (by omega) (by omega), iteLt (by omega) (by omega)]
    by_cases e : 60 < j
    · rw [if_pos e, if_pos e]
      exact both_bad h.sim _
    · rw [if_neg e, if_neg e]
      obtain ⟨P1, P2, q1, q2, q3, f1, f2⟩ := tr_go h (m := 1) (by omega) (by omega)
      have hmid : SimX c ds d Nc P2 := h.1.scr rfl (fun _ _ => rfl) f2.1 (fun a ha => f2.2 a (by omega) (by omega)) (fun j _ => by rw [f2.2 0 (by omega) (by omega)])
      rw [cs_isReady h.2.1 hc (by omega) hi, ms_isReady h.2.2.1 hc (by omega) hi, bR_s, bR_s, ms_outOf h.2.2.1 hc h.2.2.2 (by omega) hi, bR_s, show f_X0_goOn 22 1 Nc = some P1 from q1, show f_X2_goes 1 Nm = some P2 from q2, bR_s]
      simp only [jn, bR_s, cs_comesOut h.2.1 hc h.2.2.2 (show τ.1 < 1000 by omega) hi]
      rw [show nI j + 1 = nI (j + 1) from nI_1 j]
      have go : ∀ a b p, Both (f_X1_finds_L59 (nI i) v m K1 n a b p (nI (j + 1)) P1) (f_X2_finds_L46 (nI i) v m K2 n p a b (nI (j + 1)) P2) := fun a b p => b_findsL hi v m K1 K2 hK n (j + 1) a b p P1 P2 _ q3 (by omega) (by omega) (by omega) (by rw [itN_t]; omega)
      by_cases hr : rdN (c.2.1 i) τ.1 = true
      · rw [if_pos hr, if10, if10, if10]
        by_cases g : a + 1 < m
        · rw [if_pos g, if_pos g]
          exact go _ _ _
        · rw [if_neg g, if_neg g]
          by_cases w : (shr p 1 ||| shl (nI (outN c τ i)) (m - 1)) = v
          · rw [if_pos w, if_pos w]
            exact hK _ _ _ _ hmid
          · rw [if_neg w, if_neg w]
            exact go _ _ _
      · rw [if_neg hr, if00, if00, if00]
        exact go _ _ _
theorem tt_finds {Mc Mm : Mem} (h0 : Sim Mc Mm) (x y z : Int32) : Both (f_X1_finds x y z Mc) (f_X2_finds x y z Mm) := by
  obtain ⟨c, ds, d, h⟩ := id h0
  have hc := h.1.1
  have h7 := hc.1
  have ht := h.t
  unfold f_X1_finds f_X2_finds
  obtain ⟨fu, hfu, hf2⟩ := FUx
  rw [← hfu]
  rcases has_or h x with ⟨i, hi, rfl, e1, e2⟩ | ⟨e1, e2⟩
  · rw [e1, e2, bR_s, bR_s, if10, if10]
    rcases int_3 z 8 with hz | ⟨m, hm, rfl⟩ | ⟨m, hm, hm2, rfl⟩
    · have w : z < 1 := Int32.lt_of_lt_of_le hz (by decide)
      rw [(inNo (M := Mc) (b := 8) (Or.inl w)).2, (inNo (M := Mm) (b := 8) (Or.inl w)).1, bR_s, bR_s, if00, if00]
      exact both_bad h0 _
    · by_cases em : m = 0
      · subst em
        have w : nI 0 < 1 := by decide
        rw [(inNo (M := Mc) (b := 8) (Or.inl w)).2, (inNo (M := Mm) (b := 8) (Or.inl w)).1, bR_s, bR_s, if00, if00]
        exact both_bad h0 _
      · have z1 : ¬ nI m < 1 := (show ¬ nI m < nI 1 from nI_nlt (by omega) (by omega))
        have z2 : ¬ 8 < nI m := (show ¬ nI 8 < nI m from nI_nlt (by omega) (by omega))
        have hp : 2 ^ m ≤ 2 ^ 8 := Nat.pow_le_pow_right (by decide) hm
        have hp2 := Nat.two_pow_pos m
        rw [(inY (M := Mc) z1 z2).2, (inY (M := Mm) z1 z2).1, bR_s, bR_s, if10, if10, show shl 1 (nI m) = nI (1 * 2 ^ m) from shlN (n := 1) (by omega) (by omega), Nat.one_mul, show nI (2 ^ m) - 1 = nI (2 ^ m - 1) from subN (b := 1) (by omega)]
        by_cases hy : y < 0
        · rw [(inNo (M := Mc) (Or.inl hy)).2, bR_s, if00, if_pos hy]
          exact both_bad h0 _
        · obtain ⟨v, hv, rfl⟩ := nI_of hy
          rw [if_neg hy, shrN (by omega) (by omega), show (0 : Int32) = nI 0 from rfl, iteEq (by have := Nat.div_le_self v (2 ^ m); omega) (by omega)]
          by_cases ev : v < 2 ^ m
          · rw [if_pos (Nat.div_eq_of_lt ev), show f_X1_isWithin (nI v) (nI 0) (nI (2 ^ m - 1)) Mc = some 1 from (inY (M := Mc) hy (nI_nlt (by omega) (by omega))).2, bR_s, if_neg (show ¬ (1 : Int32) = nI 0 by decide)]
            obtain ⟨N1, N2, k1, k2, k3, -, -⟩ := tr_start h
            rw [k1, k2, bR_s, bR_s]
            simp only [jn, lt]
            exact b_findsL (c := c) (ds := ds) (d := d) hi (nI v) (nI m) (fun v1 v2 M => some (v2, sI M 0 13 v1)) (fun v1 v2 M => bI (f_X2_tells v1 v2 M) fun r M => some (r, M)) (fun a b Nc Nm hN => tr_told hN _ _) fu 1 _ _ _ N1 N2 _ k3 (by omega) (by omega) (by omega) (by omega)
          · rw [if_neg (fun q => ev ((Nat.div_eq_zero_iff.mp q).elim (fun z => absurd z (by omega)) id)), show f_X1_isWithin (nI v) (nI 0) (nI (2 ^ m - 1)) Mc = some 0 from (inNo (M := Mc) (Or.inr (nI_lt (by omega) hv))).2, bR_s, if_pos (show (0 : Int32) = nI 0 from rfl)]
            exact both_bad h0 _
    · have w : 8 < nI m := (show nI 8 < nI m from nI_lt hm hm2)
      rw [(inNo (M := Mc) (a := 1) (Or.inr w)).2, (inNo (M := Mm) (a := 1) (Or.inr w)).1, bR_s, bR_s, if00, if00]
      exact both_bad h0 _
  · rw [e1, e2, bR_s, bR_s, if00, if00]
    exact both_bad h0 _
theorem b_hearsL {c : Cfg} {ds : Nat → Nat} {d i m r : Nat} (hi : i < c.1) (hm : m ≤ 20) (hr : r < 6) : ∀ (n j : Nat) (a : Int32) (Nc Nm : Mem) (τ : Sg), Try c ds d Nc Nm τ → j ≤ m → m - j < n → τ.1 + (m - j) < 900 → Both (f_X1_hears_L53 (nI i) (nI m) (nI r) n a (nI j) Nc) (f_X2_hears_L43 (nI i) (nI m) (nI r) n a (nI j) Nm)
  | 0, j, a, Nc, Nm, τ, _, _, h, _ => by omega
  | n + 1, j, a, Nc, Nm, τ, h, hj, hn, ht => by
    have hc := h.1.1.1
    rw [f_X1_hears_L53, f_X2_hears_L43, iteLe (by omega) (by omega), iteLe (by omega) (by omega)]
    by_cases e : m ≤ j
    · rw [if_pos e, if_pos e]
      exact both_bad h.sim _
    · rw [if_neg e, if_neg e, grd_t (inb_t (show r < 6 by omega) (by omega)), cs_isReady h.2.1 hc (by omega) hi, ms_isReady h.2.2.1 hc (by omega) hi, bR_s, bR_s, ms_outOf h.2.2.1 hc h.2.2.2 (by omega) hi, bR_s]
      simp only [jn, lt, bR_s, cs_comesOut h.2.1 hc h.2.2.2 (show τ.1 < 1000 by omega) hi]
      simp only [grd_t (inb_t (show j < 40 by omega) (show 40 < 2147483648 by omega)), ixn (show j < 2147483648 by omega), ixn (show r < 2147483648 by omega), show (40 : Int32) * nI r = nI (40 * r) from mulN 40 r, addN, grd_t (inb_t (show 40 * r + j < 240 by omega) (show 240 < 2147483648 by omega)), ixn (show 40 * r + j < 2147483648 by omega)]
      have go : ∀ v : Int32, Both (bR (f_X0_comesOut 22 (nI i) (sI Nc (2 + r) j v)) fun r98 => bR (f_X0_goOn 22 1 (sI Nc (2 + r) j v)) fun M109 => f_X1_hears_L53 (nI i) (nI m) (nI r) n (a + r98) (nI j + 1) M109) (bR (f_X2_goes 1 (sI Nm 2 (40 * r + j) v)) fun M103 => f_X2_hears_L43 (nI i) (nI m) (nI r) n (a + nI (outN c τ i)) (nI j + 1) M103) := by
        intro v
        have hT : Try c ds d (sI Nc (2 + r) j v) (sI Nm 2 (40 * r + j) v) τ := ⟨h.1.rows rfl (fun a ha => sI_n _ _ _ _ (by omega)) rfl (fun a _ hb => sI_n _ _ _ _ hb) (h.1.2.2.1.put hr (by omega) v), stC_of h.2.1 (sI_n _ _ _ _ (by omega)) (fun q q1 q2 => sI_n _ _ _ _ (by omega)), stM_of h.2.2.1 (sI_n _ _ _ _ (by omega)) (sI_n _ _ _ _ (by omega)) (sI_n _ _ _ _ (by omega)) (sI_n _ _ _ _ (by omega)) (sI_n _ _ _ _ (by omega)), h.2.2.2⟩
        obtain ⟨P1, P2, q1, q2, q3, -, -⟩ := tr_go hT (m := 1) (by omega) (by omega)
        rw [cs_comesOut hT.2.1 hc h.2.2.2 (by omega) hi, bR_s, show f_X0_goOn 22 1 _ = some P1 from q1, show f_X2_goes 1 _ = some P2 from q2, bR_s, bR_s, show nI j + 1 = nI (j + 1) from nI_1 j]
        exact b_hearsL hi hm hr n (j + 1) _ P1 P2 _ q3 (by omega) (by omega) (by rw [itN_t]; omega)
      by_cases g : rdN (c.2.1 i) τ.1 = true
      · rw [if_pos g, if10, if10]
        exact go _
      · rw [if_neg g, if00, if00]
        exact go _
theorem tt_hears {Mc Mm : Mem} (h0 : Sim Mc Mm) (x y z : Int32) : Both (f_X1_hears x y z Mc) (f_X2_hears x y z Mm) := by
  obtain ⟨c, ds, d, h⟩ := id h0
  have hc := h.1.1
  have h7 := hc.1
  have ht := h.t
  unfold f_X1_hears f_X2_hears
  obtain ⟨fu, hfu, hf2⟩ := FUx
  rw [← hfu]
  rcases has_or h x with ⟨i, hi, rfl, e1, e2⟩ | ⟨e1, e2⟩
  · rw [e1, e2, bR_s, bR_s, if10, if10]
    rcases int_3 y 20 with hz | ⟨m, hm, rfl⟩ | ⟨m, hm, hm2, rfl⟩
    · have w : y < 1 := Int32.lt_of_lt_of_le hz (by decide)
      rw [(inNo (M := Mc) (b := 20) (Or.inl w)).2, (inNo (M := Mm) (b := 20) (Or.inl w)).1, bR_s, bR_s, if00, if00]
      exact both_bad h0 _
    · by_cases em : m = 0
      · subst em
        have w : nI 0 < 1 := by decide
        rw [(inNo (M := Mc) (b := 20) (Or.inl w)).2, (inNo (M := Mm) (b := 20) (Or.inl w)).1, bR_s, bR_s, if00, if00]
        exact both_bad h0 _
      · have z1 : ¬ nI m < 1 := (show ¬ nI m < nI 1 from nI_nlt (by omega) (by omega))
        have z2 : ¬ 20 < nI m := (show ¬ nI 20 < nI m from nI_nlt (by omega) (by omega))
        rw [(inY (M := Mc) z1 z2).2, (inY (M := Mm) z1 z2).1, bR_s, bR_s, if10, if10]
        rcases isRow_or z Mc Mm with ⟨r, hr, rfl, g1, g2⟩ | ⟨g1, g2⟩
        · rw [g1, g2, bR_s, bR_s, if10, if10]
          obtain ⟨N2, p1, p2, p3⟩ := ms_asItIs hc h.1.2.2.2.2.2.2.1
          have hmid : SimX c ds d Mc N2 := h.scr rfl (fun _ _ => rfl) p3.1 (fun a ha => p3.2 a (by omega) (by omega)) (fun j _ => by rw [p3.2 0 (by omega) (by omega)])
          obtain ⟨Q1, Q2, k1, k2, k3, k4, k5, k6, k7, -⟩ := tt_make hmid hr (n := m) (by omega)
          rw [p1, k1, bR_s, bR_s, k2, bR_s]
          obtain ⟨N1, s1, s2, s3⟩ := cs_take (Or.inl ⟨rfl, rfl⟩) hc k3.1.2.2.2.1
          rw [s1, bR_s]
          have hT : Try c ds d N1 Q2 (rpN c ds d) := ⟨k3.scr s3.1 (fun a ha => s3.2 a (by omega)) rfl (fun _ _ => rfl) (fun _ _ => rfl), s2, stM_of p2 (k6 0 (by omega) (by omega)) (k6 9 (by omega) (by omega)) (k6 5 (by omega) (by omega)) (k6 6 (by omega) (by omega)) (k6 7 (by omega) (by omega)), h.okS⟩
          exact b_hearsL hi hm hr fu 0 0 N1 Q2 _ hT (by omega) (by omega) (by omega)
        · rw [g1, g2, bR_s, bR_s, if00, if00]
          exact both_bad h0 _
    · have w : 20 < nI m := (show nI 20 < nI m from nI_lt hm hm2)
      rw [(inNo (M := Mc) (a := 1) (Or.inr w)).2, (inNo (M := Mm) (a := 1) (Or.inr w)).1, bR_s, bR_s, if00, if00]
      exact both_bad h0 _
  · rw [e1, e2, bR_s, bR_s, if00, if00]
    exact both_bad h0 _
