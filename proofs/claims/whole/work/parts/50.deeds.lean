/-! deeds -/
theorem deedN {a i v : Nat} (ha : a < 8) (hi : i < 8) (hv : v < 512) : ((shl (nI a) 12 ||| shl (nI i) 9) ||| nI v) = nI (a * 4096 + i * 512 + v) := by
  rw [show (12 : Int32) = nI 12 from rfl, show (9 : Int32) = nI 9 from rfl, shlN (by omega) (by omega), shlN (by omega) (by omega), orN, orN]
  have h1 : i * 2 ^ 9 < 2 ^ 12 := by omega
  have h2 : v < 2 ^ 9 := by omega
  rw [Nat.mul_comm a, ← Nat.two_pow_add_eq_or_of_lt h1]
  rw [show 2 ^ 12 * a + i * 2 ^ 9 = 2 ^ 9 * (8 * a + i) by omega, ← Nat.two_pow_add_eq_or_of_lt h2]
  first | done | exact congrArg nI (by omega)
theorem dA_of {a i v : Nat} (hi : i < 8) (hv : v < 512) : dA (a * 4096 + i * 512 + v) = a ∧ dI (a * 4096 + i * 512 + v) = i ∧ dV (a * 4096 + i * 512 + v) = v := by
  unfold dA dI dV
  omega
theorem okD_0 {c : Cfg} {q : Nat} (h : dA q = 0 ∨ dA q = 4) (h2 : q < 20480) : okD c q := ⟨h2, fun z => by omega, fun z => by omega, fun z => by omega⟩
theorem cs_perform {M : Mem} {c : Cfg} {σ : Sg} (h : stC M 15 c σ) (hc : okC c) (hs : okS c σ) (ht : σ.1 < 900) {q : Nat} (hq : okD c q) : ∃ M', f_X1_perform (nI q) M = some M' ∧ stC M' 15 c (pfN c q σ) ∧ Fr 15 M M' := by
  have h7 := hc.1
  have e1 : shr (nI q) 12 = nI (dA q) := shrN (k := 12) (by have := hq.1; omega) (by omega)
  have e2 : shr (nI q) 9 &&& 7 = nI (dI q) := by
    rw [show shr (nI q) 9 = nI (q / 2 ^ 9) from shrN (k := 9) (by have := hq.1; omega) (by omega)]
    exact pk_andN (by have := hq.1; omega) 3 (by decide)
  have e3 : nI q &&& 511 = nI (dV q) := pk_andN (by have := hq.1; omega) 9 (by decide)
  have ha : dA q < 5 := by unfold dA; have := hq.1; omega
  unfold f_X1_perform pfN
  rw [e1, e2, e3, show (0 : Int32) = nI 0 from rfl, show (2 : Int32) = nI 2 from rfl, show (3 : Int32) = nI 3 from rfl]
  rw [iteEq (by omega) (by omega)]
  by_cases g0 : dA q = 0
  · rw [if_pos g0, if_pos g0]
    obtain ⟨M', k1, k2, k3⟩ := cs_letPass hc hs (by omega) h
    rw [k1, bR_s]
    exact ⟨M', rfl, k2, k3⟩
  · rw [if_neg g0, if_neg g0, show (1 : Int32) = nI 1 from rfl, iteEq (by omega) (by omega)]
    by_cases g1 : dA q = 1
    · rw [if_pos g1, if_pos g1]
      obtain ⟨q1, q2⟩ := hq.2.1 g1
      obtain ⟨M', k1, k2, k3⟩ := cs_turnSlot h hc q1 (show dV q < 9 by have := (hc.2 _ q1).2.2.1; omega)
      rw [k1, bR_s]
      exact ⟨M', rfl, k2, k3⟩
    · rw [if_neg g1, if_neg g1, iteEq (by omega) (by omega)]
      by_cases g2 : dA q = 2
      · rw [if_pos g2, if_pos g2]
        obtain ⟨q1, q2⟩ := hq.2.2.1 g2
        obtain ⟨M', k1, k2, k3⟩ := cs_swapWays h hc q1 q2
        rw [k1, bR_s]
        exact ⟨M', rfl, k2, k3⟩
      · rw [if_neg g2, if_neg g2, iteEq (by omega) (by omega)]
        by_cases g3 : dA q = 3
        · rw [if_pos g3, if_pos g3]
          obtain ⟨q1, q2⟩ := hq.2.2.2 g3
          obtain ⟨M', k1, k2, k3⟩ := cs_putWord (v := dV q) h hc q1
          rw [k1, bR_s]
          exact ⟨M', rfl, k2, k3⟩
        · rw [if_neg g3, if_neg g3]
          exact ⟨M, rfl, h, Fr.rf⟩
theorem roomY {M : Mem} {d n : Nat} (h : M.1 0 7 = nI d) (hd : d + n < 1000) : f_X1_hasRoomFor (nI n) M = some (if d + n ≤ 40 then 1 else 0) := by
  unfold f_X1_hasRoomFor
  rw [h, addN, show (40 : Int32) = nI 40 from rfl, iteLt (by omega) (by omega)]
  by_cases e : d + n ≤ 40
  · rw [if_neg (by omega), if_pos e]
  · rw [if_pos (by omega), if_neg e]
theorem cs_addDeed {M : Mem} {c : Cfg} {σ : Sg} {d : Nat} (h : stC M 15 c σ) (hc : okC c) (hs : okS c σ) (ht : σ.1 < 900) (hd : M.1 0 7 = nI d) (hd2 : d < 40) {a i v : Nat} (ha : a < 5) (hi : i < 8) (hv : v < 512) (hq : okD c (a * 4096 + i * 512 + v)) : ∃ M', f_X1_addDeed (nI a) (nI i) (nI v) M = some M' ∧ stC M' 15 c (pfN c (a * 4096 + i * 512 + v) σ) ∧ M'.1 0 7 = nI (d + 1) ∧ M'.1 29 = upd (M.1 29) d (nI (a * 4096 + i * 512 + v)) ∧ M'.2 = M.2 ∧ (∀ j, j ≠ 7 → M'.1 0 j = M.1 0 j) ∧ ∀ x, x ≠ 0 → x ≠ 29 → (x < 15 ∨ 21 < x) → M'.1 x = M.1 x := by
  unfold f_X1_addDeed
  rw [show f_X1_hasRoomFor 1 M = some 1 from (roomY (n := 1) hd (by omega)).trans (by rw [if_pos (show d + 1 ≤ 40 by omega)]), bR_s, if10, hd, grd_t (inb_t hd2 (by omega)), deedN (by omega) hi hv, ixn (by omega)]
  simp only [lt]
  rw [sI_n _ _ _ _ (show (0 : Nat) ≠ 29 by omega), hd, show nI d + 1 = nI (d + 1) from nI_1 d]
  have h1 : stC (sI (sI M 29 d (nI (a * 4096 + i * 512 + v))) 0 7 (nI (d + 1))) 15 c σ := stC_of h (by rw [sI_n _ _ _ _ (by omega), sI_n _ _ _ _ (by omega)]) (fun j j1 j2 => by rw [sI_n _ _ _ _ (by omega), sI_n _ _ _ _ (by omega)])
  obtain ⟨M', k1, k2, k3⟩ := cs_perform h1 hc hs ht hq
  rw [k1, bR_s]
  refine ⟨M', rfl, k2, ?_, ?_, k3.1, fun j hj => ?_, fun x x0 x29 hx => ?_⟩
  · rw [k3.2 0 (by omega), sI_1, upd_same]
  · rw [k3.2 29 (by omega), sI_n _ _ _ _ (by omega), sI_1]
  · rw [k3.2 0 (by omega), sI_1, upd_ne _ _ hj, sI_n _ _ _ _ (by omega)]
  · rw [k3.2 x (by omega), sI_n _ _ _ _ x0, sI_n _ _ _ _ x29]
theorem ms_notes {Mc Mm : Mem} {c : Cfg} {ds : Nat → Nat} {d : Nat} (h : SSt Mc Mm c ds d) (hd : d < 40) : ∃ M', f_X2_notes Mm = some M' ∧ stM M' 8 c (rpN c ds d) ∧ M'.1 0 11 = nI (d + 1) ∧ (∀ j, j < d + 1 → blk (M'.1 10) (15 * j) c (rpN c ds j)) ∧ M'.2 = Mm.2 ∧ (∀ j, j ≠ 11 → M'.1 0 j = Mm.1 0 j) ∧ ∀ x, x ≠ 0 → x ≠ 10 → M'.1 x = Mm.1 x := by
  obtain ⟨hc, h40, a3, a4, a5, a6, a7, a8, a9⟩ := h
  have h7 := hc.1
  unfold f_X2_notes
  rw [a8, show (15 : Int32) * nI d = nI (15 * d) from mulN 15 d]
  obtain ⟨M2, g1, g2, g3, g4⟩ := ms_bring (k0 := 8) (k2 := 10) (by omega) (n0 := 15) (n2 := 600) (i := 0) (j := 15 * d) (n := 15) (by omega) (by omega) (by omega) (by omega) Mm
  rw [show f_X2_bring 8 15 10 600 0 (nI (15 * d)) 15 Mm = some M2 from g1, bR_s]
  simp only [lt]
  rw [g2 0 (by omega), a8, show nI d + 1 = nI (d + 1) from nI_1 d]
  refine ⟨_, rfl, ?_, ?_, fun j hj => ?_, g3, fun j hj => ?_, fun x x0 x10 => ?_⟩
  · refine ⟨by rw [sI_1, upd_ne _ _ (by omega), g2 0 (by omega)]; exact a7.1, by rw [sI_n _ _ _ _ (by omega), g2 8 (by omega)]; exact a7.2.1, fun i hi => ?_⟩
    rw [sI_n _ _ _ _ (by omega), sI_n _ _ _ _ (by omega), sI_n _ _ _ _ (by omega), sI_n _ _ _ _ (by omega), g2 5 (by omega), g2 6 (by omega), g2 7 (by omega), g2 8 (by omega)]
    exact a7.2.2 i hi
  · rw [sI_1, upd_same]
  · rw [sI_n _ _ _ _ (by omega)]
    by_cases e : j = d
    · subst e
      refine ⟨by rw [g4, if_pos (by omega), show 0 + (15 * j - 15 * j) = 0 by omega]; exact a7.2.1, fun i hi => ?_⟩
      rw [g4, g4, if_pos (by omega), if_pos (by omega), show 0 + (15 * j + 1 + i - 15 * j) = 1 + i by omega, show 0 + (15 * j + 8 + i - 15 * j) = 8 + i by omega]
      exact (a7.2.2 i hi).2.2.2
    · obtain ⟨b1, b2⟩ := a9 j (by omega)
      refine ⟨by rw [g4, if_neg (by omega)]; exact b1, fun i hi => ?_⟩
      rw [g4, g4, if_neg (by omega), if_neg (by omega)]
      exact b2 i hi
  · rw [sI_1, upd_ne _ _ hj, g2 0 (by omega)]
  · rw [sI_n _ _ _ _ x0, g2 x x10]
theorem deed_sim {Mc Mm Mc' Mm' : Mem} {c : Cfg} {ds : Nat → Nat} {d q : Nat} (h : SimX c ds d Mc Mm) (hd : d < 40) (hq : okD c q) (c1 : stC Mc' 15 c (pfN c q (rpN c ds d))) (c2 : Mc'.1 0 7 = nI (d + 1)) (c3 : Mc'.1 29 = upd (Mc.1 29) d (nI q)) (c4 : Mc'.2 = Mc.2) (c5 : ∀ j, j ≠ 7 → Mc'.1 0 j = Mc.1 0 j) (c6 : ∀ x, x ≠ 0 → x ≠ 29 → (x < 15 ∨ 21 < x) → Mc'.1 x = Mc.1 x) (m1 : stM Mm' 8 c (pfN c q (rpN c ds d))) (m2 : Mm'.1 0 11 = nI (d + 1)) (m3 : ∀ j, j < d + 1 → blk (Mm'.1 10) (15 * j) c (rpN c ds j)) (m4 : Mm'.2 = Mm.2) (m5 : ∀ j, j ≠ 11 → Mm'.1 0 j = Mm.1 0 j) (m6 : ∀ x, x ≠ 0 → x ≠ 10 → x ≠ 8 → x ≠ 17 → Mm'.1 x = Mm.1 x) : SimX c (fun j => if j = d then q else ds j) (d + 1) Mc' Mm' := by
  obtain ⟨⟨hc, h40, a3, a4, a5, a6, a7, a8, a9⟩, b2, b3, b4, b5, b6⟩ := h
  have er : ∀ j, j ≤ d → rpN c (fun j => if j = d then q else ds j) j = rpN c ds j := fun j hj => rpN_cong (fun i hi => if_neg (by omega))
  have er2 : rpN c (fun j => if j = d then q else ds j) (d + 1) = pfN c q (rpN c ds d) := by
    rw [rpN, er d (by omega)]
    show pfN c (if d = d then q else ds d) _ = _
    rw [if_pos rfl]
  refine ⟨⟨hc, by omega, fun j hj => ?_, by rw [er2]; exact c1, c2, fun j hj => ?_, by rw [er2]; exact m1, m2, fun j hj => by rw [er j (by omega)]; exact m3 j hj⟩, b2.cg (fun a q1 q2 => c6 a (by omega) (by omega) (by omega)) (m6 11 (by omega) (by omega) (by omega) (by omega)) (m6 12 (by omega) (by omega) (by omega) (by omega)), b3.cg (fun a q1 q2 => c6 a (by omega) (by omega) (by omega)) (m6 1 (by omega) (by omega) (by omega) (by omega)) (m6 2 (by omega) (by omega) (by omega) (by omega)), b4.cg (fun a q1 q2 => c6 a (by omega) (by omega) (by omega)) (m6 3 (by omega) (by omega) (by omega) (by omega)) (m6 4 (by omega) (by omega) (by omega) (by omega)), b5.cg (c6 42 (by omega) (by omega) (by omega)) (c5 12 (by omega)) (m6 13 (by omega) (by omega) (by omega) (by omega)) (m5 17 (by omega)), b6.cg (c5 13 (by omega)) c4 (m5 14 (by omega)) m4⟩
  · show okD c (if j = d then q else ds j)
    by_cases e : j = d
    · rw [if_pos e]; exact hq
    · rw [if_neg e]; exact a3 j (by omega)
  · show Mc'.1 29 j = nI (if j = d then q else ds j)
    rw [c3]
    by_cases e : j = d
    · rw [if_pos e, e, upd_same]
    · rw [if_neg e, upd_ne _ _ e]; exact a6 j (by omega)
theorem has_or {Mc Mm : Mem} {c : Cfg} {ds : Nat → Nat} {d : Nat} (h : SimX c ds d Mc Mm) (x : Int32) : (∃ i, i < c.1 ∧ x = nI i ∧ f_X0_has 15 x Mc = some 1 ∧ f_X2_isTube x Mm = some 1) ∨ (f_X0_has 15 x Mc = some 0 ∧ f_X2_isTube x Mm = some 0) := by
  obtain ⟨hc, h40, a3, a4, a5, a6, a7, a8, a9⟩ := h.1
  rcases Classical.em (∃ i, i < c.1 ∧ x = nI i) with ⟨i, hi, rfl⟩ | hx
  · exact Or.inl ⟨i, hi, rfl, cs_has a4 hc hi, ms_isTube a7 hc hi⟩
  · exact Or.inr ⟨cs_hasN a4 hc hx, ms_isTubeN a7 hc hx⟩
theorem full_or {d : Nat} (hd : d ≤ 40) : d = 40 ∨ d < 40 := by omega
theorem tt_set {Mc Mm : Mem} (h0 : Sim Mc Mm) (x y : Int32) : Both (f_X1_set x y Mc) (f_X2_set x y Mm) := by
  obtain ⟨c, ds, d, h⟩ := id h0
  obtain ⟨hc, h40, a3, a4, a5, a6, a7, a8, a9⟩ := id h.1
  have h7 := hc.1
  unfold f_X1_set f_X2_set
  rcases has_or h x with ⟨i, hi, rfl, e1, e2⟩ | ⟨e1, e2⟩
  · obtain ⟨b1, b2, b3, b4⟩ := hc.2 i hi
    rw [e1, e2, bR_s, bR_s, if10, if10]
    simp only [grd_t (inb_t (show i < 7 by omega) (show 7 < 2147483648 by omega)), ixn (show i < 2147483648 by omega)]
    rw [(a4.2.2 i hi).2.1, (a7.2.2 i hi).2.1, show nI (c.2.2.1 i) - 1 = nI (c.2.2.1 i - 1) from subN (b := 1) (by omega)]
    rcases in_row (x := y) (M := Mc) (m := c.2.2.1 i - 1) (by omega) with ⟨v, hv, rfl, g1, g2⟩ | ⟨g1, g2⟩
    · rw [g2, show f_X2_in (nI v) 0 (nI (c.2.2.1 i - 1)) Mm = some 1 from g1, bR_s, bR_s, if10, if10, show f_X1_hasRoomFor 1 Mc = some (if d + 1 ≤ 40 then 1 else 0) from roomY (n := 1) a5 (by omega), bR_s, a8, show (40 : Int32) = nI 40 from rfl, iteEq (by omega) (by omega)]
      rcases full_or h40 with hd | hd
      · rw [if_pos hd, if_neg (show ¬ d + 1 ≤ 40 by omega), if00]
        exact both_bad h0 _
      · rw [if_neg (show ¬ d = 40 by omega), if_pos (show d + 1 ≤ 40 by omega), if10]
        have hq : okD c (1 * 4096 + i * 512 + v) := by
          obtain ⟨z1, z2, z3⟩ := dA_of (a := 1) (show i < 8 by omega) (show v < 512 by omega)
          refine ⟨by omega, fun _ => by rw [z2, z3]; exact ⟨hi, by omega⟩, fun q => by rw [z1] at q; omega, fun q => by rw [z1] at q; omega⟩
        obtain ⟨Mc', k1, k2, k3, k4, k5, k6, k7⟩ := cs_addDeed a4 hc h.okS (by have := h.t; omega) a5 hd (a := 1) (i := i) (v := v) (by omega) (by omega) (by omega) hq
        obtain ⟨M1, p1, p2, p3, p4, p5, p6, p7⟩ := ms_notes h.1 hd
        rw [show f_X1_addDeed 1 (nI i) (nI v) Mc = some Mc' from k1, p1, bR_s, bR_s]
        simp only [show (1 : Int32) + nI i = nI (1 + i) from addN 1 i, grd_t (inb_t (show 1 + i < 15 by omega) (show 15 < 2147483648 by omega)), ixn (show 1 + i < 2147483648 by omega), lt]
        have hp : pfN c (1 * 4096 + i * 512 + v) (rpN c ds d) = swN (rpN c ds d) i ((rpN c ds d).2.1 i ^^^ 2 ^ v) := by
          obtain ⟨z1, z2, z3⟩ := dA_of (a := 1) (show i < 8 by omega) (show v < 512 by omega)
          unfold pfN
          rw [z1, z2, z3]; rfl
        have h2v : 2 ^ v < 2 ^ 9 := Nat.pow_lt_pow_right (by decide) (by omega)
        rw [(p2.2.2 i hi).2.2.2.1, show shl 1 (nI v) = nI (1 * 2 ^ v) from shlN (n := 1) (by omega) (by omega), Nat.one_mul, xorN]
        have hm := stM_sw (Or.inl rfl) hc p2 hi ((rpN c ds d).2.1 i ^^^ 2 ^ v)
        refine ⟨nI ((rpN c ds d).2.1 i ^^^ 2 ^ v), Mc', sI M1 8 (1 + i) (nI ((rpN c ds d).2.1 i ^^^ 2 ^ v)), ?_, ?_, c, _, d + 1, deed_sim h hd hq k2 k3 k4 k5 k6 k7 (by rw [hp]; exact hm) (by rw [sI_n _ _ _ _ (by omega)]; exact p3) (fun j hj => by rw [sI_n _ _ _ _ (by omega)]; exact p4 j hj) p5 (fun j hj => by rw [sI_n _ _ _ _ (by omega)]; exact p6 j hj) (fun x x0 x10 x8 _ => by rw [sI_n _ _ _ _ x8, p7 x x0 x10])⟩
        · have q := (k2.2.2 i hi).2.2.2.1
          rw [show Mc'.1 (15 + 4) i = nI ((rpN c ds d).2.1 i ^^^ 2 ^ v) by
            rw [q, hp]
            show nI (if i = i then _ else _) = _
            rw [if_pos rfl]]
        · rw [sI_1, upd_same]
    · rw [g2, show f_X2_in y 0 (nI (c.2.2.1 i - 1)) Mm = some 0 from g1, bR_s, bR_s, if00, if00]
      exact both_bad h0 _
  · rw [e1, e2, bR_s, bR_s, if00, if00]
    exact both_bad h0 _
theorem tt_swap {Mc Mm : Mem} (h0 : Sim Mc Mm) (x y : Int32) : Both (f_X1_swap x y Mc) (f_X2_swap x y Mm) := by
  obtain ⟨c, ds, d, h⟩ := id h0
  obtain ⟨hc, h40, a3, a4, a5, a6, a7, a8, a9⟩ := id h.1
  have h7 := hc.1
  unfold f_X1_swap f_X2_swap
  rcases has_or h x with ⟨i, hi, rfl, e1, e2⟩ | ⟨e1, e2⟩
  · rw [e1, e2, bR_s, bR_s, if10, if10]
    rcases has_or h y with ⟨j, hj, rfl, e3, e4⟩ | ⟨e3, e4⟩
    · rw [e3, e4, bR_s, bR_s, if10, if10, iteEq (by omega) (by omega), iteEq (by omega) (by omega)]
      by_cases eij : i = j
      · rw [if_pos eij, if_pos eij]
        exact both_bad h0 _
      · rw [if_neg eij, if_neg eij, show f_X1_hasRoomFor 1 Mc = some (if d + 1 ≤ 40 then 1 else 0) from roomY (n := 1) a5 (by omega), bR_s, a8, show (40 : Int32) = nI 40 from rfl, iteEq (by omega) (by omega)]
        rcases full_or h40 with hd | hd
        · rw [if_pos hd, if_neg (show ¬ d + 1 ≤ 40 by omega), if00]
          exact both_bad h0 _
        · rw [if_neg (show ¬ d = 40 by omega), if_pos (show d + 1 ≤ 40 by omega), if10]
          obtain ⟨z1, z2, z3⟩ := dA_of (a := 2) (show i < 8 by omega) (show j < 512 by omega)
          have hq : okD c (2 * 4096 + i * 512 + j) := ⟨by omega, fun q => by rw [z1] at q; omega, fun _ => by rw [z2, z3]; exact ⟨hi, hj⟩, fun q => by rw [z1] at q; omega⟩
          obtain ⟨Mc', k1, k2, k3, k4, k5, k6, k7⟩ := cs_addDeed a4 hc h.okS (by have := h.t; omega) a5 hd (a := 2) (i := i) (v := j) (by omega) (by omega) (by omega) hq
          obtain ⟨M1, p1, p2, p3, p4, p5, p6, p7⟩ := ms_notes h.1 hd
          obtain ⟨M2, r1, r2, r3⟩ := ms_swapped (Or.inl rfl) p2 hc hi hj
          have hp : pfN c (2 * 4096 + i * 512 + j) (rpN c ds d) = wayN (rpN c ds d) i j := by
            unfold pfN
            rw [z1, z2, z3]; rfl
          rw [show f_X1_addDeed 2 (nI i) (nI j) Mc = some Mc' from k1, p1, bR_s, bR_s, r1, bR_s]
          simp only [show (8 : Int32) + nI i = nI (8 + i) from addN 8 i, grd_t (inb_t (show 8 + i < 15 by omega) (show 15 < 2147483648 by omega)), ixn (show 8 + i < 2147483648 by omega), grd_t (inb_t (show i < 7 by omega) (show 7 < 2147483648 by omega)), ixn (show i < 2147483648 by omega)]
          refine ⟨nI ((wayN (rpN c ds d) i j).2.2 i), Mc', M2, ?_, ?_, c, _, d + 1, deed_sim h hd hq k2 k3 k4 k5 k6 k7 (by rw [hp]; exact r2) (by rw [r3.2 0 (by omega) (by omega)]; exact p3) (fun j hj => by rw [r3.2 10 (by omega) (by omega)]; exact p4 j hj) (r3.1.trans p5) (fun j hj => by rw [r3.2 0 (by omega) (by omega)]; exact p6 j hj) (fun x x0 x10 x8 x17 => by rw [r3.2 x x8 x17, p7 x x0 x10])⟩
          · rw [(k2.2.2 i hi).2.2.2.2, hp]
          · rw [(r2.2.2 i hi).2.2.2.2]
    · rw [e3, e4, bR_s, bR_s, if00, if00]
      exact both_bad h0 _
  · rw [e1, e2, bR_s, bR_s, if00, if00]
    exact both_bad h0 _
theorem tt_tick {Mc Mm : Mem} (h0 : Sim Mc Mm) : Both (f_X1_tick Mc) (f_X2_tick Mm) := by
  obtain ⟨c, ds, d, h⟩ := id h0
  obtain ⟨hc, h40, a3, a4, a5, a6, a7, a8, a9⟩ := id h.1
  have h7 := hc.1
  have ht := h.t
  unfold f_X1_tick f_X2_tick
  rw [a4.1, a7.1, show (0 : Int32) = nI 0 from rfl, iteEq (by omega) (by omega), iteEq (by omega) (by omega)]
  by_cases en : c.1 = 0
  · rw [if_pos en, if_pos en]
    exact both_bad h0 _
  · rw [if_neg en, if_neg en, ← n0, g15, ix0, a4.2.1, a7.2.1, show (99 : Int32) = nI 99 from rfl, iteLt (by omega) (by omega), iteEq (by omega) (by omega), if_pos (by omega), if_neg (by omega), show f_X1_hasRoomFor 1 Mc = some (if d + 1 ≤ 40 then 1 else 0) from roomY (n := 1) a5 (by omega), bR_s, a8, show (40 : Int32) = nI 40 from rfl, iteEq (by omega) (by omega)]
    rcases full_or h40 with hd | hd
    · rw [if_pos hd, if_neg (show ¬ d + 1 ≤ 40 by omega), if00]
      exact both_bad h0 _
    · rw [if_neg (show ¬ d = 40 by omega), if_pos (show d + 1 ≤ 40 by omega), if10]
      obtain ⟨z1, z2, z3⟩ := dA_of (a := 0) (show 0 < 8 by omega) (show 0 < 512 by omega)
      have hq : okD c (0 * 4096 + 0 * 512 + 0) := okD_0 (Or.inl z1) (by decide)
      obtain ⟨Mc', k1, k2, k3, k4, k5, k6, k7⟩ := cs_addDeed a4 hc h.okS (by omega) a5 hd (a := 0) (i := 0) (v := 0) (by omega) (by omega) (by omega) hq
      obtain ⟨M1, p1, p2, p3, p4, p5, p6, p7⟩ := ms_notes h.1 hd
      obtain ⟨M2, r1, r2, r3⟩ := ms_tickOn (Or.inl rfl) hc h.okS (by omega) p2
      have hp : pfN c (0 * 4096 + 0 * 512 + 0) (rpN c ds d) = tkN c (rpN c ds d) := by
        unfold pfN
        rw [z1]; rfl
      rw [show f_X1_addDeed 0 0 0 Mc = some Mc' from k1, p1, bR_s, bR_s, r1, bR_s, cs_pulses k2 hc, ms_pulses r2 hc (okS_tk hc h.okS), bR_s, bR_s, hp]
      exact ⟨_, _, _, rfl, rfl, c, _, d + 1, deed_sim h hd hq k2 k3 k4 k5 k6 k7 (by rw [hp]; exact r2) (by rw [r3.2 0 (by omega) (by omega)]; exact p3) (fun j hj => by rw [r3.2 10 (by omega) (by omega)]; exact p4 j hj) (r3.1.trans p5) (fun j hj => by rw [r3.2 0 (by omega) (by omega)]; exact p6 j hj) (fun x x0 x10 x8 x17 => by rw [r3.2 x x8 x17, p7 x x0 x10])⟩
theorem tt_word {Mc Mm : Mem} (h0 : Sim Mc Mm) (x y : Int32) : Both (f_X1_word x y Mc) (f_X2_word x y Mm) := by
  obtain ⟨c, ds, d, h⟩ := id h0
  obtain ⟨hc, h40, a3, a4, a5, a6, a7, a8, a9⟩ := id h.1
  have h7 := hc.1
  unfold f_X1_word f_X2_word
  rcases has_or h x with ⟨i, hi, rfl, e1, e2⟩ | ⟨e1, e2⟩
  · obtain ⟨b1, b2, b3, b4⟩ := hc.2 i hi
    have hw := okW hc h.okS hi
    have h3 : 2 ^ c.2.2.1 i ≤ 2 ^ 9 := Nat.pow_le_pow_right (by decide) b3
    rw [e1, e2, bR_s, bR_s, if10, if10]
    by_cases hy : y < 0
    · rw [cs_canHaveN hy, ms_isWordN hy, bR_s, bR_s, if00, if00]
      exact both_bad h0 _
    · obtain ⟨v, hv, rfl⟩ := nI_of hy
      rw [cs_canHave a4 hc hi hv, ms_isWord a7 hc hi hv, bR_s, bR_s]
      by_cases ev : v < 2 ^ c.2.2.1 i
      · rw [if_pos ev, if10, if10]
        simp only [show (1 : Int32) + nI i = nI (1 + i) from addN 1 i, grd_t (inb_t (show 1 + i < 15 by omega) (show 15 < 2147483648 by omega)), ixn (show 1 + i < 2147483648 by omega), grd_t (inb_t (show i < 7 by omega) (show 7 < 2147483648 by omega)), ixn (show i < 2147483648 by omega), (a4.2.2 i hi).2.2.2.1, (a7.2.2 i hi).2.2.2.1]
        rw [iteEq (by omega) (by omega), iteEq (by omega) (by omega)]
        by_cases es : (rpN c ds d).2.1 i = v
        · rw [if_pos es, if_pos es]
          exact both_bad h0 _
        · rw [if_neg es, if_neg es, show f_X1_hasRoomFor 1 Mc = some (if d + 1 ≤ 40 then 1 else 0) from roomY (n := 1) a5 (by omega), bR_s, a8, show (40 : Int32) = nI 40 from rfl, iteEq (by omega) (by omega)]
          rcases full_or h40 with hd | hd
          · rw [if_pos hd, if_neg (show ¬ d + 1 ≤ 40 by omega), if00]
            exact both_bad h0 _
          · rw [if_neg (show ¬ d = 40 by omega), if_pos (show d + 1 ≤ 40 by omega), if10]
            obtain ⟨z1, z2, z3⟩ := dA_of (a := 3) (show i < 8 by omega) (show v < 512 by omega)
            have hq : okD c (3 * 4096 + i * 512 + v) := ⟨by omega, fun q => by rw [z1] at q; omega, fun q => by rw [z1] at q; omega, fun _ => by rw [z2, z3]; exact ⟨hi, ev⟩⟩
            obtain ⟨Mc', k1, k2, k3, k4, k5, k6, k7⟩ := cs_addDeed a4 hc h.okS (by have := h.t; omega) a5 hd (a := 3) (i := i) (v := v) (by omega) (by omega) (by omega) hq
            obtain ⟨M1, p1, p2, p3, p4, p5, p6, p7⟩ := ms_notes h.1 hd
            have hp : pfN c (3 * 4096 + i * 512 + v) (rpN c ds d) = swN (rpN c ds d) i v := by
              unfold pfN
              rw [z1, z2, z3]; rfl
            have hm := stM_sw (Or.inl rfl) hc p2 hi v
            rw [show f_X1_addDeed 3 (nI i) (nI v) Mc = some Mc' from k1, p1, bR_s, bR_s]
            exact ⟨_, Mc', sI M1 8 (1 + i) (nI v), rfl, rfl, c, _, d + 1, deed_sim h hd hq k2 k3 k4 k5 k6 k7 (by rw [hp]; exact hm) (by rw [sI_n _ _ _ _ (by omega)]; exact p3) (fun j hj => by rw [sI_n _ _ _ _ (by omega)]; exact p4 j hj) p5 (fun j hj => by rw [sI_n _ _ _ _ (by omega)]; exact p6 j hj) (fun x x0 x10 x8 _ => by rw [sI_n _ _ _ _ x8, p7 x x0 x10])⟩
      · rw [if_neg ev, if00, if00]
        exact both_bad h0 _
  · rw [e1, e2, bR_s, bR_s, if00, if00]
    exact both_bad h0 _
