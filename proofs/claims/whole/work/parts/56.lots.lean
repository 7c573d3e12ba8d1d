/-! days by lots -/
theorem neqN {a b : Nat} (ha : a < 2147483648) (hb : b < 2147483648) (h : a ≠ b) : ¬ nI a = nI b := fun q => h ((nI_eq ha hb).mp q)
theorem d_slot {Mc Mm : Mem} {c : Cfg} {ds : Nat → Nat} {d : Nat} (h : SimX c ds d Mc Mm) (hd : d < 40) {i v : Nat} (hi : i < c.1) (hv : v < c.2.2.1 i) : ∃ Mc' M1 es, f_X1_addDeed 1 (nI i) (nI v) Mc = some Mc' ∧ f_X2_notes Mm = some M1 ∧ M1.1 0 4 = nI c.1 ∧ M1.1 6 i = nI (c.2.2.1 i) ∧ M1.1 8 (1 + i) = nI ((rpN c ds d).2.1 i) ∧ SimX c es (d + 1) Mc' (sI M1 8 (1 + i) (nI ((rpN c ds d).2.1 i ^^^ 2 ^ v))) := by
  obtain ⟨hc, h40, a3, a4, a5, a6, a7, a8, a9⟩ := id h.1
  have h7 := hc.1
  obtain ⟨b1, b2, b3, b4⟩ := hc.2 i hi
  obtain ⟨z1, z2, z3⟩ := dA_of (a := 1) (show i < 8 by omega) (show v < 512 by omega)
  have hq : okD c (1 * 4096 + i * 512 + v) := ⟨by omega, fun _ => by rw [z2, z3]; exact ⟨hi, by omega⟩, fun q => by rw [z1] at q; omega, fun q => by rw [z1] at q; omega⟩
  obtain ⟨Mc', k1, k2, k3, k4, k5, k6, k7⟩ := cs_addDeed a4 hc h.okS (by have := h.t; omega) a5 hd (a := 1) (i := i) (v := v) (by omega) (by omega) (by omega) hq
  obtain ⟨M1, p1, p2, p3, p4, p5, p6, p7⟩ := ms_notes h.1 hd
  have hp : pfN c (1 * 4096 + i * 512 + v) (rpN c ds d) = swN (rpN c ds d) i ((rpN c ds d).2.1 i ^^^ 2 ^ v) := by
    unfold pfN
    rw [z1, z2, z3]; rfl
  have hm := stM_sw (Or.inl rfl) hc p2 hi ((rpN c ds d).2.1 i ^^^ 2 ^ v)
  exact ⟨Mc', M1, _, k1, p1, p2.1, (p2.2.2 i hi).2.1, (p2.2.2 i hi).2.2.2.1, deed_sim h hd hq k2 k3 k4 k5 k6 k7 (by rw [hp]; exact hm) (by rw [sI_n _ _ _ _ (by omega)]; exact p3) (fun j hj => by rw [sI_n _ _ _ _ (by omega)]; exact p4 j hj) p5 (fun j hj => by rw [sI_n _ _ _ _ (by omega)]; exact p6 j hj) (fun x x0 x10 x8 _ => by rw [sI_n _ _ _ _ x8, p7 x x0 x10])⟩
theorem d_ways {Mc Mm : Mem} {c : Cfg} {ds : Nat → Nat} {d : Nat} (h : SimX c ds d Mc Mm) (hd : d < 40) {i j : Nat} (hi : i < c.1) (hj : j < c.1) : ∃ Mc' M1 M2 es, f_X1_addDeed 2 (nI i) (nI j) Mc = some Mc' ∧ f_X2_notes Mm = some M1 ∧ M1.1 0 4 = nI c.1 ∧ f_X2_swapped 8 15 (nI i) (nI j) M1 = some M2 ∧ SimX c es (d + 1) Mc' M2 := by
  obtain ⟨hc, h40, a3, a4, a5, a6, a7, a8, a9⟩ := id h.1
  have h7 := hc.1
  obtain ⟨z1, z2, z3⟩ := dA_of (a := 2) (show i < 8 by omega) (show j < 512 by omega)
  have hq : okD c (2 * 4096 + i * 512 + j) := ⟨by omega, fun q => by rw [z1] at q; omega, fun _ => by rw [z2, z3]; exact ⟨hi, hj⟩, fun q => by rw [z1] at q; omega⟩
  obtain ⟨Mc', k1, k2, k3, k4, k5, k6, k7⟩ := cs_addDeed a4 hc h.okS (by have := h.t; omega) a5 hd (a := 2) (i := i) (v := j) (by omega) (by omega) (by omega) hq
  obtain ⟨M1, p1, p2, p3, p4, p5, p6, p7⟩ := ms_notes h.1 hd
  obtain ⟨M2, r1, r2, r3⟩ := ms_swapped (Or.inl rfl) p2 hc hi hj
  have hp : pfN c (2 * 4096 + i * 512 + j) (rpN c ds d) = wayN (rpN c ds d) i j := by
    unfold pfN
    rw [z1, z2, z3]; rfl
  exact ⟨Mc', M1, M2, _, k1, p1, p2.1, r1, deed_sim h hd hq k2 k3 k4 k5 k6 k7 (by rw [hp]; exact r2) (by rw [r3.2 0 (by omega) (by omega)]; exact p3) (fun j hj => by rw [r3.2 10 (by omega) (by omega)]; exact p4 j hj) (r3.1.trans p5) (fun j hj => by rw [r3.2 0 (by omega) (by omega)]; exact p6 j hj) (fun x x0 x10 x8 x17 => by rw [r3.2 x x8 x17, p7 x x0 x10])⟩
theorem d_tick {Mc Mm : Mem} {c : Cfg} {ds : Nat → Nat} {d : Nat} (h : SimX c ds d Mc Mm) (hd : d < 40) : ∃ Mc' M1 M2 es t, f_X1_addDeed 0 0 0 Mc = some Mc' ∧ f_X2_notes Mm = some M1 ∧ t < 99 ∧ M1.1 8 0 = nI t ∧ Mc.1 15 7 = nI t ∧ f_X2_tickOn 8 15 M1 = some M2 ∧ SimX c es (d + 1) Mc' M2 := by
  obtain ⟨hc, h40, a3, a4, a5, a6, a7, a8, a9⟩ := id h.1
  have h7 := hc.1
  have ht := h.t
  obtain ⟨z1, z2, z3⟩ := dA_of (a := 0) (show 0 < 8 by omega) (show 0 < 512 by omega)
  have hq : okD c (0 * 4096 + 0 * 512 + 0) := okD_0 (Or.inl z1) (by decide)
  obtain ⟨Mc', k1, k2, k3, k4, k5, k6, k7⟩ := cs_addDeed a4 hc h.okS (by omega) a5 hd (a := 0) (i := 0) (v := 0) (by omega) (by omega) (by omega) hq
  obtain ⟨M1, p1, p2, p3, p4, p5, p6, p7⟩ := ms_notes h.1 hd
  obtain ⟨M2, r1, r2, r3⟩ := ms_tickOn (Or.inl rfl) hc h.okS (by omega) p2
  have hp : pfN c (0 * 4096 + 0 * 512 + 0) (rpN c ds d) = tkN c (rpN c ds d) := by
    unfold pfN
    rw [z1]; rfl
  exact ⟨Mc', M1, M2, _, (rpN c ds d).1, k1, p1, by omega, p2.2.1, a4.2.1, r1, deed_sim h hd hq k2 k3 k4 k5 k6 k7 (by rw [hp]; exact r2) (by rw [r3.2 0 (by omega) (by omega)]; exact p3) (fun j hj => by rw [r3.2 10 (by omega) (by omega)]; exact p4 j hj) (r3.1.trans p5) (fun j hj => by rw [r3.2 0 (by omega) (by omega)]; exact p6 j hj) (fun x x0 x10 x8 x17 => by rw [r3.2 x x8 x17, p7 x x0 x10])⟩
theorem d_lot {Mc Mm : Mem} {c : Cfg} {ds : Nat → Nat} {d : Nat} (h : SimX c ds d Mc Mm) (hd : d < 40) (hn : 0 < c.1) {m : Nat} (hm : m < 2147483648) : ∃ Mc' Mm' es, f_X1_doByLot (nI m) Mc = some Mc' ∧ f_X2_lot (nI m) Mm = some Mm' ∧ SimX c es (d + 1) Mc' Mm' := by
  obtain ⟨hc, h40, a3, a4, a5, a6, a7, a8, a9⟩ := id h.1
  have h7 := hc.1
  have hi : m / 8 % c.1 < c.1 := Nat.mod_lt _ hn
  obtain ⟨b1, b2, b3, b4⟩ := hc.2 _ hi
  have hv : m / 64 % c.2.2.1 (m / 8 % c.1) < c.2.2.1 (m / 8 % c.1) := Nat.mod_lt _ (by omega)
  have hj : (m / 8 % c.1 + 1) % c.1 < c.1 := Nat.mod_lt _ hn
  have e0 : nI m / 8 = nI (m / 8) := divN (d := 8) (by omega) (by omega) (by omega)
  have e1 : irm (nI (m / 8)) (nI c.1) = nI (m / 8 % c.1) := irmN (by omega) hn (by omega)
  have e2 : irm (nI m) 8 = nI (m % 8) := irmN (d := 8) (by omega) (by omega) (by omega)
  have e3 : irm (nI (m / 8 % c.1) + 1) (nI c.1) = nI ((m / 8 % c.1 + 1) % c.1) := by rw [nI_1]; exact irmN (by omega) hn (by omega)
  have e4 : irm (nI m / 64) (nI (c.2.2.1 (m / 8 % c.1))) = nI (m / 64 % c.2.2.1 (m / 8 % c.1)) := by
    rw [show nI m / 64 = nI (m / 64) from divN (d := 64) (by omega) (by omega) (by omega)]
    exact irmN (by omega) (by omega) (by omega)
  have l1 : Mc.1 (15 + 2) (m / 8 % c.1) = nI (c.2.2.1 (m / 8 % c.1)) := (a4.2.2 _ hi).2.1
  unfold f_X1_doByLot f_X2_lot
  simp only [a4.1, a7.1, e0, e1, e2, e3, grd_t (nzN hn (show c.1 < 2147483648 by omega)), grd_t (inb_t (show m / 8 % c.1 < 7 by omega) (show 7 < 2147483648 by omega)), ixn (show m / 8 % c.1 < 2147483648 by omega), l1, e4, jn, lt, show (1 : Int32) + nI (m / 8 % c.1) = nI (1 + m / 8 % c.1) from addN 1 _, grd_t (inb_t (show 1 + m / 8 % c.1 < 15 by omega) (show 15 < 2147483648 by omega)), ixn (show 1 + m / 8 % c.1 < 2147483648 by omega), grd_t (nzN (show 0 < c.2.2.1 (m / 8 % c.1) by omega) (show c.2.2.1 (m / 8 % c.1) < 2147483648 by omega))]
  rw [if_pos (show (0 : Int32) < nI c.1 from nI_lt (a := 0) hn (by omega))]
  by_cases g0 : m % 8 = 0
  · rw [if_pos (show nI (m % 8) = 0 by rw [g0]; rfl)]
    obtain ⟨Mc', M1, M2, es, k1, k2, k3, k4, k5⟩ := d_ways h hd hi hj
    rw [k1, k2, bR_s, bR_s]
    simp only [k3, grd_t (nzN hn (show c.1 < 2147483648 by omega)), e3]
    rw [if_pos (show nI (m % 8) = 0 by rw [g0]; rfl), k4, bR_s]
    exact ⟨_, _, es, rfl, rfl, k5⟩
  · by_cases g1 : m % 8 < 4
    · obtain ⟨Mc', M1, es, k1, k2, k3, k4, k5, k6⟩ := d_slot h hd hi hv
      have h2v : 2 ^ (m / 64 % c.2.2.1 (m / 8 % c.1)) < 2 ^ 9 := Nat.pow_lt_pow_right (by decide) (by omega)
      have A : ∀ {α : Type} (x y : α), (if nI (c.2.2.1 (m / 8 % c.1)) ≤ 0 then x else y) = y := fun x y => if_neg (show ¬ nI (c.2.2.1 (m / 8 % c.1)) ≤ nI 0 from nI_ge (by omega) (by omega))
      rw [k2, bR_s, A, k1, bR_s]
      simp only [k4, e4, grd_t (nzN (show 0 < c.2.2.1 (m / 8 % c.1) by omega) (show c.2.2.1 (m / 8 % c.1) < 2147483648 by omega)), k5, show shl 1 (nI (m / 64 % c.2.2.1 (m / 8 % c.1))) = nI (1 * 2 ^ (m / 64 % c.2.2.1 (m / 8 % c.1))) from shlN (n := 1) (by omega) (by omega), Nat.one_mul, xorN]
      rw [if_neg (show ¬ nI (m % 8) = 0 from nI_ne0 (by omega) (by omega)), if_neg (show ¬ nI (m % 8) = 0 from nI_ne0 (by omega) (by omega)), if_neg (show ¬ (4 : Int32) ≤ nI (m % 8) from nI_ge (b := 4) g1 (by omega))]
      refine ⟨Mc', _, es, ?_, rfl, k6⟩
      rcases (show m % 8 = 1 ∨ m % 8 = 2 ∨ m % 8 = 3 by omega) with q | q | q <;> rw [q] <;> rfl
    · obtain ⟨Mc', M1, M2, es, t, k1, k2, k3, k4, k5, k6, k7⟩ := d_tick h hd
      rw [k2, bR_s, if_neg (show ¬ nI (m % 8) = 0 from nI_ne0 (by omega) (by omega)), if_neg (show ¬ nI (m % 8) = 1 from neqN (b := 1) (by omega) (by omega) (by omega)), if_neg (show ¬ nI (m % 8) = 2 from neqN (b := 2) (by omega) (by omega) (by omega)), if_neg (show ¬ nI (m % 8) = 3 from neqN (b := 3) (by omega) (by omega) (by omega)), if_neg (show ¬ nI (m % 8) = 0 from nI_ne0 (by omega) (by omega)), if_pos (show (4 : Int32) ≤ nI (m % 8) from nI_le (a := 4) (by omega) (by omega)), g15, ix0, k4, k5, if_neg (show ¬ (99 : Int32) ≤ nI t from nI_ge (b := 99) k3 (by omega)), if_neg (show ¬ (99 : Int32) ≤ nI t from nI_ge (b := 99) k3 (by omega)), k1, bR_s, k6, bR_s]
      exact ⟨_, _, es, rfl, rfl, k7⟩
theorem lotN {m : Nat} (hm : m < 2147483648) : lrm (lN m * 48271) 2147483647 = lN (m * 48271 % 2147483647) := by
  unfold lrm
  rw [show (48271 : Int64) = lN 48271 from rfl, lN_mul, show (2147483647 : Int64) = lN 2147483647 from rfl]
  exact pk_lRem (by omega) (by omega) (by omega)
theorem b_lotsL {n0 : Nat} (hn0 : n0 ≤ 20) (K1 K2 : Mem → Option (Int32 × Mem)) (hK : ∀ c ds d Nc Nm, SimX c ds d Nc Nm → Both (K1 Nc) (K2 Nm)) : ∀ (n j m : Nat) (c : Cfg) (ds : Nat → Nat) (d : Nat) (Nc Nm : Mem), SimX c ds d Nc Nm → 0 < c.1 → m < 2147483648 → j ≤ n0 → d + (n0 - j) ≤ 40 → n0 - j < n → Both (f_X1_lots_L56 (nI n0) K1 n (lN m) (nI j) Nc) (f_X2_lots_L52 (nI n0) K2 n (lN m) (nI j) Nm)
  | 0, j, m, c, ds, d, Nc, Nm, _, _, _, _, _, h => by omega
  | n + 1, j, m, c, ds, d, Nc, Nm, h, hc1, hm, hj, hd, hn => by
    rw [f_X1_lots_L56, f_X2_lots_L52, iteLe (by omega) (by omega), iteLe (by omega) (by omega)]
    by_cases e : n0 ≤ j
    · rw [if_pos e, if_pos e]
      exact hK _ _ _ _ _ h
    · have hm2 : m * 48271 % 2147483647 < 2147483647 := Nat.mod_lt _ (by omega)
      obtain ⟨P1, P2, es, q1, q2, q3⟩ := d_lot h (by omega) hc1 (show m * 48271 % 2147483647 < 2147483648 by omega)
      rw [if_neg e, if_neg e, lotN hm, lN_i, q1, q2, bR_s, bR_s, show nI j + 1 = nI (j + 1) from nI_1 j]
      exact b_lotsL hn0 K1 K2 hK n (j + 1) _ c es (d + 1) P1 P2 q3 hc1 (by omega) (by omega) (by omega) (by omega)
theorem tt_lots {Mc Mm : Mem} (h0 : Sim Mc Mm) (x y : Int32) : Both (f_X1_lots x y Mc) (f_X2_lots x y Mm) := by
  obtain ⟨c, ds, d, h⟩ := id h0
  obtain ⟨hc, h40, a3, a4, a5, a6, a7, a8, a9⟩ := id h.1
  have h7 := hc.1
  unfold f_X1_lots f_X2_lots
  obtain ⟨fu, hfu, hf2⟩ := FUx
  rw [← hfu]
  rcases in_rng x 1 20 (by omega) (by omega) Mc Mm with ⟨n0, hn1, hn2, rfl, e1, e2⟩ | ⟨e1, e2⟩
  · rw [show f_X1_isWithin (nI n0) 1 20 Mc = some 1 from e1, show f_X2_in (nI n0) 1 20 Mm = some 1 from e2, bR_s, bR_s, if10, if10]
    by_cases y0 : y < 1
    · rw [if_pos y0, (inNo (M := Mm) (b := 2147483646) (Or.inl y0)).1, bR_s, if00]
      exact both_bad h0 _
    · have y1 : ¬ y < 0 := fun q => y0 (Int32.lt_of_lt_of_le q (by decide))
      obtain ⟨m, hm, rfl⟩ := nI_of y1
      rw [if_neg y0, nI_l hm]
      by_cases ym : m < 2147483647
      · rw [if_pos (show lg_cmp (lN m) 2147483647 < 0 from (lg_cmp_lt _ _).mpr (show lN m < lN 2147483647 from (pk_lLT (by omega) (by omega)).mpr ym)), (inY (M := Mm) y0 (show ¬ (2147483646 : Int32) < nI m from nI_nlt (a := 2147483646) (by omega) (by omega))).1, bR_s, if10, a4.1, a7.1]
        by_cases en : c.1 = 0
        · rw [if_pos (show nI c.1 = 0 by rw [en]; rfl), if_pos (show nI c.1 = 0 by rw [en]; rfl)]
          exact both_bad h0 _
        · rw [if_neg (nI_ne0 (by omega) (by omega)), if_neg (nI_ne0 (by omega) (by omega)), roomY a5 (by omega), bR_s, a8, addN, show (40 : Int32) = nI 40 from rfl, iteLe (by omega) (by omega)]
          by_cases g : d + n0 ≤ 40
          · rw [if_pos g, if_pos g, if10]
            simp only [jn]
            refine b_lotsL hn2 _ _ (fun c ds d Nc Nm hN => ?_) fu 0 m c ds d Mc Mm h (by omega) (by omega) (by omega) (by omega) (by omega)
            rw [cs_pulses hN.1.2.2.2.1 hN.1.1, ms_pulses hN.1.2.2.2.2.2.2.1 hN.1.1 hN.okS, bR_s, bR_s]
            exact both_bad ⟨c, ds, d, hN⟩ _
          · rw [if_neg g, if_neg g, if00]
            exact both_bad h0 _
      · rw [if_neg (show ¬ lg_cmp (lN m) 2147483647 < 0 from fun q => ym ((pk_lLT (by omega) (by omega)).mp (show lN m < lN 2147483647 from (lg_cmp_lt _ _).mp q))), (inNo (M := Mm) (a := 1) (Or.inr (show (2147483646 : Int32) < nI m from nI_lt (a := 2147483646) (by omega) (by omega)))).1, bR_s, if00]
        exact both_bad h0 _
  · rw [show f_X1_isWithin x 1 20 Mc = some 0 from e1, show f_X2_in x 1 20 Mm = some 0 from e2, bR_s, bR_s, if00, if00]
    exact both_bad h0 _
