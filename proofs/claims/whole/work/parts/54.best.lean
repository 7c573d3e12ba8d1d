/-! what to do -/
theorem tr_again {c : Cfg} {ds : Nat → Nat} {d : Nat} {Nc Nm : Mem} (h : SimX c ds d Nc Nm) {i j m : Nat} (hi : i < c.1) (hj : j < c.1) (hm : m < 100) : ∃ P1 P2 Q1 Q2 R1 R2, f_X0_takeFrom 22 15 Nc = some P1 ∧ f_X2_asItIs Nm = some P2 ∧ f_X0_swapWays 22 (nI i) (nI j) P1 = some Q1 ∧ f_X2_swapped 9 15 (nI i) (nI j) P2 = some Q2 ∧ f_X0_goOn 22 (nI m) Q1 = some R1 ∧ f_X2_goes (nI m) Q2 = some R2 ∧ Try c ds d R1 R2 (itN c m (wayN (rpN c ds d) i j)) := by
  obtain ⟨P1, P2, k1, k2, k3, -, -⟩ := tr_start h
  have hc := h.1.1
  have ht := h.t
  obtain ⟨Q1, p1, p2, p3⟩ := cs_swapWays k3.2.1 hc hi hj
  obtain ⟨Q2, r1, r2, r3⟩ := ms_swapped (Or.inr rfl) k3.2.2.1 hc hi hj
  have hT : Try c ds d Q1 Q2 (wayN (rpN c ds d) i j) := ⟨scr_of k3.1 p3 r3, p2, r2, okS_way k3.2.2.2 hi hj⟩
  obtain ⟨R1, R2, s1, s2, s3, -, -⟩ := tr_go hT (m := m) (by omega) (by show (rpN c ds d).1 + m < 1000; omega)
  exact ⟨P1, P2, Q1, Q2, R1, R2, k1, k2, p1, r1, s1, s2, s3⟩
theorem b_best2 {c : Cfg} {ds : Nat → Nat} {d i m : Nat} (hi : i < c.1) (hm : m ≤ 40) (K1 K2 : Int32 → Int32 → Mem → Option (Int32 × Mem)) (hK : ∀ a b Nc Nm, SimX c ds d Nc Nm → Both (K1 a b Nc) (K2 a b Nm)) : ∀ (n j : Nat) (a b : Int32) (Nc Nm : Mem), SimX c ds d Nc Nm → j ≤ c.1 → c.1 - j < n → Both (f_X1_best_L76 (nI m) (nI i) K1 n a b (nI j) Nc) (f_X2_best_L61 (nI m) (nI i) K2 n a b (nI j) Nm)
  | 0, j, a, b, Nc, Nm, _, _, h => by omega
  | n + 1, j, a, b, Nc, Nm, h, hj, hn => by
    have hc := h.1.1
    have h7 := hc.1
    rw [f_X1_best_L76, f_X2_best_L61, h.1.2.2.2.1.1, h.1.2.2.2.2.2.2.1.1, iteLe (by omega) (by omega), iteLe (by omega) (by omega)]
    by_cases e : c.1 ≤ j
    · rw [if_pos e, if_pos e]
      exact hK _ _ _ _ h
    · rw [if_neg e, if_neg e]
      obtain ⟨P1, P2, Q1, Q2, R1, R2, k1, k2, k3, k4, k5, k6, k7⟩ := tr_again h hi (show j < c.1 by omega) (show m < 100 by omega)
      rw [k1, k2, bR_s, bR_s, k3, k4, bR_s, bR_s, k5, k6, bR_s, bR_s, cs_pulses k7.2.1 hc, ms_pulses k7.2.2.1 hc k7.2.2.2, bR_s, bR_s]
      simp only [jn, bR_s]
      rw [show nI j + 1 = nI (j + 1) from nI_1 j]
      by_cases g : pI c (itN c m (wayN (rpN c ds d) i j)) ≤ a
      · rw [if_pos g, if_pos g, if_pos g]
        exact b_best2 hi hm K1 K2 hK n (j + 1) _ _ R1 R2 k7.1 (by omega) (by omega)
      · rw [if_neg g, if_neg g, if_neg g]
        exact b_best2 hi hm K1 K2 hK n (j + 1) _ _ R1 R2 k7.1 (by omega) (by omega)
theorem b_best1 {c : Cfg} {ds : Nat → Nat} {d m : Nat} (hm : m ≤ 40) (K1 K2 : Int32 → Int32 → Mem → Option (Int32 × Mem)) (hK : ∀ a b Nc Nm, SimX c ds d Nc Nm → Both (K1 a b Nc) (K2 a b Nm)) : ∀ (n j : Nat) (a b : Int32) (Nc Nm : Mem), SimX c ds d Nc Nm → j ≤ c.1 → c.1 - j < n → Both (f_X1_best_L58 (nI m) K1 n a b (nI j) Nc) (f_X2_best_L46 (nI m) K2 n a b (nI j) Nm)
  | 0, j, a, b, Nc, Nm, _, _, h => by omega
  | n + 1, j, a, b, Nc, Nm, h, hj, hn => by
    have hc := h.1.1
    have h7 := hc.1
    obtain ⟨fu, hfu, hf2⟩ := FUx
    rw [f_X1_best_L58, f_X2_best_L46, h.1.2.2.2.1.1, h.1.2.2.2.2.2.2.1.1, iteLe (by omega) (by omega), iteLe (by omega) (by omega), ← hfu]
    by_cases e : c.1 ≤ j
    · rw [if_pos e, if_pos e]
      exact hK _ _ _ _ h
    · rw [if_neg e, if_neg e]
      simp only [jn]
      rw [show nI j + 1 = nI (j + 1) from nI_1 j]
      exact b_best2 (show j < c.1 by omega) hm _ _ (fun a b Nc Nm hN => b_best1 hm K1 K2 hK n (j + 1) a b Nc Nm hN (by omega) (by omega)) fu (j + 1) a b Nc Nm h (by omega) (by omega)
theorem tt_best {Mc Mm : Mem} (h0 : Sim Mc Mm) (x : Int32) : Both (f_X1_best x Mc) (f_X2_best x Mm) := by
  obtain ⟨c, ds, d, h⟩ := id h0
  have hc := h.1.1
  have h7 := hc.1
  have ht := h.t
  unfold f_X1_best f_X2_best
  obtain ⟨fu, hfu, hf2⟩ := FUx
  rw [← hfu]
  rcases int_3 x 40 with hz | ⟨m, hm, rfl⟩ | ⟨m, hm, hm2, rfl⟩
  · have w : x < 1 := Int32.lt_of_lt_of_le hz (by decide)
    rw [(inNo (M := Mc) (b := 40) (Or.inl w)).2, (inNo (M := Mm) (b := 40) (Or.inl w)).1, bR_s, bR_s, if00, if00]
    exact both_bad h0 _
  · by_cases em : m = 0
    · subst em
      have w : nI 0 < 1 := by decide
      rw [(inNo (M := Mc) (b := 40) (Or.inl w)).2, (inNo (M := Mm) (b := 40) (Or.inl w)).1, bR_s, bR_s, if00, if00]
      exact both_bad h0 _
    · have z1 : ¬ nI m < 1 := (show ¬ nI m < nI 1 from nI_nlt (by omega) (by omega))
      have z2 : ¬ 40 < nI m := (show ¬ nI 40 < nI m from nI_nlt (by omega) (by omega))
      rw [(inY (M := Mc) z1 z2).2, (inY (M := Mm) z1 z2).1, bR_s, bR_s, if10, if10, h.1.2.2.2.1.1, h.1.2.2.2.2.2.2.1.1]
      by_cases en : c.1 = 0
      · rw [if_pos (show nI c.1 = 0 by rw [en]; rfl), if_pos (show nI c.1 = 0 by rw [en]; rfl)]
        exact both_bad h0 _
      · rw [if_neg (nI_ne0 (by omega) (by omega)), if_neg (nI_ne0 (by omega) (by omega))]
        obtain ⟨N1, N2, k1, k2, k3, -, -⟩ := tr_start h
        obtain ⟨P1, P2, q1, q2, q3, -, -⟩ := tr_go k3 (m := m) (by omega) (by omega)
        rw [k1, k2, bR_s, bR_s, q1, q2, bR_s, bR_s, cs_pulses q3.2.1 hc, ms_pulses q3.2.2.1 hc q3.2.2.2, bR_s, bR_s]
        simp only [jn, lt]
        refine b_best1 (c := c) (ds := ds) (d := d) hm _ _ (fun a b Nc Nm hN => ?_) fu 0 _ _ P1 P2 q3.1 (by omega) (by omega)
        by_cases g : b = -9
        · rw [if_pos g, if_pos g, g]
          exact both_bad ⟨c, ds, d, hN⟩ _
        · rw [if_neg g, if_neg g]
          exact tr_told hN _ _
  · have w : 40 < nI m := (show nI 40 < nI m from nI_lt hm hm2)
    rw [(inNo (M := Mc) (a := 1) (Or.inr w)).2, (inNo (M := Mm) (a := 1) (Or.inr w)).1, bR_s, bR_s, if00, if00]
    exact both_bad h0 _
theorem b_backL {c : Cfg} {ds : Nat → Nat} {d i v : Nat} (hi : i < c.1) (hv : v < 512) : ∀ (n j : Nat) (Nc Nm : Mem) (τ : Sg), Try c ds d Nc Nm τ → 1 ≤ j → j ≤ 61 → 61 - j < n → τ.1 + (61 - j) < 900 → ∃ r P1 P2, f_X1_comesBack_L22 (nI i) (nI v) n (nI j) Nc = some (r, P1) ∧ f_X2_againBy_L15 (nI i) (nI v) n (nI j) Nm = some (r, P2) ∧ SimX c ds d P1 P2
  | 0, j, Nc, Nm, τ, _, _, _, h, _ => by omega
  | n + 1, j, Nc, Nm, τ, h, hj1, hj, hn, ht => by
    have hc := h.1.1.1
    have h7 := hc.1
    rw [f_X1_comesBack_L22, f_X2_againBy_L15, show (60 : Int32) = nI 60 from rfl, iteLt (by omega) (by omega), iteLt (by omega) (by omega)]
    by_cases e : 60 < j
    · rw [if_pos e, if_pos e]
      exact ⟨_, _, _, rfl, rfl, h.1⟩
    · rw [if_neg e, if_neg e]
      obtain ⟨P1, P2, q1, q2, q3, -, -⟩ := tr_go h (m := 1) (by omega) (by omega)
      have hw := okW hc q3.2.2.2 hi
      rw [show f_X0_goOn 22 1 Nc = some P1 from q1, show f_X2_goes 1 Nm = some P2 from q2, bR_s, bR_s, grd_t (inb_t (show i < 7 by omega) (by omega)), ixn (by omega), show (1 : Int32) + nI i = nI (1 + i) from addN 1 i, grd_t (inb_t (show 1 + i < 15 by omega) (by omega)), ixn (by omega), (q3.2.1.2.2 i hi).2.2.2.1, (q3.2.2.1.2.2 i hi).2.2.2.1, iteEq (by omega) (by omega), iteEq (by omega) (by omega), show nI j + 1 = nI (j + 1) from nI_1 j]
      by_cases g : (itN c 1 τ).2.1 i = v
      · rw [if_pos g, if_pos g]
        exact ⟨_, _, _, rfl, rfl, q3.1⟩
      · rw [if_neg g, if_neg g]
        exact b_backL hi hv n (j + 1) P1 P2 _ q3 (by omega) (by omega) (by omega) (by rw [itN_t]; omega)
theorem b_back {c : Cfg} {ds : Nat → Nat} {d i v : Nat} {Nc Nm : Mem} (h : SimX c ds d Nc Nm) (hi : i < c.1) (hv : v < 2 ^ c.2.2.1 i) : ∃ r P1 P2, f_X1_comesBack (nI i) (nI v) Nc = some (r, P1) ∧ f_X2_againBy (nI i) (nI v) Nm = some (r, P2) ∧ SimX c ds d P1 P2 := by
  have hc := h.1.1
  have h7 := hc.1
  have ht := h.t
  have hv2 := wordX hv (hc.2 i hi).2.2.1
  unfold f_X1_comesBack f_X2_againBy
  obtain ⟨fu, hfu, hf2⟩ := FUx
  rw [← hfu]
  obtain ⟨N1, N2, k1, k2, k3, -, -⟩ := tr_start h
  obtain ⟨Q1, p1, p2, p3⟩ := cs_putWord (v := v) k3.2.1 hc hi
  have r2 := stM_sw (Or.inr rfl) hc k3.2.2.1 hi v
  rw [k1, k2, bR_s, bR_s, p1, bR_s, show (1 : Int32) + nI i = nI (1 + i) from addN 1 i, grd_t (inb_t (show 1 + i < 15 by omega) (by omega)), ixn (by omega)]
  have hT : Try c ds d Q1 (sI N2 9 (1 + i) (nI v)) (swN (rpN c ds d) i v) := ⟨scr_of k3.1 p3 ⟨rfl, fun a ha _ => sI_n _ _ _ _ ha⟩, p2, r2, okS_sw k3.2.2.2 hv⟩
  exact b_backL hi hv2 fu 1 Q1 _ _ hT (by omega) (by omega) (by omega) (by show (rpN c ds d).1 + (61 - 1) < 900; omega)
theorem b_safeL {c : Cfg} {ds : Nat → Nat} {d v : Nat} (hv : v < 512) (K1 K2 : Int32 → Int32 → Mem → Option (Int32 × Mem)) (hK : ∀ a b Nc Nm, SimX c ds d Nc Nm → Both (K1 a b Nc) (K2 b a Nm)) : ∀ (n j : Nat) (a b : Int32) (Nc Nm : Mem), SimX c ds d Nc Nm → j ≤ c.1 → c.1 - j < n → Both (f_X1_safest_L35 (nI v) K1 n a b (nI j) Nc) (f_X2_safest_L32 (nI v) K2 n b a (nI j) Nm)
  | 0, j, a, b, Nc, Nm, _, _, h => by omega
  | n + 1, j, a, b, Nc, Nm, h, hj, hn => by
    have hc := h.1.1
    have h7 := hc.1
    rw [f_X1_safest_L35, f_X2_safest_L32, h.1.2.2.2.1.1, h.1.2.2.2.2.2.2.1.1, iteLe (by omega) (by omega), iteLe (by omega) (by omega)]
    by_cases e : c.1 ≤ j
    · rw [if_pos e, if_pos e]
      exact hK _ _ _ _ h
    · rw [if_neg e, if_neg e]
      have hj2 : j < c.1 := by omega
      rw [cs_canHave h.1.2.2.2.1 hc hj2 (by omega), ms_isWord h.1.2.2.2.2.2.2.1 hc hj2 (by omega), bR_s, bR_s]
      simp only [jn]
      rw [show nI j + 1 = nI (j + 1) from nI_1 j]
      have go : ∀ (t : Int32) (P1 P2 : Mem), SimX c ds d P1 P2 → Both (if a ≤ t then f_X1_safest_L35 (nI v) K1 n a b (nI (j + 1)) P1 else f_X1_safest_L35 (nI v) K1 n t (nI j) (nI (j + 1)) P1) (if a ≤ t then if a ≤ t then f_X2_safest_L32 (nI v) K2 n b a (nI (j + 1)) P2 else f_X2_safest_L32 (nI v) K2 n b t (nI (j + 1)) P2 else if a ≤ t then f_X2_safest_L32 (nI v) K2 n (nI j) a (nI (j + 1)) P2 else f_X2_safest_L32 (nI v) K2 n (nI j) t (nI (j + 1)) P2) := by
        intro t P1 P2 hP
        by_cases g : a ≤ t
        · rw [if_pos g, if_pos g, if_pos g]
          exact b_safeL hv K1 K2 hK n (j + 1) _ _ P1 P2 hP (by omega) (by omega)
        · rw [if_neg g, if_neg g, if_neg g]
          exact b_safeL hv K1 K2 hK n (j + 1) _ _ P1 P2 hP (by omega) (by omega)
      by_cases ev : v < 2 ^ c.2.2.1 j
      · obtain ⟨t, P1, P2, q1, q2, q3⟩ := b_back h hj2 ev
        rw [if_pos ev, if10, if10, q1, q2, bI_s, bI_s]
        exact go t P1 P2 q3
      · rw [if_neg ev, if00, if00]
        exact go 61 Nc Nm h
theorem tt_safest {Mc Mm : Mem} (h0 : Sim Mc Mm) (x : Int32) : Both (f_X1_safest x Mc) (f_X2_safest x Mm) := by
  obtain ⟨c, ds, d, h⟩ := id h0
  have hc := h.1.1
  have h7 := hc.1
  unfold f_X1_safest f_X2_safest
  obtain ⟨fu, hfu, hf2⟩ := FUx
  rw [← hfu]
  rcases in_row (x := x) (M := Mc) (m := 511) (by omega) with ⟨v, hv, rfl, g1, g2⟩ | ⟨g1, g2⟩
  · rw [show f_X1_isWithin (nI v) 0 511 Mc = some 1 from g2, show f_X2_in (nI v) 0 511 Mm = some 1 from g1, bR_s, bR_s, if10, if10, h.1.2.2.2.1.1, h.1.2.2.2.2.2.2.1.1]
    by_cases en : c.1 = 0
    · rw [if_pos (show nI c.1 = 0 by rw [en]; rfl), if_pos (show nI c.1 = 0 by rw [en]; rfl)]
      exact both_bad h0 _
    · rw [if_neg (nI_ne0 (by omega) (by omega)), if_neg (nI_ne0 (by omega) (by omega))]
      simp only [jn, lt]
      refine b_safeL (c := c) (ds := ds) (d := d) (show v < 512 by omega) (fun v2 v3 M => if v3 = -9 then some (v3, M) else some (v3, sI M 0 13 v2)) (fun v2 v3 M => if v2 = -9 then some (-9, M) else bI (f_X2_tells v3 v2 M) fun r M => some (r, M)) (fun a b Nc Nm hN => ?_) fu 0 61 (-9) Mc Mm h (by omega) (by omega)
      show Both (if b = -9 then some (b, Nc) else some (b, sI Nc 0 13 a)) (if b = -9 then some (-9, Nm) else bI (f_X2_tells a b Nm) fun r M => some (r, M))
      by_cases g : b = -9
      · rw [if_pos g, if_pos g, g]
        exact both_bad ⟨c, ds, d, hN⟩ _
      · rw [if_neg g, if_neg g]
        exact tr_told hN _ _
  · rw [show f_X1_isWithin x 0 511 Mc = some 0 from g2, show f_X2_in x 0 511 Mm = some 0 from g1, bR_s, bR_s, if00, if00]
    exact both_bad h0 _
