/-! what comes -/
def Try (c : Cfg) (ds : Nat → Nat) (d : Nat) (Nc Nm : Mem) (τ : Sg) : Prop := SimX c ds d Nc Nm ∧ stC Nc 22 c τ ∧ stM Nm 9 c τ ∧ okS c τ
theorem Try.sim {c : Cfg} {ds : Nat → Nat} {d : Nat} {Nc Nm : Mem} {τ : Sg} (h : Try c ds d Nc Nm τ) : Sim Nc Nm := ⟨c, ds, d, h.1⟩
theorem scr_of {c : Cfg} {ds : Nat → Nat} {d : Nat} {Mc Mm Nc Nm : Mem} (h : SimX c ds d Mc Mm) (f : Fr 22 Mc Nc) (g : FrM 9 Mm Nm) : SimX c ds d Nc Nm := h.scr f.1 (fun a ha => f.2 a (by omega)) g.1 (fun a ha => g.2 a (by omega) (by omega)) (fun j _ => by rw [g.2 0 (by omega) (by omega)])
theorem tr_start {c : Cfg} {ds : Nat → Nat} {d : Nat} {Mc Mm : Mem} (h : SimX c ds d Mc Mm) : ∃ Nc Nm, f_X0_takeFrom 22 15 Mc = some Nc ∧ f_X2_asItIs Mm = some Nm ∧ Try c ds d Nc Nm (rpN c ds d) ∧ Fr 22 Mc Nc ∧ FrM 9 Mm Nm := by
  obtain ⟨Nc, k1, k2, k3⟩ := cs_take (Or.inl ⟨rfl, rfl⟩) h.1.1 h.1.2.2.2.1
  obtain ⟨Nm, p1, p2, p3⟩ := ms_asItIs h.1.1 h.1.2.2.2.2.2.2.1
  exact ⟨Nc, Nm, k1, p1, ⟨scr_of h k3 p3, k2, p2, h.okS⟩, k3, p3⟩
theorem tr_go {c : Cfg} {ds : Nat → Nat} {d : Nat} {Nc Nm : Mem} {τ : Sg} (h : Try c ds d Nc Nm τ) {m : Nat} (hm : m < 500) (ht : τ.1 + m < 1000) : ∃ Nc' Nm', f_X0_goOn 22 (nI m) Nc = some Nc' ∧ f_X2_goes (nI m) Nm = some Nm' ∧ Try c ds d Nc' Nm' (itN c m τ) ∧ Fr 22 Nc Nc' ∧ FrM 9 Nm Nm' := by
  obtain ⟨h1, h2, h3, h4⟩ := h
  obtain ⟨Nc', k1, k2, k3⟩ := cs_goOn h1.1.1 h4 hm ht h2
  obtain ⟨Nm', p1, p2, p3⟩ := ms_goes h1.1.1 h4 hm ht h3
  exact ⟨Nc', Nm', k1, p1, ⟨scr_of h1 k3 p3, k2, p2, okS_it h1.1.1 m h4⟩, k3, p3⟩
theorem tr_told {c : Cfg} {ds : Nat → Nat} {d : Nat} {Nc Nm : Mem} (h : SimX c ds d Nc Nm) (v r : Int32) : Both (some (r, sI Nc 0 13 v)) (bI (f_X2_tells v r Nm) fun r M => some (r, M)) := ⟨r, _, _, rfl, rfl, c, ds, d, h.told v⟩
theorem tt_later {Mc Mm : Mem} (h0 : Sim Mc Mm) (x y : Int32) : Both (f_X1_later x y Mc) (f_X2_later x y Mm) := by
  obtain ⟨c, ds, d, h⟩ := id h0
  have hc := h.1.1
  have h7 := hc.1
  have ht := h.t
  unfold f_X1_later f_X2_later
  rcases has_or h x with ⟨i, hi, rfl, e1, e2⟩ | ⟨e1, e2⟩
  · rw [e1, e2, bR_s, bR_s, if10, if10]
    rcases in_row (x := y) (M := Mc) (m := 60) (by omega) with ⟨v, hv, rfl, g1, g2⟩ | ⟨g1, g2⟩
    · rw [show f_X1_isWithin (nI v) 0 60 Mc = some 1 from g2, show f_X2_in (nI v) 0 60 Mm = some 1 from g1, bR_s, bR_s, if10, if10]
      obtain ⟨N1, N2, k1, k2, k3, -, -⟩ := tr_start h
      obtain ⟨P1, P2, q1, q2, q3, -, -⟩ := tr_go k3 (m := v) (by omega) (by omega)
      rw [k1, k2, bR_s, bR_s, q1, q2, bR_s, bR_s, cs_pulses q3.2.1 hc, ms_pulses q3.2.2.1 hc q3.2.2.2, bR_s, bR_s]
      simp only [lt, show (1 : Int32) + nI i = nI (1 + i) from addN 1 i, grd_t (inb_t (show 1 + i < 15 by omega) (show 15 < 2147483648 by omega)), ixn (show 1 + i < 2147483648 by omega), grd_t (inb_t (show i < 7 by omega) (show 7 < 2147483648 by omega)), ixn (show i < 2147483648 by omega)]
      rw [sI_n _ _ _ _ (show 22 + 4 ≠ 0 by omega), (q3.2.1.2.2 i hi).2.2.2.1, (q3.2.2.1.2.2 i hi).2.2.2.1]
      exact tr_told q3.1 _ _
    · rw [show f_X1_isWithin y 0 60 Mc = some 0 from g2, show f_X2_in y 0 60 Mm = some 0 from g1, bR_s, bR_s, if00, if00]
      exact both_bad h0 _
  · rw [e1, e2, bR_s, bR_s, if00, if00]
    exact both_bad h0 _
def emN (w : Nat → Nat) : Nat → Nat
  | 0 => 0
  | i + 1 => if w i = 0 then emN w i + 2 ^ i else emN w i
theorem emN_lt (w : Nat → Nat) : ∀ n, emN w n < 2 ^ n
  | 0 => by show 0 < 1; decide
  | n + 1 => by
    have := emN_lt w n
    have e : 2 ^ (n + 1) = 2 ^ n * 2 := Nat.pow_succ 2 n
    unfold emN
    split <;> omega
theorem emI_N (w : Nat → Nat) : ∀ n, n ≤ 7 → emI w n = nI (emN w n)
  | 0, _ => rfl
  | n + 1, h => by
    have h1 := emN_lt w n
    have h2 : 2 ^ n ≤ 2 ^ 6 := Nat.pow_le_pow_right (by decide) (by omega)
    unfold emI emN
    rw [emI_N w n (by omega)]
    by_cases e : w n = 0
    · rw [if_pos e, if_pos e, show shl 1 (nI n) = nI (1 * 2 ^ n) from shlN (n := 1) (by omega) (by omega), Nat.one_mul, orN, Nat.or_comm]
      have := Nat.two_pow_add_eq_or_of_lt h1 1
      rw [Nat.mul_one] at this
      rw [← this, Nat.add_comm]
    · rw [if_neg e, if_neg e]
def ctI (w : Nat → Nat) : Nat → Int32
  | 0 => 0
  | i + 1 => ctI w i + if w i = 0 then 1 else 0
theorem bc_add : ∀ n, n < 7 → ∀ E, E < 128 → E < 2 ^ n → bcI (nI (E + 2 ^ n)) = bcI (nI E) + 1 := by decide +kernel
theorem bc_em (w : Nat → Nat) : ∀ n, n ≤ 7 → bcI (nI (emN w n)) = ctI w n
  | 0, _ => by show bcI (nI 0) = 0; decide
  | n + 1, h => by
    have h1 := emN_lt w n
    have h2 : 2 ^ n ≤ 2 ^ 6 := Nat.pow_le_pow_right (by decide) (by omega)
    unfold emN ctI
    rw [← bc_em w n (by omega)]
    by_cases e : w n = 0
    · rw [if_pos e, if_pos e, bc_add n (by omega) _ (by omega) h1]
    · rw [if_neg e, if_neg e, Int32.add_zero]
theorem ms_leftL {M : Mem} {c : Cfg} {σ : Sg} (h : stM M 9 c σ) (hc : okC c) (hs : okS c σ) (K : Int32 → Option (Int32 × Mem)) : ∀ (n j : Nat), j ≤ c.1 → c.1 - j < n → f_X2_left_L35 M K n (ctI σ.2.1 j) (nI j) = K (ctI σ.2.1 c.1)
  | 0, j, _, h => by omega
  | n + 1, j, hj, hn => by
    have h7 := hc.1
    rw [f_X2_left_L35, h.1, iteLe (by omega) (by omega)]
    by_cases hjn : c.1 ≤ j
    · rw [if_pos hjn, show j = c.1 by omega]
    · have hw := okW hc hs (show j < c.1 by omega)
      rw [if_neg hjn, show (1 : Int32) + nI j = nI (1 + j) from addN 1 j, grd_t (inb_t (by omega) (by omega)), ixn (by omega), (h.2.2 j (by omega)).2.2.2.1, show nI j + 1 = nI (j + 1) from nI_1 j]
      simp only [jn]
      have ih := ms_leftL h hc hs K n (j + 1) (by omega) (by omega)
      rw [ctI] at ih
      by_cases e : σ.2.1 j = 0
      · rw [if_pos (show nI (σ.2.1 j) = 0 by rw [e]; rfl)]; rw [if_pos e] at ih; exact ih
      · rw [if_neg (show ¬ nI (σ.2.1 j) = 0 from nI_ne0 (by omega) (by omega))]; rw [if_neg e] at ih; exact ih
theorem tt_left {Mc Mm : Mem} (h0 : Sim Mc Mm) (x : Int32) : Both (f_X1_left x Mc) (f_X2_left x Mm) := by
  obtain ⟨c, ds, d, h⟩ := id h0
  have hc := h.1.1
  have h7 := hc.1
  have ht := h.t
  unfold f_X1_left f_X2_left
  obtain ⟨fu, hfu, hf2⟩ := FUx
  rw [← hfu]
  rcases in_row (x := x) (M := Mc) (m := 60) (by omega) with ⟨v, hv, rfl, g1, g2⟩ | ⟨g1, g2⟩
  · rw [show f_X1_isWithin (nI v) 0 60 Mc = some 1 from g2, show f_X2_in (nI v) 0 60 Mm = some 1 from g1, bR_s, bR_s, if10, if10, h.1.2.2.2.1.1, h.1.2.2.2.2.2.2.1.1]
    by_cases en : c.1 = 0
    · rw [if_pos (show nI c.1 = 0 by rw [en]; rfl), if_pos (show nI c.1 = 0 by rw [en]; rfl)]
      exact both_bad h0 _
    · rw [if_neg (nI_ne0 (by omega) (by omega)), if_neg (nI_ne0 (by omega) (by omega))]
      obtain ⟨N1, N2, k1, k2, k3, -, -⟩ := tr_start h
      obtain ⟨P1, P2, q1, q2, q3, -, -⟩ := tr_go k3 (m := v) (by omega) (by omega)
      rw [k1, k2, bR_s, bR_s, q1, q2, bR_s, bR_s, cs_emptyOnes q3.2.1 hc q3.2.2.2, bR_s, emI_N _ _ h7, bc_em _ _ h7]
      simp only [lt, jn]
      rw [show f_X0_pulses 22 (sI P1 0 13 (ctI (itN c v (rpN c ds d)).2.1 c.1)) = some (pI c (itN c v (rpN c ds d))) from cs_pulses (stC_of q3.2.1 (sI_n _ _ _ _ (by omega)) (fun j j1 j2 => sI_n _ _ _ _ (by omega))) hc, bR_s]
      rw [show f_X2_left_L35 P2 _ fu 0 0 = _ from at0 (fun x => f_X2_left_L35 P2 _ fu 0 x) (ms_leftL q3.2.2.1 hc q3.2.2.2 _ fu 0 (by omega) (by omega))]
      rw [ms_pulses q3.2.2.1 hc q3.2.2.2, bR_s]
      exact tr_told q3.1 _ _
  · rw [show f_X1_isWithin x 0 60 Mc = some 0 from g2, show f_X2_in x 0 60 Mm = some 0 from g1, bR_s, bR_s, if00, if00]
    exact both_bad h0 _
theorem ms_roundL {M : Mem} {c : Cfg} {σ τ : Sg} (h : stM M 9 c σ) (h2 : stM M 8 c τ) (hc : okC c) (hs : okS c σ) (hs2 : okS c τ) (a b : Int32) (K : Int32 → Option (Int32 × Mem)) : ∀ (n j : Nat) (q : Bool), j ≤ c.1 → c.1 - j < n → (q = true ↔ ∀ i, i < j → σ.2.1 i = τ.2.1 i) → f_X2_round_L66 a b M K n (if q = true then 1 else 0) (nI j) = K (if (∀ i, i < c.1 → σ.2.1 i = τ.2.1 i) then 1 else 0)
  | 0, j, q, _, h, _ => by omega
  | n + 1, j, q, hj, hn, hq => by
    have h7 := hc.1
    rw [f_X2_round_L66, h.1, iteLe (by omega) (by omega)]
    by_cases hjn : c.1 ≤ j
    · have e : j = c.1 := by omega
      subst e
      rw [if_pos hjn]
      by_cases g : q = true
      · rw [if_pos g, if_pos (hq.mp g)]
      · rw [if_neg g, if_neg (fun z => g (hq.mpr z))]
    · have hj2 : j < c.1 := by omega
      have hw := okW hc hs hj2
      have hw2 := okW hc hs2 hj2
      rw [if_neg hjn, show nI j + 1 = nI (j + 1) from nI_1 j]
      simp only [jn]
      rw [show (1 : Int32) + nI j = nI (1 + j) from addN 1 j, grd_t (inb_t (by omega) (by omega)), grd_t (inb_t (by omega) (by omega)), ixn (by omega), (h.2.2 j hj2).2.2.2.1, (h2.2.2 j hj2).2.2.2.1, iteEq (by omega) (by omega)]
      have no : ¬ (∀ i, i < j + 1 → σ.2.1 i = τ.2.1 i) → f_X2_round_L66 a b M K n 0 (nI (j + 1)) = K (if (∀ i, i < c.1 → σ.2.1 i = τ.2.1 i) then 1 else 0) := fun z => ms_roundL h h2 hc hs hs2 a b K n (j + 1) false (by omega) (by omega) ⟨fun y => absurd y (by decide), fun y => absurd y z⟩
      by_cases g : q = true
      · rw [if_pos g, if10]
        by_cases e : σ.2.1 j = τ.2.1 j
        · rw [if_pos e]
          exact ms_roundL h h2 hc hs hs2 a b K n (j + 1) true (by omega) (by omega) ⟨fun _ i hi => by
            by_cases z : i = j
            · rw [z]; exact e
            · exact hq.mp g i (by omega), fun _ => rfl⟩
        · rw [if_neg e]
          exact no (fun z => e (z j (by omega)))
      · rw [if_neg g, if00]
        exact no (fun z => g (hq.mpr (fun i hi => z i (by omega))))
theorem mn_eq (x y : Int32) {α : Type} (k : Int32 → α) : (if x ≤ y then k x else k y) = k (mnI x y) := by
  unfold mnI
  by_cases e : x ≤ y
  · rw [if_pos e, if_neg (fun q => Int32.lt_irrefl (Int32.lt_of_lt_of_le q e))]
  · rw [if_neg e, if_pos (Int32.not_le.mp e)]
theorem b_roundL {c : Cfg} {ds : Nat → Nat} {d : Nat} (K1 K2 : Int32 → Int32 → Mem → Option (Int32 × Mem)) (hK : ∀ a b Nc Nm, SimX c ds d Nc Nm → Both (K1 a b Nc) (K2 a b Nm)) : ∀ (n j : Nat) (v : Int32) (Nc Nm : Mem) (τ : Sg), Try c ds d Nc Nm τ → 1 ≤ j → j ≤ 121 → 121 - j < n → τ.1 + (121 - j) < 900 → Both (f_X1_round_L34 K1 n v (nI j) Nc) (f_X2_round_L25 K2 n v (nI j) Nm)
  | 0, j, v, Nc, Nm, τ, _, _, _, h, _ => by omega
  | n + 1, j, v, Nc, Nm, τ, h, hj1, hj, hn, ht => by
    have hc := h.1.1.1
    have h7 := hc.1
    rw [f_X1_round_L34, f_X2_round_L25, show (120 : Int32) = nI 120 from rfl, iteLt (by omega) (by omega), iteLt (by omega) (by omega)]
    by_cases e : 120 < j
    · rw [if_pos e, if_pos e]
      exact both_bad h.sim _
    · rw [if_neg e, if_neg e]
      obtain ⟨P1, P2, q1, q2, q3, -, -⟩ := tr_go h (m := 1) (by omega) (by omega)
      obtain ⟨fu, hfu, hf2⟩ := FUx
      rw [show f_X0_goOn 22 1 Nc = some P1 from q1, show f_X2_goes 1 Nm = some P2 from q2, bR_s, bR_s, cs_pulses q3.2.1 hc, ms_pulses q3.2.2.1 hc q3.2.2.2, bR_s, bR_s, ← hfu]
      simp only [jn, bR_s]
      rw [mn_eq v (pI c (itN c 1 τ)) (fun t0_60j => f_X2_round_L66 t0_60j (nI j) P2 (fun v3_112x => if v3_112x = 0 then f_X2_round_L25 K2 n t0_60j (nI j + 1) P2 else K2 t0_60j (nI j) P2) fu 1 0)]
      rw [cs_hasWordsOf q3.2.1 q3.1.1.2.2.2.1 hc q3.2.2.2 q3.1.okS, bR_s]
      rw [show f_X2_round_L66 _ (nI j) P2 _ fu 1 0 = _ from at0 (fun x => f_X2_round_L66 _ (nI j) P2 _ fu 1 x) (ms_roundL q3.2.2.1 q3.1.1.2.2.2.2.2.2.1 hc q3.2.2.2 q3.1.okS _ _ _ fu 0 true (by omega) (by omega) ⟨fun _ i hi => by omega, fun _ => rfl⟩), show nI j + 1 = nI (j + 1) from nI_1 j]
      by_cases g : (∀ i, i < c.1 → (itN c 1 τ).2.1 i = (rpN c ds d).2.1 i)
      · rw [if_pos g, if10, if10]
        exact hK _ _ _ _ q3.1
      · rw [if_neg g, if00, if00]
        exact b_roundL K1 K2 hK n (j + 1) _ P1 P2 _ q3 (by omega) (by omega) (by omega) (by rw [itN_t]; omega)
theorem tt_round {Mc Mm : Mem} (h0 : Sim Mc Mm) : Both (f_X1_round Mc) (f_X2_round Mm) := by
  obtain ⟨c, ds, d, h⟩ := id h0
  have hc := h.1.1
  have h7 := hc.1
  have ht := h.t
  unfold f_X1_round f_X2_round
  obtain ⟨fu, hfu, hf2⟩ := FUx
  rw [← hfu, h.1.2.2.2.1.1, h.1.2.2.2.2.2.2.1.1]
  by_cases en : c.1 = 0
  · rw [if_pos (show nI c.1 = 0 by rw [en]; rfl), if_pos (show nI c.1 = 0 by rw [en]; rfl)]
    exact both_bad h0 _
  · rw [if_neg (nI_ne0 (by omega) (by omega)), if_neg (nI_ne0 (by omega) (by omega))]
    obtain ⟨N1, N2, k1, k2, k3, -, -⟩ := tr_start h
    rw [k1, k2, bR_s, bR_s, cs_pulses k3.2.1 hc, ms_pulses k3.2.2.1 hc k3.2.2.2, bR_s, bR_s]
    simp only [jn, lt]
    exact b_roundL (c := c) (ds := ds) (d := d) (fun v1 v2 M => some (v2, sI M 0 13 v1)) (fun v1 v2 M => bI (f_X2_tells v1 v2 M) fun r M => some (r, M)) (fun a b Nc Nm hN => tr_told hN _ _) fu 1 _ N1 N2 _ k3 (by omega) (by omega) (by omega) (by omega)
