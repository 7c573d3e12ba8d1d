/-! the lowest form of a chance -/
theorem lrmN {a b : Nat} (ha : a < 9223372036854775808) (h0 : 0 < b) (hb : b < 9223372036854775808) : lrm (lN a) (lN b) = lN (a % b) := pk_lRem ha h0 hb
theorem nzLN {b : Nat} (h0 : 0 < b) (hb : b < 9223372036854775808) : nzL (lN b) = true := by
  unfold nzL
  rw [decide_eq_true_iff]
  exact fun q => by have := (pk_lEQ (a := b) (b := 0) (by omega) (by omega)).mp q; omega
theorem lgE_t {b : Nat} (h : b = 0) : lg_cmp (lN b) 0 = 0 := by rw [h]; decide
theorem lgE_f {b : Nat} (h : ¬ b = 0) (hb : b < 9223372036854775808) : ¬ lg_cmp (lN b) 0 = 0 := fun q => h ((pk_lEQ (a := b) (b := 0) (by omega) (by omega)).mp ((lg_cmp_eq _ _).mp q))
theorem gcd_st (a b : Nat) : Nat.gcd a b = Nat.gcd b (a % b) := by
  rw [Nat.gcd_comm a b, Nat.gcd_rec, Nat.gcd_comm]
theorem gcd_z (a : Nat) : Nat.gcd a 0 = a := Nat.gcd_zero_right a
theorem half2 {b r : Nat} (h0 : 0 < r) (h : r < b) : 2 * (b % r) < b := by
  have h1 := Nat.mod_lt b h0
  by_cases e : 2 * r ≤ b
  · omega
  · have h2 : b % r = b - r := by
      rw [Nat.mod_eq_sub_mod (by omega), Nat.mod_eq_of_lt (by omega)]
    omega
theorem c_eu (z1 z3 : Int64) (M : Mem) (K : Int64 → Option Mem) : ∀ (s a b j n : Nat), b < 2 ^ s → s ≤ 40 → a < 9223372036854775808 → b < 9223372036854775808 → j + 2 * s ≤ 200 → 2 * s < n → f_X1_tellLowest_L9 z1 z3 M K n (lN a) (lN b) (nI j) = K (lN (Nat.gcd a b))
  | 0, a, b, j, n, hb, _, ha, hb2, hj, hn => by
    obtain ⟨n, rfl⟩ : ∃ n', n = n' + 1 := ⟨n - 1, by omega⟩
    have b0 : b = 0 := by omega
    rw [f_X1_tellLowest_L9, if_pos (lgE_t b0), b0, gcd_z]
    split <;> rfl
  | s + 1, a, b, j, n, hb, hs, ha, hb2, hj, hn => by
    obtain ⟨n, rfl⟩ : ∃ n', n = n' + 2 := ⟨n - 2, by omega⟩
    rw [f_X1_tellLowest_L9, show (200 : Int32) = nI 200 from rfl, iteLe (by omega) (by omega), if_neg (by omega)]
    by_cases e : b = 0
    · rw [if_pos (lgE_t e), e, gcd_z]
    · have hr := Nat.mod_lt a (show 0 < b by omega)
      rw [if_neg (lgE_f e hb2), grd_t (nzLN (by omega) hb2), lrmN ha (by omega) hb2, show nI j + 1 = nI (j + 1) from nI_1 j, f_X1_tellLowest_L9, show (200 : Int32) = nI 200 from rfl, iteLe (by omega) (by omega), if_neg (by omega), gcd_st a b]
      by_cases e2 : a % b = 0
      · rw [if_pos (lgE_t e2), e2, gcd_z]
      · have h2 := half2 (b := b) (r := a % b) (by omega) hr
        rw [Nat.pow_succ] at hb
        rw [if_neg (lgE_f e2 (by omega)), grd_t (nzLN (by omega) (by omega)), lrmN hb2 (by omega) (by omega), show nI (j + 1) + 1 = nI (j + 2) from nI_1 (j + 1), gcd_st b (a % b)]
        exact c_eu z1 z3 M K s (a % b) (b % (a % b)) (j + 2) n (by omega) (by omega) (by omega) (by omega) (by omega) (by omega)
theorem m_eu (M : Mem) : ∀ (s a b n : Nat), b < 2 ^ s → a < 9223372036854775808 → b < 9223372036854775808 → 2 * s < n → f_X2_common_L6 M n (lN a) (lN b) = some (lN (Nat.gcd a b))
  | 0, a, b, n, hb, ha, hb2, hn => by
    obtain ⟨n, rfl⟩ : ∃ n', n = n' + 1 := ⟨n - 1, by omega⟩
    have b0 : b = 0 := by omega
    rw [f_X2_common_L6, if_pos (lgE_t b0), b0, gcd_z]
  | s + 1, a, b, n, hb, ha, hb2, hn => by
    obtain ⟨n, rfl⟩ : ∃ n', n = n' + 2 := ⟨n - 2, by omega⟩
    rw [f_X2_common_L6]
    by_cases e : b = 0
    · rw [if_pos (lgE_t e), e, gcd_z]
    · have hr := Nat.mod_lt a (show 0 < b by omega)
      rw [if_neg (lgE_f e hb2), grd_t (nzLN (by omega) hb2), lrmN ha (by omega) hb2, f_X2_common_L6, gcd_st a b]
      by_cases e2 : a % b = 0
      · rw [if_pos (lgE_t e2), e2, gcd_z]
      · have h2 := half2 (b := b) (r := a % b) (by omega) hr
        rw [Nat.pow_succ] at hb
        rw [if_neg (lgE_f e2 (by omega)), grd_t (nzLN (by omega) (by omega)), lrmN hb2 (by omega) (by omega), gcd_st b (a % b)]
        exact m_eu M s (a % b) (b % (a % b)) n (by omega) (by omega) (by omega) (by omega)
theorem sL_eq (f : Nat → Int64) (k : Nat) (x : Int64) : vp_updL f k x k = x := pk_uLs
theorem SimX.toldL {Mc Mm : Mem} {c : Cfg} {ds : Nat → Nat} {d : Nat} (h : SimX c ds d Mc Mm) (u v : Int64) : SimX c ds d (sL (sL Mc 0 14 u) 0 15 v) (sL (sL Mm 0 15 u) 0 16 v) := by
  obtain ⟨a1, a2, a3, a4, a5, a6⟩ := h
  refine ⟨a1, a2, a3, a4, a5, a6.1, ?_, ?_⟩
  · rw [sL_2, sL_2, sL_2, sL_2, pk_uLn (by omega), pk_uLs, pk_uLn (by omega), pk_uLs]
  · rw [sL_2, pk_uLs, sL_2, pk_uLs]
theorem tt_low {Mc Mm : Mem} {c : Cfg} {ds : Nat → Nat} {d S W : Nat} (h : SimX c ds d Mc Mm) (hS : S < 4294967296) (hW : W < 4294967296) (h1 : 1 ≤ W) : ∃ P1 P2, f_X1_tellLowest (lN S) (lN W) Mc = some P1 ∧ f_X2_tellsPart (lN S) (lN W) Mm = some (1, P2) ∧ SimX c ds d P1 P2 := by
  have hg : Nat.gcd W S = Nat.gcd S W := Nat.gcd_comm _ _
  have hg0 : 0 < Nat.gcd S W := Nat.gcd_pos_of_pos_right _ (by omega)
  have hg1 : Nat.gcd S W ≤ W := Nat.le_of_dvd (by omega) (Nat.gcd_dvd_right _ _)
  unfold f_X1_tellLowest f_X2_tellsPart f_X2_common
  obtain ⟨fu, hfu, hf2⟩ := FUx
  rw [← hfu, jn_e, m_eu Mm 32 S W fu (by omega) (by omega) (by omega) (by omega), bR_s, grd_t (nzLN hg0 (by omega)), lt_e, grd_t (nzLN hg0 (by omega)), lt_e]
  refine ⟨_, _, (c_eu (lN S) (lN W) Mc _ 32 W S 0 fu (by omega) (by omega) (by omega) (by omega) (by omega) (by omega)).trans ?_, rfl, h.toldL _ _⟩
  rw [hg]
  simp only [jn_e, lt_e]
  rw [if_neg (lg0_f (by omega) (by omega)), grd_t (nzLN hg0 (by omega)), if_neg (lg0_f (by omega) (by omega)), grd_t (nzLN hg0 (by omega))]
theorem tt_chance {Mc Mm : Mem} {c : Cfg} {ds : Nat → Nat} {d m p k0 : Nat} {k : Int32} {b : Bool} (h : SimX c ds d Mc Mm) (hm : m ≤ 20) (hp : p ≤ 12) (hk : isK k b k0) : Both (bR (f_X1_tellChance k (nI m) (nI p) Mc) fun M => some (1, M)) (bI (f_X2_failing k (nI m) (nI p) Mm) fun r M => some (r, M)) := by
  have hc := h.1.1
  have h7 := hc.1
  have h12 := p12 h7
  unfold f_X1_tellChance f_X2_failing
  obtain ⟨fu, hfu, hf2⟩ := FUx
  have h2 := p2n h7
  rw [← hfu, jn_e, jn_e]
  obtain ⟨P1, p1, p2⟩ := c_chL h hm hp hk (fun (v4_85x : Int64) (M_85x : Mem) => (jn (fun (k117 : Int64 → Option Mem) => (f_X1_tellChance_L91 v4_85x M_85x k117 fu 1 0)) (fun (v6_117x : Int64) => (bR (f_X1_tellLowest v4_85x v6_117x M_85x) (fun M122 => (some M122)))))) fu 0 Mc (Nat.zero_le _) (by omega) Fr.rf
  obtain ⟨P2, q1, q2⟩ := m_chL h hm hp hk (fun (v4_175x : Int64) (v6_175x : Int64) (M_175x : Mem) => (bI (f_X2_tellsPart v4_175x v6_175x M_175x) (fun r180 M180 => (some (r180, M180))))) fu 0 Mm (Nat.zero_le _) (by omega) FrM.rf
  have e1 : f_X1_tellChance_L6 k (nI m) (nI p) (fun (v4_85x : Int64) (M_85x : Mem) => (jn (fun (k117 : Int64 → Option Mem) => (f_X1_tellChance_L91 v4_85x M_85x k117 fu 1 0)) (fun (v6_117x : Int64) => (bR (f_X1_tellLowest v4_85x v6_117x M_85x) (fun M122 => (some M122)))))) fu 0 0 Mc = _ := p1
  have e2 : f_X2_failing_L9 k (nI m) (nI p) (fun (v4_175x : Int64) (v6_175x : Int64) (M_175x : Mem) => (bI (f_X2_tellsPart v4_175x v6_175x M_175x) (fun r180 M180 => (some (r180, M180))))) fu 0 0 0 Mm = _ := q1
  rw [e1, e2, jn_e]
  have hS : SimX c ds d P1 P2 := scr_of h p2 q2
  have w := c_whL hS.1.2.2.2.1 hc (lN (smN (tmN c (rpN c ds d) m p k0 b) (2 ^ c.1))) (fun (v6_117x : Int64) => (bR (f_X1_tellLowest (lN (smN (tmN c (rpN c ds d) m p k0 b) (2 ^ c.1))) v6_117x P1) (fun M122 => (some M122)))) fu 0 (by omega) (by omega)
  have w2 : f_X1_tellChance_L91 (lN (smN (tmN c (rpN c ds d) m p k0 b) (2 ^ c.1))) P1 (fun (v6_117x : Int64) => (bR (f_X1_tellLowest (lN (smN (tmN c (rpN c ds d) m p k0 b) (2 ^ c.1))) v6_117x P1) (fun M122 => (some M122)))) fu 1 0 = _ := w
  have hall := wt_all c.1 (by omega) p (by omega)
  have hle : smN (tmN c (rpN c ds d) m p k0 b) (2 ^ c.1) ≤ 63 * 12 ^ c.1 := by
    rw [← hall]
    refine smN_63 (fun f => ?_) _
    unfold tmN
    rw [Nat.mul_comm]
    exact Nat.mul_le_mul_right _ (vN_le (pN_le hc (okS_it hc m (okS_gn h.okS f))))
  rw [w2, hall]
  obtain ⟨Q1, Q2, z1, z2, z3⟩ := tt_low hS (S := smN (tmN c (rpN c ds d) m p k0 b) (2 ^ c.1)) (W := 12 ^ c.1) (by omega) (by omega) h12.2
  rw [z1, z2, bR_s, bR_s, bI_s, bI_s]
  exact ⟨_, _, _, rfl, rfl, c, ds, d, z3⟩
theorem tt_odds {Mc Mm : Mem} (h0 : Sim Mc Mm) (x y z : Int32) : Both (f_X1_odds x y z Mc) (f_X2_odds x y z Mm) := by
  obtain ⟨c, ds, d, h⟩ := id h0
  have hc := h.1.1
  have h7 := hc.1
  unfold f_X1_odds f_X2_odds
  rcases in_rng x 0 63 (by omega) (by omega) Mc Mm with ⟨k, -, hk, rfl, e1, e2⟩ | ⟨e1, e2⟩
  · rw [show f_X1_isWithin (nI k) 0 63 Mc = some 1 from e1, show f_X2_in (nI k) 0 63 Mm = some 1 from e2, bR_s, bR_s, if10, if10]
    rcases in_rng y 0 20 (by omega) (by omega) Mc Mm with ⟨m, -, hm, rfl, e3, e4⟩ | ⟨e3, e4⟩
    · rw [show f_X1_isWithin (nI m) 0 20 Mc = some 1 from e3, show f_X2_in (nI m) 0 20 Mm = some 1 from e4, bR_s, bR_s, if10, if10]
      rcases in_rng z 0 12 (by omega) (by omega) Mc Mm with ⟨p, -, hp, rfl, e5, e6⟩ | ⟨e5, e6⟩
      · rw [show f_X1_isWithin (nI p) 0 12 Mc = some 1 from e5, show f_X2_in (nI p) 0 12 Mm = some 1 from e6, bR_s, bR_s, if10, if10, h.1.2.2.2.1.1, h.1.2.2.2.2.2.2.1.1]
        by_cases en : c.1 = 0
        · rw [if_pos (show nI c.1 = 0 by rw [en]; rfl), if_pos (show nI c.1 = 0 by rw [en]; rfl)]
          exact both_bad h0 _
        · rw [if_neg (nI_ne0 (by omega) (by omega)), if_neg (nI_ne0 (by omega) (by omega))]
          exact tt_chance h hm hp (b := false) (k0 := k) (Or.inr ⟨rfl, hk, rfl⟩)
      · rw [show f_X1_isWithin z 0 12 Mc = some 0 from e5, show f_X2_in z 0 12 Mm = some 0 from e6, bR_s, bR_s, if00, if00]
        exact both_bad h0 _
    · rw [show f_X1_isWithin y 0 20 Mc = some 0 from e3, show f_X2_in y 0 20 Mm = some 0 from e4, bR_s, bR_s, if00, if00]
      exact both_bad h0 _
  · rw [show f_X1_isWithin x 0 63 Mc = some 0 from e1, show f_X2_in x 0 63 Mm = some 0 from e2, bR_s, bR_s, if00, if00]
    exact both_bad h0 _
theorem tt_mid {Mc Mm : Mem} (h0 : Sim Mc Mm) (y z : Int32) : Both (f_X1_mid y z Mc) (f_X2_mid y z Mm) := by
  obtain ⟨c, ds, d, h⟩ := id h0
  have hc := h.1.1
  have h7 := hc.1
  unfold f_X1_mid f_X2_mid
  rcases in_rng y 0 20 (by omega) (by omega) Mc Mm with ⟨m, -, hm, rfl, e3, e4⟩ | ⟨e3, e4⟩
  · rw [show f_X1_isWithin (nI m) 0 20 Mc = some 1 from e3, show f_X2_in (nI m) 0 20 Mm = some 1 from e4, bR_s, bR_s, if10, if10]
    rcases in_rng z 0 12 (by omega) (by omega) Mc Mm with ⟨p, -, hp, rfl, e5, e6⟩ | ⟨e5, e6⟩
    · rw [show f_X1_isWithin (nI p) 0 12 Mc = some 1 from e5, show f_X2_in (nI p) 0 12 Mm = some 1 from e6, bR_s, bR_s, if10, if10, h.1.2.2.2.1.1, h.1.2.2.2.2.2.2.1.1]
      by_cases en : c.1 = 0
      · rw [if_pos (show nI c.1 = 0 by rw [en]; rfl), if_pos (show nI c.1 = 0 by rw [en]; rfl)]
        exact both_bad h0 _
      · rw [if_neg (nI_ne0 (by omega) (by omega)), if_neg (nI_ne0 (by omega) (by omega))]
        exact tt_chance h hm hp (b := true) (k0 := 0) (Or.inl ⟨rfl, rfl⟩)
    · rw [show f_X1_isWithin z 0 12 Mc = some 0 from e5, show f_X2_in z 0 12 Mm = some 0 from e6, bR_s, bR_s, if00, if00]
      exact both_bad h0 _
  · rw [show f_X1_isWithin y 0 20 Mc = some 0 from e3, show f_X2_in y 0 20 Mm = some 0 from e4, bR_s, bR_s, if00, if00]
    exact both_bad h0 _
