/-- where the turns of a prefix lead -/
def mvd (k g e : Nat) : Nat := if g = 0 then e else mv k (g - 1) e
def eP (e0 : Nat) : Nat → Nat → Nat
  | 0, _ => e0
  | k + 1, p => mvd k (p % 8) (eP e0 k (p / 8))
def okP (N : Nat) : Nat → Nat → Prop
  | 0, _ => True
  | k + 1, p => p % 8 ≤ N ∧ okP N k (p / 8)
theorem okP_pre (N : Nat) : ∀ (i k p : Nat), okP N (k + i) p → okP N k (p / 8 ^ i)
  | 0, k, p, h => by rw [Nat.pow_zero, Nat.div_one]; exact h
  | i + 1, k, p, h => by
    have h1 : okP N (k + i) (p / 8) := h.2
    have h2 := okP_pre N i k (p / 8) h1
    rw [Nat.div_div_eq_div_mul] at h2
    rw [Nat.pow_succ, Nat.mul_comm]
    exact h2
theorem w_or1 : ∀ w, w < 512 → nI w ||| 1 = nI (w / 2 * 2 + 1) := by decide +kernel
theorem w_and2 : ∀ w, w < 512 → nI w &&& (-2) = nI (w / 2 * 2) := by decide +kernel
theorem pow8 (T : Nat) : 2 ^ (3 * T) = 8 ^ T := Nat.pow_mul 2 3 T
theorem p8 {T : Nat} (h : T ≤ 3) : 8 ^ T ≤ 512 := by
  have h1 : 8 ^ T ≤ 8 ^ 3 := Nat.pow_le_pow_right (by decide) h
  omega
/-- one end is set or taken -/
theorem ed_mv {c : Cfg} {σ : Sg} {M : Mem} {e i k : Nat} (hc : okC c) (hs : okS c σ) (he : e < 128) (hi : i < c.1) (h : stM M 9 c (edN σ e)) {v : Int32} (hv : v = if k % 2 = 0 then M.1 9 (1 + i) ||| 1 else M.1 9 (1 + i) &&& (-2)) : stM (sI M 9 (1 + i) v) 9 c (edN σ (mv k i e)) := by
  have h7 := hc.1
  have hw := okW hc (okS_ed hc hs e) hi
  have hv2 : v = nI ((edN σ (mv k i e)).2.1 i) := by
    rw [hv, (h.2.2 i hi).2.2.2.1]
    show _ = nI (σ.2.1 i / 2 * 2 + bitN (mv k i e) i)
    have hb := bitN_le e i
    by_cases g : k % 2 = 0
    · rw [if_pos g, w_or1 _ hw, show mv k i e = stB e i from if_pos g, stB_b e he i (by omega) i (by omega), if_pos rfl]
      show nI ((σ.2.1 i / 2 * 2 + bitN e i) / 2 * 2 + 1) = _
      exact congrArg nI (by omega)
    · rw [if_neg g, w_and2 _ hw, show mv k i e = clB e i from if_neg g, clB_b e he i (by omega) i (by omega), if_pos rfl]
      show nI ((σ.2.1 i / 2 * 2 + bitN e i) / 2 * 2) = _
      exact congrArg nI (by omega)
  rw [hv2]
  refine stM_ext (stM_sw (Or.inr rfl) hc h hi _) rfl (fun x hx => ?_) (fun _ _ => rfl)
  show (if x = i then (edN σ (mv k i e)).2.1 i else σ.2.1 x / 2 * 2 + bitN e x) = σ.2.1 x / 2 * 2 + bitN (mv k i e) x
  by_cases g : x = i
  · rw [if_pos g, g]; rfl
  · rw [if_neg g]
    unfold mv
    by_cases g2 : k % 2 = 0
    · rw [if_pos g2, stB_b e he i (by omega) x (by omega), if_neg g]
    · rw [if_neg g2, clB_b e he i (by omega) x (by omega), if_neg g]
theorem pow8_1 {T k : Nat} (h : k < T) : 8 ^ (T - k) = 8 ^ (T - 1 - k) * 8 := by
  rw [← Nat.pow_succ]
  exact congrArg (8 ^ ·) (by omega)
theorem m_woT {c : Cfg} {σ : Sg} {T code e0 : Nat} (hc : okC c) (hs : okS c σ) (hT : T ≤ 3) (hcode : code < 512) (K : Mem → Option (Int32 × Mem)) (Q : Int32 → Prop) (hK : ∀ M, stM M 9 c (edN σ (eP e0 T code)) → ∃ r M', K M = some (r, M') ∧ FrM 9 M M' ∧ (okP c.1 T code → Q r)) : ∀ (n k : Nat) (M : Mem), k ≤ T → T - k < n → eP e0 k (code / 8 ^ (T - k)) < 128 → stM M 9 c (edN σ (eP e0 k (code / 8 ^ (T - k)))) → ∃ r M', f_X2_worthOf_L6 (nI code) (nI T) K n (nI k) M = some (r, M') ∧ FrM 9 M M' ∧ (okP c.1 T code → Q r)
  | 0, k, M, _, h, _, _ => by omega
  | n + 1, k, M, hk, hn, he, h => by
    have h7 := hc.1
    rw [f_X2_worthOf_L6, iteLe (by omega) (by omega)]
    by_cases g : T ≤ k
    · rw [if_pos g]
      have ek : k = T := by omega
      rw [ek, Nat.sub_self, Nat.pow_zero, Nat.div_one] at h
      exact hK M h
    · have e3 : (nI T - 1) - nI k = nI (T - 1 - k) := by rw [show nI T - 1 = nI (T - 1) from subN (b := 1) (by omega), subN (by omega)]
      have e4 : shr (nI code) (3 * (nI T - 1 - nI k)) &&& 7 = nI (code / 8 ^ (T - 1 - k) % 8) := by
        rw [e3, show (3 : Int32) * nI (T - 1 - k) = nI (3 * (T - 1 - k)) from mulN 3 _, shrN (by omega) (by omega), pow8]
        have h1 := Nat.div_le_self code (8 ^ (T - 1 - k))
        exact pk_andN (by omega) 3 (by decide)
      have hd : code / 8 ^ (T - 1 - k) % 8 < 8 := Nat.mod_lt _ (by omega)
      have hpre : code / 8 ^ (T - 1 - k) / 8 = code / 8 ^ (T - k) := by rw [Nat.div_div_eq_div_mul, ← pow8_1 (by omega)]
      have hnext : eP e0 (k + 1) (code / 8 ^ (T - (k + 1))) = mvd k (code / 8 ^ (T - 1 - k) % 8) (eP e0 k (code / 8 ^ (T - k))) := by
        rw [show T - (k + 1) = T - 1 - k by omega, eP, hpre]
      rw [if_neg g, e4, h.1, show irm (nI k) 2 = nI (k % 2) from irmN (d := 2) (by omega) (by omega) (by omega), show nI k + 1 = nI (k + 1) from nI_1 k]
      simp only [jn_e, lt_e]
      generalize hdd : code / 8 ^ (T - 1 - k) % 8 = g8 at hd hnext ⊢
      cases g8 with
      | zero =>
        have z1 : nI 0 - 1 < nI c.1 := Int32.lt_of_lt_of_le (by decide) (nI_pos' (by omega))
        rw [if_pos z1, if_pos (show nI 0 - 1 < 0 by decide)]
        have e5 : eP e0 (k + 1) (code / 8 ^ (T - (k + 1))) = eP e0 k (code / 8 ^ (T - k)) := by rw [hnext]; rfl
        exact m_woT hc hs hT hcode K Q hK n (k + 1) M (by omega) (by omega) (by rw [e5]; exact he) (by rw [e5]; exact h)
      | succ i =>
        rw [show nI (i + 1) - 1 = nI i from subN (b := 1) (by omega), iteLt (by omega) (by omega)]
        by_cases gi : i < c.1
        · rw [if_pos gi, if_neg (nI_pos (by omega)), show (1 : Int32) + nI i = nI (1 + i) from addN 1 i]
          simp only [grd_t (inb_t (show 1 + i < 15 by omega) (show 15 < 2147483648 by omega)), ixn (show 1 + i < 2147483648 by omega)]
          have e5 : eP e0 (k + 1) (code / 8 ^ (T - (k + 1))) = mv k i (eP e0 k (code / 8 ^ (T - k))) := by rw [hnext]; rfl
          have go : ∀ v, v = (if k % 2 = 0 then M.1 9 (1 + i) ||| 1 else M.1 9 (1 + i) &&& (-2)) → ∃ r M', f_X2_worthOf_L6 (nI code) (nI T) K n (nI (k + 1)) (sI M 9 (1 + i) v) = some (r, M') ∧ FrM 9 M M' ∧ (okP c.1 T code → Q r) := by
            intro v hv
            obtain ⟨r, M', q1, q2, q3⟩ := m_woT hc hs hT hcode K Q hK n (k + 1) (sI M 9 (1 + i) v) (by omega) (by omega) (by rw [e5]; exact mv_lt he (by omega)) (by rw [e5]; exact ed_mv hc hs he gi h hv)
            exact ⟨r, M', q1, FrM.tr (M1 := sI M 9 (1 + i) v) ⟨rfl, fun a ha _ => sI_n _ _ _ _ ha⟩ q2, q3⟩
          by_cases ev : k % 2 = 0
          · rw [if_pos (show nI (k % 2) = 0 by rw [ev]; rfl)]
            exact go _ (by rw [if_pos ev])
          · rw [if_neg (nI_ne0 (by omega) (by omega))]
            exact go _ (by rw [if_neg ev])
        · rw [if_neg gi]
          refine ⟨_, M, rfl, FrM.rf, fun ok => ?_⟩
          have h1 : okP c.1 (k + 1) (code / 8 ^ (T - 1 - k)) := okP_pre c.1 (T - 1 - k) (k + 1) code (by rw [show k + 1 + (T - 1 - k) = T by omega]; exact ok)
          have h2 : code / 8 ^ (T - 1 - k) % 8 ≤ c.1 := h1.1
          omega
theorem eP_lt {e0 : Nat} (he : e0 < 128) {N : Nat} (hN : N ≤ 7) : ∀ (k p : Nat), okP N k p → eP e0 k p < 128
  | 0, p, _ => he
  | k + 1, p, h => by
    have h1 := eP_lt he hN k (p / 8) h.2
    have h2 : p % 8 ≤ N := h.1
    rw [eP]
    unfold mvd
    split
    · exact h1
    · exact mv_lt h1 (by omega)
theorem m_worth {c : Cfg} {ds : Nat → Nat} {d T code : Nat} {Mc Mm M : Mem} (h0 : SimX c ds d Mc Mm) (hT : T ≤ 3) (hcode : code < 8 ^ T) (hF : ∀ a, a ≠ 9 → a ≠ 17 → a ≠ 19 → M.1 a = Mm.1 a) : ∃ r M', f_X2_worthOf (nI code) (nI T) M = some (r, M') ∧ FrM 9 M M' ∧ (okP c.1 T code → r = lfI c (rpN c ds d) (eP (enN (rpN c ds d).2.1 c.1) T code)) := by
  have hc := h0.1.1
  have h7 := hc.1
  have ht := h0.t
  have h8 := p8 hT
  have hm8 : stM M 8 c (rpN c ds d) := stM_of h0.1.2.2.2.2.2.2.1 (hF 0 (by omega) (by omega) (by omega)) (hF 8 (by omega) (by omega) (by omega)) (hF 5 (by omega) (by omega) (by omega)) (hF 6 (by omega) (by omega) (by omega)) (hF 7 (by omega) (by omega) (by omega))
  obtain ⟨P, p1, p2, p3⟩ := ms_asItIs hc hm8
  unfold f_X2_worthOf
  obtain ⟨fu, hfu, hf2⟩ := FUx
  rw [← hfu, p1, bR_s, jn_e]
  have h1 := enN_lt (rpN c ds d).2.1 c.1
  have h2 := en128 h7
  have p2' : stM P 9 c (edN (rpN c ds d) (eP (enN (rpN c ds d).2.1 c.1) 0 (code / 8 ^ (T - 0)))) := stM_ext p2 rfl (fun i hi => by
    show (rpN c ds d).2.1 i = (rpN c ds d).2.1 i / 2 * 2 + bitN (enN (rpN c ds d).2.1 c.1) i
    rw [enN_b _ c.1 h7 i hi]; omega) (fun _ _ => rfl)
  obtain ⟨r, M', q1, q2, q3⟩ := m_woT (e0 := enN (rpN c ds d).2.1 c.1) hc h0.okS hT (show code < 512 by omega) (fun M_90x => bR (f_X2_goes 8 M_90x) fun M93 => bR (f_X2_pulses 9 15 M93) fun r101 => some (r101, M93)) (fun r => r = lfI c (rpN c ds d) (eP (enN (rpN c ds d).2.1 c.1) T code)) (fun M hM => by
    have hs := okS_ed hc h0.okS (eP (enN (rpN c ds d).2.1 c.1) T code)
    obtain ⟨R, r1, r2, r3⟩ := ms_goes (m := 8) hc hs (by omega) (by show (rpN c ds d).1 + 8 < 1000; omega) hM
    exact ⟨lfI c (rpN c ds d) (eP (enN (rpN c ds d).2.1 c.1) T code), R, by
      rw [show f_X2_goes 8 M = some R from r1, bR_s, ms_pulses r2 hc (okS_it hc 8 hs), bR_s]; rfl, r3, fun _ => rfl⟩) fu 0 P (by omega) (by omega) (by show enN (rpN c ds d).2.1 c.1 < 128; omega) p2'
  exact ⟨r, M', q1, p3.tr q2, q3⟩
