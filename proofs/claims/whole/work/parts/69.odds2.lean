theorem lg0_t {w : Nat} (h : w = 0) : lg_cmp (lN w) 0 ≤ 0 := by rw [h]; decide
theorem lg0_f {w : Nat} (h : ¬ w = 0) (h2 : w < 9223372036854775808) : ¬ lg_cmp (lN w) 0 ≤ 0 := fun q => h (by have := (pk_lLE (a := w) (b := 0) (by omega) (by omega)).mp ((lg_cmp_le _ _).mp q); omega)
/-- the words of the tubes before j are gone, where the set has them -/
def gpN (σ : Sg) (f j : Nat) : Sg := (σ.1, fun i => if i < j ∧ bitN f i = 1 then 0 else σ.2.1 i, σ.2.2)
theorem m_gnL {c : Cfg} {σ : Sg} (hc : okC c) {p f : Nat} (hp : p ≤ 12) (hf : f < 128) (y1 y2 : Int32) (z1 z2 : Int64) (K : Int64 → Mem → Option (Int32 × Mem)) : ∀ (n j : Nat) (M : Mem), j ≤ c.1 → c.1 - j < n → stM M 9 c (gpN σ f j) → ∃ M', f_X2_failing_L30 y1 y2 (nI p) z1 z2 (nI f) K n (lN (wtN p f j)) (nI j) M = K (lN (wtN p f c.1)) M' ∧ stM M' 9 c (gnN σ f) ∧ FrM 9 M M'
  | 0, j, M, _, h, _ => by omega
  | n + 1, j, M, hj, hn, h => by
    have h7 := hc.1
    rw [f_X2_failing_L30, h.1, iteLe (by omega) (by omega)]
    by_cases e : c.1 ≤ j
    · rw [if_pos e, show j = c.1 by omega]
      refine ⟨M, rfl, stM_ext h rfl (fun i hi => ?_) (fun _ _ => rfl), FrM.rf⟩
      show (if i < j ∧ bitN f i = 1 then 0 else σ.2.1 i) = if bitN f i = 1 then 0 else σ.2.1 i
      by_cases g : bitN f i = 1
      · rw [if_pos ⟨by omega, g⟩, if_pos g]
      · rw [if_neg (fun q => g q.2), if_neg g]
    · have hb := bitN_le f j
      have h2 : ∀ v, v = (gpN σ f (j + 1)).2.1 j → stM (sI M 9 (1 + j) (nI v)) 9 c (gpN σ f (j + 1)) := by
        intro v hv
        refine stM_ext (stM_sw (Or.inr rfl) hc h (show j < c.1 by omega) v) rfl (fun i hi => ?_) (fun _ _ => rfl)
        show (if i = j then v else if i < j ∧ bitN f i = 1 then 0 else σ.2.1 i) = if i < j + 1 ∧ bitN f i = 1 then 0 else σ.2.1 i
        by_cases g : i = j
        · rw [if_pos g, hv, g]; rfl
        · rw [if_neg g]
          by_cases g2 : i < j ∧ bitN f i = 1
          · rw [if_pos g2, if_pos ⟨by omega, g2.2⟩]
          · rw [if_neg g2, if_neg (fun q => g2 ⟨by omega, q.2⟩)]
      have fin : ∀ v w, v = (gpN σ f (j + 1)).2.1 j → w = wtN p f (j + 1) → ∃ M', f_X2_failing_L30 y1 y2 (nI p) z1 z2 (nI f) K n (lN w) (nI (j + 1)) (sI M 9 (1 + j) (nI v)) = K (lN (wtN p f c.1)) M' ∧ stM M' 9 c (gnN σ f) ∧ FrM 9 M M' := by
        intro v w hv hw
        rw [hw]
        obtain ⟨M', q1, q2, q3⟩ := m_gnL hc hp hf y1 y2 z1 z2 K n (j + 1) _ (by omega) (by omega) (h2 v hv)
        exact ⟨M', q1, q2, FrM.tr (M1 := sI M 9 (1 + j) (nI v)) ⟨rfl, fun a ha _ => sI_n _ _ _ _ ha⟩ q3⟩
      rw [if_neg e, bitI (by omega) (by omega), show (1 : Int32) + nI j = nI (1 + j) from addN 1 j, show (12 : Int32) - nI p = nI (12 - p) from subN (a := 12) hp, nI_l (show 12 - p < 2147483648 by omega), nI_l (show p < 2147483648 by omega), show nI j + 1 = nI (j + 1) from nI_1 j]
      simp only [jn_e, lt_e, grd_t (inb_t (show 1 + j < 15 by omega) (show 15 < 2147483648 by omega)), ixn (show 1 + j < 2147483648 by omega), (h.2.2 j (by omega)).2.2.2.1, lN_mul]
      by_cases g : bitN f j = 1
      · rw [if_pos (show nI (bitN f j) = 1 by rw [g]; rfl), if10, if10]
        exact fin 0 _ (by show 0 = if j < j + 1 ∧ bitN f j = 1 then 0 else σ.2.1 j; rw [if_pos ⟨by omega, g⟩]) (by rw [wtN, if_pos g])
      · rw [if_neg (show ¬ nI (bitN f j) = 1 from neqN (b := 1) (by omega) (by omega) g), if_pos True.intro, if_pos True.intro]
        refine fin _ _ ?_ (by rw [wtN, if_neg g])
        show (if j < j ∧ bitN f j = 1 then 0 else σ.2.1 j) = if j < j + 1 ∧ bitN f j = 1 then 0 else σ.2.1 j
        rw [if_neg (by omega), if_neg (fun q => g q.2)]
theorem m_chL {c : Cfg} {ds : Nat → Nat} {d m p k0 : Nat} {k : Int32} {b : Bool} {Mc Mm : Mem} (h0 : SimX c ds d Mc Mm) (hm : m ≤ 20) (hp : p ≤ 12) (hk : isK k b k0) (K : Int64 → Int64 → Mem → Option (Int32 × Mem)) : ∀ (n f : Nat) (M : Mem), f ≤ 2 ^ c.1 → 2 ^ c.1 - f < n → FrM 9 Mm M → ∃ M', f_X2_failing_L9 k (nI m) (nI p) K n (lN (smN (tmN c (rpN c ds d) m p k0 b) f)) (lN (smN (fun f => wtN p f c.1) f)) (nI f) M = K (lN (smN (tmN c (rpN c ds d) m p k0 b) (2 ^ c.1))) (lN (smN (fun f => wtN p f c.1) (2 ^ c.1))) M' ∧ FrM 9 Mm M'
  | 0, f, M, _, h, _ => by omega
  | n + 1, f, M, hf, hn, hF => by
    have hc := h0.1.1
    have h7 := hc.1
    have ht := h0.t
    have h2 := p2n h7
    have hm8 : stM M 8 c (rpN c ds d) := stM_of h0.1.2.2.2.2.2.2.1 (hF.2 0 (by omega) (by omega)) (hF.2 8 (by omega) (by omega)) (hF.2 5 (by omega) (by omega)) (hF.2 6 (by omega) (by omega)) (hF.2 7 (by omega) (by omega))
    obtain ⟨fu, hfu, hf2⟩ := FUx
    rw [f_X2_failing_L9, hm8.1, show shl 1 (nI c.1) = nI (1 * 2 ^ c.1) from shlN (n := 1) (by omega) (by omega), Nat.one_mul, iteLe (by omega) (by omega), ← hfu]
    by_cases e : 2 ^ c.1 ≤ f
    · rw [if_pos e, show f = 2 ^ c.1 by omega]
      exact ⟨M, rfl, hF⟩
    · have hw := wtN_le hp f c.1
      have h12 := p12 h7
      obtain ⟨P, p1, p3, p4⟩ := ms_asItIs hc hm8
      rw [if_neg e, p1, bR_s, jn_e]
      have p3' : stM P 9 c (gpN (rpN c ds d) f 0) := stM_ext p3 rfl (fun i hi => by
        show (rpN c ds d).2.1 i = if i < 0 ∧ bitN f i = 1 then 0 else (rpN c ds d).2.1 i
        rw [if_neg (by omega)]) (fun _ _ => rfl)
      obtain ⟨Q, q1, q2, q3⟩ := m_gnL hc hp (show f < 128 by omega) k (nI m) (lN (smN (tmN c (rpN c ds d) m p k0 b) f)) (lN (smN (fun f => wtN p f c.1) f)) (fun (v9_110x : Int64) (M_110x : Mem) => (jn (fun (k169 : Int64 → Mem → Option (Int32 × Mem)) => (if (lg_cmp v9_110x 0) ≤ 0 then (k169 (lN (smN (tmN c (rpN c ds d) m p k0 b) f)) M_110x) else (bR (f_X2_goes (nI m) M_110x) (fun M126 => (bR (f_X2_pulses 9 15 M126) (fun r134 => (jn (fun (k166 : Int64 → Option (Int32 × Mem)) => (if 0 ≤ k then (if r134 < k then (k166 0) else (k166 v9_110x)) else (k166 (v9_110x * r134.toInt64)))) (fun (t0_166j : Int64) => (k169 (lN (smN (tmN c (rpN c ds d) m p k0 b) f) + t0_166j) M126))))))))) (fun (v4_169j : Int64) (M_169j : Mem) => (f_X2_failing_L9 k (nI m) (nI p) K n v4_169j (lN (smN (fun f => wtN p f c.1) f) + v9_110x) (nI f + 1) M_169j)))) fu 0 P (by omega) (by omega) p3'
      refine (show ∃ M', f_X2_failing_L30 k (nI m) (nI p) (lN (smN (tmN c (rpN c ds d) m p k0 b) f)) (lN (smN (fun f => wtN p f c.1) f)) (nI f) _ fu 1 0 P = _ ∧ FrM 9 Mm M' from ?_)
      rw [show f_X2_failing_L30 k (nI m) (nI p) (lN (smN (tmN c (rpN c ds d) m p k0 b) f)) (lN (smN (fun f => wtN p f c.1) f)) (nI f) _ fu 1 0 P = _ from q1]
      simp only [jn_e]
      rw [show nI f + 1 = nI (f + 1) from nI_1 f, lN_add]
      have eA : smN (fun f => wtN p f c.1) f + wtN p f c.1 = smN (fun f => wtN p f c.1) (f + 1) := rfl
      rw [eA]
      have hF2 : FrM 9 Mm Q := (hF.tr p4).tr q3
      by_cases ew : wtN p f c.1 = 0
      · rw [if_pos (lg0_t ew)]
        have ih := m_chL h0 hm hp hk K n (f + 1) Q (by omega) (by omega) hF2
        rw [show smN (tmN c (rpN c ds d) m p k0 b) (f + 1) = smN (tmN c (rpN c ds d) m p k0 b) f by
          rw [smN, show tmN c (rpN c ds d) m p k0 b f = 0 by unfold tmN; rw [ew, Nat.zero_mul]]; rfl] at ih
        exact ih
      · rw [if_neg (lg0_f ew (by omega))]
        have hs := okS_gn (c := c) h0.okS f
        obtain ⟨R, r1, r2, r3⟩ := ms_goes (m := m) hc hs (by omega) (by show (rpN c ds d).1 + m < 1000; omega) q2
        have hx : xN c (rpN c ds d) m f ≤ 63 := pN_le hc (okS_it hc m (okS_gn h0.okS f))
        have ih := m_chL h0 hm hp hk K n (f + 1) R (by omega) (by omega) (hF2.tr r3)
        rw [show smN (tmN c (rpN c ds d) m p k0 b) (f + 1) = smN (tmN c (rpN c ds d) m p k0 b) f + tmN c (rpN c ds d) m p k0 b f from rfl, ← lN_add] at ih
        rw [r1, bR_s, ms_pulses r2 hc (okS_it hc m hs), bR_s, pI_N hc (okS_it hc m hs), show pN c (itN c m (gnN (rpN c ds d) f)) = xN c (rpN c ds d) m f from rfl]
        unfold tmN at ih ⊢
        rcases hk with ⟨rfl, rfl⟩ | ⟨rfl, hk0, rfl⟩
        · rw [show vN true k0 (xN c (rpN c ds d) m f) = xN c (rpN c ds d) m f from rfl, ← lN_mul] at ih
          rw [if_neg (show ¬ (0 : Int32) ≤ -1 by decide), nI_l (by omega)]
          exact ih
        · rw [if_pos (nI_pos' (by omega)), iteLt (by omega) (by omega)]
          by_cases g : xN c (rpN c ds d) m f < k0
          · rw [show vN false k0 (xN c (rpN c ds d) m f) = 0 from if_pos g, Nat.mul_zero] at ih
            rw [if_pos g]
            exact ih
          · rw [show vN false k0 (xN c (rpN c ds d) m f) = 1 from if_neg g, Nat.mul_one] at ih
            rw [if_neg g]
            exact ih
