/-! chances -/
theorem bc9 : ∀ w, w < 512 → ix (bcI (nI w)) ≤ 9 ∧ nI (ix (bcI (nI w))) = bcI (nI w) := by decide +kernel
def puN (w : Nat → Nat) : Nat → Nat
  | 0 => 0
  | i + 1 => puN w i + ix (bcI (nI (w i)))
theorem puN_le {w : Nat → Nat} : ∀ n, (∀ i, i < n → w i < 512) → puN w n ≤ 9 * n
  | 0, _ => Nat.le_refl _
  | n + 1, h => by
    have h1 := puN_le n (fun i hi => h i (by omega))
    have h2 := (bc9 (w n) (h n (by omega))).1
    rw [puN]; omega
theorem puI_N {w : Nat → Nat} : ∀ n, (∀ i, i < n → w i < 512) → puI w n = nI (puN w n)
  | 0, _ => rfl
  | n + 1, h => by rw [puI, puN, puI_N n (fun i hi => h i (by omega)), ← addN, (bc9 (w n) (h n (by omega))).2]
def pN (c : Cfg) (σ : Sg) : Nat := puN σ.2.1 c.1
theorem pI_N {c : Cfg} {σ : Sg} (hc : okC c) (hs : okS c σ) : pI c σ = nI (pN c σ) := puI_N c.1 (fun _ hi => okW hc hs hi)
theorem pN_le {c : Cfg} {σ : Sg} (hc : okC c) (hs : okS c σ) : pN c σ ≤ 63 := by
  have h := puN_le (w := σ.2.1) c.1 (fun _ hi => okW hc hs hi)
  have h7 := hc.1
  unfold pN; omega
def wtN (p f : Nat) : Nat → Nat
  | 0 => 1
  | i + 1 => wtN p f i * if bitN f i = 1 then p else 12 - p
def smN (g : Nat → Nat) : Nat → Nat
  | 0 => 0
  | f + 1 => smN g f + g f
theorem wt_all : ∀ n, n < 8 → ∀ p, p < 13 → smN (fun f => wtN p f n) (2 ^ n) = 12 ^ n := by decide +kernel
theorem wtN_le {p : Nat} (hp : p ≤ 12) (f : Nat) : ∀ i, wtN p f i ≤ 12 ^ i
  | 0 => Nat.le_refl _
  | i + 1 => by
    rw [wtN, Nat.pow_succ]
    exact Nat.mul_le_mul (wtN_le hp f i) (by split <;> omega)
theorem p12 {n : Nat} (h : n ≤ 7) : 12 ^ n ≤ 35831808 ∧ 1 ≤ 12 ^ n := by
  have h1 : 12 ^ n ≤ 12 ^ 7 := Nat.pow_le_pow_right (by decide) h
  have h2 : 0 < 12 ^ n := Nat.pow_pos (by decide)
  exact ⟨by omega, h2⟩
theorem p2n {n : Nat} (h : n ≤ 7) : 2 ^ n ≤ 128 := by
  have h1 : 2 ^ n ≤ 2 ^ 7 := Nat.pow_le_pow_right (by decide) h
  omega
theorem smN_mono (g : Nat → Nat) : ∀ (f k : Nat), smN g f ≤ smN g (f + k)
  | f, 0 => Nat.le_refl _
  | f, k + 1 => by
    have h := smN_mono g f k
    show _ ≤ smN g (f + k) + g (f + k)
    omega
theorem smN_63 {g h : Nat → Nat} (q : ∀ f, g f ≤ 63 * h f) : ∀ f, smN g f ≤ 63 * smN h f
  | 0 => Nat.zero_le _
  | f + 1 => by
    have h1 := smN_63 q f
    have h2 := q f
    rw [smN, smN]; omega
theorem c_wtL {M : Mem} {c : Cfg} {σ : Sg} (h : stC M 15 c σ) (hc : okC c) {p f : Nat} (hp : p ≤ 12) (hf : f < 128) : ∀ (n j : Nat), j ≤ c.1 → c.1 - j < n → f_X1_weightOf_L5 (nI f) (nI p) M n (lN (wtN p f j)) (nI j) = some (lN (wtN p f c.1))
  | 0, j, _, h => by omega
  | n + 1, j, hj, hn => by
    have h7 := hc.1
    rw [f_X1_weightOf_L5, h.1, iteLe (by omega) (by omega)]
    by_cases e : c.1 ≤ j
    · rw [if_pos e, show j = c.1 by omega]
    · have ih := c_wtL h hc hp hf n (j + 1) (by omega) (by omega)
      rw [wtN] at ih
      have hb := bitN_le f j
      rw [if_neg e, jn_e, bitI (by omega) (by omega), show (1 : Int32) = nI 1 from rfl, iteEq (by omega) (by omega), addN, nI_l (by omega), show (12 : Int32) - nI p = nI (12 - p) from subN (a := 12) hp, nI_l (by omega)]
      by_cases g : bitN f j = 1
      · rw [if_pos g, ← lN_mul] at ih
        rw [if_pos g]
        exact ih
      · rw [if_neg g, ← lN_mul] at ih
        rw [if_neg g]
        exact ih
theorem c_wt {M : Mem} {c : Cfg} {σ : Sg} (h : stC M 15 c σ) (hc : okC c) {p f : Nat} (hp : p ≤ 12) (hf : f < 128) : f_X1_weightOf (nI f) (nI p) M = some (lN (wtN p f c.1)) := by
  have h7 := hc.1
  unfold f_X1_weightOf
  obtain ⟨fu, hfu, hf2⟩ := FUx
  rw [← hfu]
  exact c_wtL h hc hp hf fu 0 (by omega) (by omega)
def xN (c : Cfg) (σ : Sg) (m f : Nat) : Nat := pN c (itN c m (gnN σ f))
theorem c_left {c : Cfg} {ds : Nat → Nat} {d f m : Nat} {Mc Mm M : Mem} (h0 : SimX c ds d Mc Mm) (hF : Fr 22 Mc M) (hf : f < 128) (hm : m ≤ 20) : ∃ M', f_X1_leftWithout (nI f) (nI m) M = some (nI (xN c (rpN c ds d) m f), M') ∧ Fr 22 Mc M' := by
  have hc := h0.1.1
  have ht := h0.t
  have h15 : stC M 15 c (rpN c ds d) := stC_of h0.1.2.2.2.1 (hF.2 15 (by omega)) (fun j j1 j2 => hF.2 (15 + j) (by omega))
  obtain ⟨P, p1, p2, p3⟩ := cs_take (Or.inl ⟨rfl, rfl⟩) hc h15
  obtain ⟨Q, q1, q2, q3⟩ := cs_empty hc p2 hf
  have hs := okS_gn (c := c) h0.okS f
  obtain ⟨R, r1, r2, r3⟩ := cs_goOn (m := m) hc hs (by omega) (by show (rpN c ds d).1 + m < 1000; omega) q2
  unfold f_X1_leftWithout
  rw [p1, bR_s, q1, bR_s, r1, bR_s, cs_pulses r2 hc, bR_s, pI_N hc (okS_it hc m hs)]
  exact ⟨R, rfl, ((hF.tr p3).tr q3).tr r3⟩
/-- which count it is: all that is left (k = -1), or whether enough is left -/
def isK (k : Int32) (b : Bool) (k0 : Nat) : Prop := (b = true ∧ k = -1) ∨ (b = false ∧ k0 ≤ 63 ∧ k = nI k0)
def vN (b : Bool) (k0 x : Nat) : Nat := if b = true then x else if x < k0 then 0 else 1
theorem vN_le {b : Bool} {k0 x : Nat} (h : x ≤ 63) : vN b k0 x ≤ 63 := by
  unfold vN
  repeat' split
  all_goals omega
def tmN (c : Cfg) (σ : Sg) (m p k0 : Nat) (b : Bool) (f : Nat) : Nat := wtN p f c.1 * vN b k0 (xN c σ m f)
theorem c_chL {c : Cfg} {ds : Nat → Nat} {d m p k0 : Nat} {k : Int32} {b : Bool} {Mc Mm : Mem} (h0 : SimX c ds d Mc Mm) (hm : m ≤ 20) (hp : p ≤ 12) (hk : isK k b k0) (K : Int64 → Mem → Option Mem) : ∀ (n f : Nat) (M : Mem), f ≤ 2 ^ c.1 → 2 ^ c.1 - f < n → Fr 22 Mc M → ∃ M', f_X1_tellChance_L6 k (nI m) (nI p) K n (lN (smN (tmN c (rpN c ds d) m p k0 b) f)) (nI f) M = K (lN (smN (tmN c (rpN c ds d) m p k0 b) (2 ^ c.1))) M' ∧ Fr 22 Mc M'
  | 0, f, M, _, h, _ => by omega
  | n + 1, f, M, hf, hn, hF => by
    have hc := h0.1.1
    have h7 := hc.1
    have ht := h0.t
    have h2 := p2n h7
    have h15 : stC M 15 c (rpN c ds d) := stC_of h0.1.2.2.2.1 (hF.2 15 (by omega)) (fun j j1 j2 => hF.2 (15 + j) (by omega))
    rw [f_X1_tellChance_L6, h15.1, show shl 1 (nI c.1) = nI (1 * 2 ^ c.1) from shlN (n := 1) (by omega) (by omega), Nat.one_mul, iteLe (by omega) (by omega)]
    by_cases e : 2 ^ c.1 ≤ f
    · rw [if_pos e, show f = 2 ^ c.1 by omega]
      exact ⟨M, rfl, hF⟩
    · have hw := wtN_le hp f c.1
      have h12 := p12 h7
      rw [if_neg e, c_wt h15 hc hp (show f < 128 by omega), bR_s]
      simp only [jn_e]
      rw [show nI f + 1 = nI (f + 1) from nI_1 f]
      by_cases ew : wtN p f c.1 = 0
      · rw [if_pos (show lg_cmp (lN (wtN p f c.1)) 0 ≤ 0 from (lg_cmp_le _ _).mpr (show lN (wtN p f c.1) ≤ lN 0 from (pk_lLE (by omega) (by omega)).mpr (by omega)))]
        have ih := c_chL h0 hm hp hk K n (f + 1) M (by omega) (by omega) hF
        rw [smN, show tmN c (rpN c ds d) m p k0 b f = 0 by unfold tmN; rw [ew, Nat.zero_mul], Nat.add_zero] at ih
        exact ih
      · rw [if_neg (fun q => ew (by have := (pk_lLE (a := wtN p f c.1) (b := 0) (by omega) (by omega)).mp ((lg_cmp_le _ _).mp q); omega))]
        obtain ⟨P, p1, p2⟩ := c_left h0 hF (show f < 128 by omega) hm
        have hx : xN c (rpN c ds d) m f ≤ 63 := pN_le hc (okS_it hc m (okS_gn h0.okS f))
        have ih := c_chL h0 hm hp hk K n (f + 1) P (by omega) (by omega) p2
        rw [smN, ← lN_add] at ih
        rw [p1, bI_s]
        unfold tmN at ih
        rw [← lN_mul] at ih
        rcases hk with ⟨rfl, rfl⟩ | ⟨rfl, hk0, rfl⟩
        · rw [show vN true k0 (xN c (rpN c ds d) m f) = xN c (rpN c ds d) m f from rfl] at ih
          rw [if_neg (show ¬ nI (xN c (rpN c ds d) m f) < -1 from fun q => nI_pos (n := xN c (rpN c ds d) m f) (by omega) (Int32.lt_of_lt_of_le q (by decide))), if_pos (show (-1 : Int32) = -1 from rfl), nI_l (by omega)]
          exact ih
        · rw [iteLt (by omega) (by omega), if_neg (nI_nm (by omega)), if_neg (nI_nm (by omega))]
          by_cases g : xN c (rpN c ds d) m f < k0
          · rw [show vN false k0 (xN c (rpN c ds d) m f) = 0 from if_pos g] at ih
            rw [if_pos g]
            exact ih
          · rw [show vN false k0 (xN c (rpN c ds d) m f) = 1 from if_neg g] at ih
            rw [if_neg g]
            exact ih
theorem c_whL {M : Mem} {c : Cfg} {σ : Sg} (h : stC M 15 c σ) (hc : okC c) (z : Int64) (K : Int64 → Option Mem) : ∀ (n j : Nat), j ≤ c.1 → c.1 - j < n → f_X1_tellChance_L91 z M K n (lN (12 ^ j)) (nI j) = K (lN (12 ^ c.1))
  | 0, j, _, h => by omega
  | n + 1, j, hj, hn => by
    have h7 := hc.1
    rw [f_X1_tellChance_L91, h.1, iteLe (by omega) (by omega)]
    by_cases e : c.1 ≤ j
    · rw [if_pos e, show j = c.1 by omega]
    · rw [if_neg e, show (12 : Int64) = lN 12 from rfl, lN_mul, ← Nat.pow_succ, show nI j + 1 = nI (j + 1) from nI_1 j]
      exact c_whL h hc z K n (j + 1) (by omega) (by omega)
