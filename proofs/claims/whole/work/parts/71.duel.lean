/-! by turns -/
def stB (e i : Nat) : Nat := e + (1 - bitN e i) * 2 ^ i
def clB (e i : Nat) : Nat := e - bitN e i * 2 ^ i
theorem stB_f : ∀ e, e < 128 → ∀ i, i < 7 → nI e ||| shl 1 (nI i) = nI (stB e i) ∧ stB e i < 128 := by decide +kernel
theorem clB_f : ∀ e, e < 128 → ∀ i, i < 7 → nI e &&& (shl 1 (nI i) ^^^ (-1)) = nI (clB e i) ∧ clB e i < 128 := by decide +kernel
theorem stB_b : ∀ e, e < 128 → ∀ i, i < 7 → ∀ j, j < 7 → bitN (stB e i) j = if j = i then 1 else bitN e j := by decide +kernel
theorem clB_b : ∀ e, e < 128 → ∀ i, i < 7 → ∀ j, j < 7 → bitN (clB e i) j = if j = i then 0 else bitN e j := by decide +kernel
theorem enB : ∀ j, j < 7 → ∀ x, x < 128 → x < 2 ^ j → ∀ b, b < 2 → nI x ||| shl (nI b) (nI j) = nI (x + b * 2 ^ j) ∧ bitN (x + b * 2 ^ j) j = b := by decide +kernel
theorem enC : ∀ j, j < 7 → ∀ x, x < 128 → x < 2 ^ j → ∀ b, b < 2 → ∀ i, i < j → bitN (x + b * 2 ^ j) i = bitN x i := by decide +kernel
def enN (w : Nat → Nat) : Nat → Nat
  | 0 => 0
  | j + 1 => enN w j + (w j % 2) * 2 ^ j
theorem enN_lt (w : Nat → Nat) : ∀ j, enN w j < 2 ^ j
  | 0 => by rw [enN]; decide
  | j + 1 => by
    have h := enN_lt w j
    have hb : w j % 2 ≤ 1 := by omega
    rw [enN, Nat.pow_succ]
    have h2 : (w j % 2) * 2 ^ j ≤ 1 * 2 ^ j := Nat.mul_le_mul_right _ hb
    omega
theorem en128 {j : Nat} (h : j ≤ 7) : 2 ^ j ≤ 128 := p2n h
theorem enN_b (w : Nat → Nat) : ∀ j, j ≤ 7 → ∀ i, i < j → bitN (enN w j) i = w i % 2
  | 0, _, i, hi => by omega
  | j + 1, hj, i, hi => by
    have h1 := enN_lt w j
    have h2 := en128 (show j ≤ 7 by omega)
    rw [enN]
    by_cases e : i = j
    · rw [e]; exact (enB j (by omega) _ (by omega) h1 _ (by omega)).2
    · rw [enC j (by omega) _ (by omega) h1 _ (by omega) i (by omega)]
      exact enN_b w j (by omega) i (by omega)
theorem c_enL {M : Mem} {c : Cfg} {σ : Sg} (h : stC M 15 c σ) (hc : okC c) (hs : okS c σ) : ∀ (n j : Nat), j ≤ c.1 → c.1 - j < n → f_X0_ends_L4 15 M n (nI (enN σ.2.1 j)) (nI j) = some (nI (enN σ.2.1 c.1))
  | 0, j, _, h => by omega
  | n + 1, j, hj, hn => by
    have h7 := hc.1
    rw [f_X0_ends_L4, h.1, iteLe (by omega) (by omega)]
    by_cases e : c.1 ≤ j
    · rw [if_pos e, show j = c.1 by omega]
    · have h1 := enN_lt σ.2.1 j
      have h2 := en128 (show j ≤ 7 by omega)
      have hw := okW hc hs (show j < c.1 by omega)
      rw [if_neg e, grd_t (inb_t (show j < 7 by omega) (by omega)), ixn (by omega), (h.2.2 j (by omega)).2.2.2.1, andN1 (by omega), (enB j (by omega) _ (by omega) h1 (σ.2.1 j % 2) (by omega)).1, show nI j + 1 = nI (j + 1) from nI_1 j]
      exact c_enL h hc hs n (j + 1) (by omega) (by omega)
theorem c_ends {M : Mem} {c : Cfg} {σ : Sg} (h : stC M 15 c σ) (hc : okC c) (hs : okS c σ) : f_X0_ends 15 M = some (nI (enN σ.2.1 c.1)) := by
  have h7 := hc.1
  unfold f_X0_ends
  obtain ⟨fu, hfu, hf2⟩ := FUx
  rw [← hfu]
  exact c_enL h hc hs fu 0 (by omega) (by omega)
/-- a turn: the one for many sets a pulse, the one for few takes one -/
def mv (k i e : Nat) : Nat := if k % 2 = 0 then stB e i else clB e i
theorem mv_lt {k i e : Nat} (he : e < 128) (hi : i < 7) : mv k i e < 128 := by
  unfold mv
  split
  · exact (stB_f e he i hi).2
  · exact (clB_f e he i hi).2
def foN (b : Bool) (g : Nat → Int32) (z : Int32) : Nat → Int32
  | 0 => z
  | j + 1 => if b = true then mxI (foN b g z j) (g j) else mnI (foN b g z j) (g j)
theorem foN_c {b : Bool} {g g' : Nat → Int32} {z : Int32} : ∀ {n : Nat}, (∀ j, j < n → g j = g' j) → foN b g z n = foN b g' z n
  | 0, _ => rfl
  | n + 1, h => by rw [foN, foN, foN_c (n := n) (fun j hj => h j (by omega)), h n (by omega)]
theorem mx_ge (x y : Int32) : x ≤ mxI x y := by
  unfold mxI
  split
  · rename_i h; exact Int32.le_of_lt h
  · exact Int32.le_refl x
theorem mn_le (x y : Int32) : mnI x y ≤ x := by
  unfold mnI
  split
  · rename_i h; exact Int32.le_of_lt h
  · exact Int32.le_refl x
theorem foN_ge (g : Nat → Int32) (z : Int32) : ∀ n, z ≤ foN true g z n
  | 0 => Int32.le_refl z
  | n + 1 => by
    rw [foN, if_pos rfl]
    exact Int32.le_trans (foN_ge g z n) (mx_ge _ _)
theorem foN_le (g : Nat → Int32) (z : Int32) : ∀ n, foN false g z n ≤ z
  | 0 => Int32.le_refl z
  | n + 1 => by
    rw [foN, if_neg (by decide)]
    exact Int32.le_trans (mn_le _ _) (foN_le g z n)
theorem foN_sk {b : Bool} {g : Nat → Int32} {z : Int32} {j : Nat} (h : g j = z) : foN b g z (j + 1) = foN b g z j := by
  rw [foN, h]
  cases b with
  | true =>
    rw [if_pos rfl]
    unfold mxI
    exact if_neg (fun q => Int32.lt_irrefl (Int32.lt_of_lt_of_le q (foN_ge g z j)))
  | false =>
    rw [if_neg (by decide)]
    unfold mnI
    exact if_neg (fun q => Int32.lt_irrefl (Int32.lt_of_lt_of_le q (foN_le g z j)))
def lfI (c : Cfg) (σ : Sg) (e : Nat) : Int32 := pI c (itN c 8 (edN σ e))
def vlI (c : Cfg) (σ : Sg) : Nat → Nat → Nat → Int32
  | 0, _, e => lfI c σ e
  | r + 1, k, e => foN (decide (k % 2 = 0)) (fun j => vlI c σ r (k + 1) (mv k j e)) (vlI c σ r (k + 1) e) c.1
theorem c_leaf {c : Cfg} {ds : Nat → Nat} {d e : Nat} {Mc Mm M : Mem} (h0 : SimX c ds d Mc Mm) (hF : Fr 22 Mc M) (he : e < 128) : ∃ M', f_X1_leftWithEnds (nI e) M = some (lfI c (rpN c ds d) e, M') ∧ Fr 22 Mc M' := by
  have hc := h0.1.1
  have ht := h0.t
  have h15 : stC M 15 c (rpN c ds d) := stC_of h0.1.2.2.2.1 (hF.2 15 (by omega)) (fun j j1 j2 => hF.2 (15 + j) (by omega))
  obtain ⟨P, p1, p2, p3⟩ := cs_take (Or.inl ⟨rfl, rfl⟩) hc h15
  obtain ⟨Q, q1, q2, q3⟩ := cs_putEnds hc h0.okS p2 he
  obtain ⟨R, r1, r2, r3⟩ := cs_goOn (m := 8) hc (okS_ed hc h0.okS e) (by omega) (by show (rpN c ds d).1 + 8 < 1000; omega) q2
  unfold f_X1_leftWithEnds
  rw [p1, bR_s, q1, bR_s, show f_X0_goOn 22 8 Q = some R from r1, bR_s, cs_pulses r2 hc, bR_s]
  exact ⟨R, rfl, ((hF.tr p3).tr q3).tr r3⟩
theorem c_plL {c : Cfg} {ds : Nat → Nat} {d e k T r : Nat} {Mc Mm : Mem} (h0 : SimX c ds d Mc Mm) (he : e < 128) (hk : k ≤ 3) (rec : Int32 → Int32 → Int32 → Mem → Option (Int32 × Mem)) (hrec : ∀ e M, e < 128 → Fr 22 Mc M → ∃ M', rec (nI e) (nI (k + 1)) (nI T) M = some (vlI c (rpN c ds d) r (k + 1) e, M') ∧ Fr 22 Mc M') : ∀ (n j : Nat) (M : Mem), j ≤ c.1 → c.1 - j < n → Fr 22 Mc M → ∃ M', f_X1_playOut_L43 rec (nI e) (nI k) (nI T) (if k % 2 = 0 then 1 else 0) n (foN (decide (k % 2 = 0)) (fun j => vlI c (rpN c ds d) r (k + 1) (mv k j e)) (vlI c (rpN c ds d) r (k + 1) e) j) (nI j) M = some (vlI c (rpN c ds d) (r + 1) k e, M') ∧ Fr 22 Mc M'
  | 0, j, M, _, h, _ => by omega
  | n + 1, j, M, hj, hn, hF => by
    have hc := h0.1.1
    have h7 := hc.1
    have h15 : stC M 15 c (rpN c ds d) := stC_of h0.1.2.2.2.1 (hF.2 15 (by omega)) (fun j j1 j2 => hF.2 (15 + j) (by omega))
    rw [f_X1_playOut_L43, h15.1, iteLe (by omega) (by omega)]
    by_cases g : c.1 ≤ j
    · rw [if_pos g, show j = c.1 by omega]
      exact ⟨M, rfl, hF⟩
    · rw [if_neg g]
      simp only [jn_e]
      rw [(stB_f e he j (by omega)).1, (clB_f e he j (by omega)).1, show nI j + 1 = nI (j + 1) from nI_1 j, show nI k + 1 = nI (k + 1) from nI_1 k]
      have hm := mv_lt (k := k) he (show j < 7 by omega)
      obtain ⟨P, p1, p2⟩ := hrec (mv k j e) M hm hF
      have ih1 := c_plL h0 he hk rec hrec n (j + 1) M (by omega) (by omega) hF
      have ih2 := c_plL h0 he hk rec hrec n (j + 1) P (by omega) (by omega) p2
      by_cases ev : k % 2 = 0
      · have em : mv k j e = stB e j := if_pos ev
        rw [if_pos ev] at ih1 ih2 ⊢
        rw [if10]
        rw [em] at hm p1
        rw [iteEq (by omega) (by omega)]
        by_cases q : stB e j = e
        · rw [if_pos q]
          rw [foN_sk (b := decide (k % 2 = 0)) (g := fun j => vlI c (rpN c ds d) r (k + 1) (mv k j e)) (z := vlI c (rpN c ds d) r (k + 1) e) (j := j) (show vlI c (rpN c ds d) r (k + 1) (mv k j e) = vlI c (rpN c ds d) r (k + 1) e by rw [em, q])] at ih1
          exact ih1
        · rw [if_neg q, p1, bI_s, if10]
          rw [foN, if_pos (decide_eq_true ev), em] at ih2
          exact ih2
      · have em : mv k j e = clB e j := if_neg ev
        rw [if_neg ev] at ih1 ih2 ⊢
        rw [em] at hm p1
        first | rw [if00] | rw [if_pos True.intro]
        rw [iteEq (by omega) (by omega)]
        by_cases q : clB e j = e
        · rw [if_pos q]
          rw [foN_sk (b := decide (k % 2 = 0)) (g := fun j => vlI c (rpN c ds d) r (k + 1) (mv k j e)) (z := vlI c (rpN c ds d) r (k + 1) e) (j := j) (show vlI c (rpN c ds d) r (k + 1) (mv k j e) = vlI c (rpN c ds d) r (k + 1) e by rw [em, q])] at ih1
          exact ih1
        · rw [if_neg q, p1, bI_s]
          first | rw [if00] | rw [if_pos True.intro]
          rw [foN, if_neg (show ¬ decide (k % 2 = 0) = true from fun w => ev (of_decide_eq_true w)), em] at ih2
          exact ih2
theorem c_pl {c : Cfg} {ds : Nat → Nat} {d T : Nat} {Mc Mm : Mem} (h0 : SimX c ds d Mc Mm) (hT : T ≤ 3) : ∀ (r nr k e : Nat) (M : Mem), r < nr → k + r = T → e < 128 → Fr 22 Mc M → ∃ M', f_X1_playOut nr (nI e) (nI k) (nI T) M = some (vlI c (rpN c ds d) r k e, M') ∧ Fr 22 Mc M'
  | 0, nr, k, e, M, hr, hk, he, hF => by
    obtain ⟨nr, rfl⟩ : ∃ n', nr = n' + 1 := ⟨nr - 1, by omega⟩
    obtain ⟨P, p1, p2⟩ := c_leaf h0 hF he
    rw [f_X1_playOut, jn_e, iteLe (by omega) (by omega), if_pos (by omega), p1, bI_s]
    exact ⟨P, rfl, p2⟩
  | r + 1, nr, k, e, M, hr, hk, he, hF => by
    have h7 := h0.1.1.1
    obtain ⟨nr, rfl⟩ : ∃ n', nr = n' + 1 := ⟨nr - 1, by omega⟩
    have hrec : ∀ e M, e < 128 → Fr 22 Mc M → ∃ M', f_X1_playOut nr (nI e) (nI (k + 1)) (nI T) M = some (vlI c (rpN c ds d) r (k + 1) e, M') ∧ Fr 22 Mc M' := fun e M he hF => c_pl h0 hT r nr (k + 1) e M (by omega) (by omega) he hF
    obtain ⟨P, p1, p2⟩ := hrec e M he hF
    obtain ⟨fu, hfu, hf2⟩ := FUx
    rw [f_X1_playOut, jn_e, iteLe (by omega) (by omega), if_neg (by omega), show (3 : Int32) = nI 3 from rfl, iteLt (by omega) (by omega), if_pos (by omega), ← hfu, jn_e, show irm (nI k) 2 = nI (k % 2) from irmN (d := 2) (by omega) (by omega) (by omega), show nI k + 1 = nI (k + 1) from nI_1 k, p1]
    have fin := c_plL h0 he (show k ≤ 3 by omega) (f_X1_playOut nr) hrec fu 0 P (by omega) (by omega) p2
    by_cases ev : k % 2 = 0
    · rw [if_pos ev] at fin
      rw [if_pos (show nI (k % 2) = 0 by rw [ev]; rfl)]
      exact fin
    · rw [if_neg ev] at fin
      rw [if_neg (nI_ne0 (by omega) (by omega))]
      exact fin
