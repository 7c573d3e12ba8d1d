/-! what is done to the class's store -/
theorem stC_ext {M : Mem} {o : Nat} {c : Cfg} {σ τ : Sg} (h : stC M o c σ) (ht : σ.1 = τ.1) (hw : ∀ i, i < c.1 → σ.2.1 i = τ.2.1 i) (hy : ∀ i, i < c.1 → σ.2.2 i = τ.2.2 i) : stC M o c τ := by
  refine ⟨h.1, by rw [← ht]; exact h.2.1, fun i hi => ?_⟩
  rw [← hw i hi, ← hy i hi]
  exact h.2.2 i hi
def swN (σ : Sg) (i v : Nat) : Sg := (σ.1, fun x => if x = i then v else σ.2.1 x, σ.2.2)
theorem okS_sw {c : Cfg} {σ : Sg} (hs : okS c σ) {i v : Nat} (hv : v < 2 ^ c.2.2.1 i) : okS c (swN σ i v) := by
  refine ⟨fun x hx => ⟨?_, (hs.1 x hx).2⟩, hs.2⟩
  show (if x = i then v else σ.2.1 x) < _
  by_cases e : x = i
  · rw [if_pos e, e]; exact hv
  · rw [if_neg e]; exact (hs.1 x hx).1
theorem stC_sw {M : Mem} {o : Nat} {c : Cfg} {σ : Sg} (h : stC M o c σ) (i v : Nat) : stC (sI M (o + 4) i (nI v)) o c (swN σ i v) := by
  refine ⟨by rw [sI_n _ _ _ _ (by omega)]; exact h.1, by rw [sI_n _ _ _ _ (by omega)]; exact h.2.1, fun x hx => ?_⟩
  obtain ⟨d1, d2, d3, d4, d5⟩ := h.2.2 x hx
  refine ⟨by rw [sI_n _ _ _ _ (by omega)]; exact d1, by rw [sI_n _ _ _ _ (by omega)]; exact d2, by rw [sI_n _ _ _ _ (by omega)]; exact d3, ?_, by rw [sI_n _ _ _ _ (by omega)]; exact d5⟩
  rw [sI_1]
  show _ = nI (if x = i then v else σ.2.1 x)
  by_cases e : x = i
  · rw [if_pos e, e, upd_same]
  · rw [if_neg e, upd_ne _ _ e]; exact d4
theorem cs_putWord {M : Mem} {o : Nat} {c : Cfg} {σ : Sg} (h : stC M o c σ) (hc : okC c) {i v : Nat} (hi : i < c.1) : ∃ M', f_X0_putWord o (nI i) (nI v) M = some M' ∧ stC M' o c (swN σ i v) ∧ Fr o M M' := by
  have h7 := hc.1
  unfold f_X0_putWord
  rw [cs_has h hc hi, bR_s, if_neg (by decide), grd_t (inb_t (by omega) (by omega)), ixn (by omega)]
  exact ⟨_, rfl, stC_sw h i v, Fr.set (by omega)⟩
theorem cs_turnSlot {M : Mem} {o : Nat} {c : Cfg} {σ : Sg} (h : stC M o c σ) (hc : okC c) {i v : Nat} (hi : i < c.1) (hv : v < 9) : ∃ M', f_X0_turnSlot o (nI i) (nI v) M = some M' ∧ stC M' o c (swN σ i (σ.2.1 i ^^^ 2 ^ v)) ∧ Fr o M M' := by
  have h7 := hc.1
  have h2 : 2 ^ v < 2 ^ 9 := Nat.pow_lt_pow_right (by decide) hv
  unfold f_X0_turnSlot
  rw [cs_has h hc hi, bR_s, if_neg (by decide), grd_t (inb_t (by omega) (by omega)), grd_t (inb_t (by omega) (by omega)), ixn (by omega), (h.2.2 i hi).2.2.2.1, n1, shlN (by omega) (by omega), xorN, Nat.one_mul]
  exact ⟨_, rfl, stC_sw h i _, Fr.set (by omega)⟩
theorem xor_lt {w l v : Nat} (hw : w < 2 ^ l) (hv : v < l) : w ^^^ 2 ^ v < 2 ^ l := Nat.xor_lt_two_pow hw (Nat.pow_lt_pow_right (by decide) hv)
def wayN (σ : Sg) (i j : Nat) : Sg := (σ.1, σ.2.1, fun x => if x = j then σ.2.2 i else if x = i then σ.2.2 j else σ.2.2 x)
theorem okS_way {c : Cfg} {σ : Sg} (hs : okS c σ) {i j : Nat} (hi : i < c.1) (hj : j < c.1) : okS c (wayN σ i j) := by
  refine ⟨fun x hx => ⟨(hs.1 x hx).1, ?_⟩, fun x y hx hy e => ?_⟩
  · show (if x = j then σ.2.2 i else if x = i then σ.2.2 j else σ.2.2 x) < _
    split
    · exact (hs.1 i hi).2
    · split
      · exact (hs.1 j hj).2
      · exact (hs.1 x hx).2
  · have e : (if x = j then σ.2.2 i else if x = i then σ.2.2 j else σ.2.2 x) = (if y = j then σ.2.2 i else if y = i then σ.2.2 j else σ.2.2 y) := e
    have q := hs.2
    by_cases a1 : x = j <;> by_cases a2 : x = i <;> by_cases a3 : y = j <;> by_cases a4 : y = i <;> simp only [a1, a2, a3, a4, if_true, if_false] at e <;> first | omega | (have := q _ _ (by omega) (by omega) e; omega) | skip
    all_goals
      first
        | (split at e <;> first | omega | (have := q _ _ (by omega) (by omega) e; omega))
        | (split at e <;> split at e <;> first | omega | (have := q _ _ (by omega) (by omega) e; omega))
theorem cs_swapWays {M : Mem} {o : Nat} {c : Cfg} {σ : Sg} (h : stC M o c σ) (hc : okC c) {i j : Nat} (hi : i < c.1) (hj : j < c.1) : ∃ M', f_X0_swapWays o (nI i) (nI j) M = some M' ∧ stC M' o c (wayN σ i j) ∧ Fr o M M' := by
  have h7 := hc.1
  unfold f_X0_swapWays
  simp only [cs_has h hc hi, cs_has h hc hj, bR_s, grd_t (inb_t (show i < 7 by omega) (by omega)), grd_t (inb_t (show j < 7 by omega) (by omega)), ixn (show i < 2147483648 by omega), ixn (show j < 2147483648 by omega), lt]
  rw [if_neg (by decide), if_neg (by decide)]
  refine ⟨_, rfl, ?_, (Fr.set (o := o) (j := 5) (by omega)).tr (Fr.set (o := o) (j := 5) (by omega))⟩
  refine ⟨by rw [sI_n _ _ _ _ (by omega), sI_n _ _ _ _ (by omega)]; exact h.1, by rw [sI_n _ _ _ _ (by omega), sI_n _ _ _ _ (by omega)]; exact h.2.1, fun x hx => ?_⟩
  obtain ⟨d1, d2, d3, d4, d5⟩ := h.2.2 x hx
  refine ⟨by rw [sI_n _ _ _ _ (by omega), sI_n _ _ _ _ (by omega)]; exact d1, by rw [sI_n _ _ _ _ (by omega), sI_n _ _ _ _ (by omega)]; exact d2, by rw [sI_n _ _ _ _ (by omega), sI_n _ _ _ _ (by omega)]; exact d3, by rw [sI_n _ _ _ _ (by omega), sI_n _ _ _ _ (by omega)]; exact d4, ?_⟩
  rw [sI_1, sI_1]
  show _ = nI (if x = j then σ.2.2 i else if x = i then σ.2.2 j else σ.2.2 x)
  by_cases e : x = j
  · rw [if_pos e, e, upd_same]; exact (h.2.2 i hi).2.2.2.2
  · rw [if_neg e, upd_ne _ _ e]
    by_cases g : x = i
    · rw [if_pos g, g, upd_same]; exact (h.2.2 j hj).2.2.2.2
    · rw [if_neg g, upd_ne _ _ g]; exact d5
theorem cs_canHave {M : Mem} {o : Nat} {c : Cfg} {σ : Sg} (h : stC M o c σ) (hc : okC c) {i v : Nat} (hi : i < c.1) (hv : v < 2147483648) : f_X0_canHave o (nI i) (nI v) M = some (if v < 2 ^ c.2.2.1 i then 1 else 0) := by
  have h7 := hc.1
  obtain ⟨b1, b2, b3, b4⟩ := hc.2 i hi
  have h3 : 2 ^ c.2.2.1 i ≤ 2 ^ 9 := Nat.pow_le_pow_right (by decide) b3
  unfold f_X0_canHave
  rw [if_neg (nI_pos hv), grd_t (inb_t (by omega) (by omega)), ixn (by omega), (h.2.2 i hi).2.1, show (1 : Int32) = nI 1 from rfl, shlN (by omega) (by omega), Nat.one_mul, iteLe (by omega) (by omega)]
  by_cases e : v < 2 ^ c.2.2.1 i
  · rw [if_neg (by omega), if_pos e]
  · rw [if_pos (by omega), if_neg e]
theorem cs_canHaveN {M : Mem} {o : Nat} {i x : Int32} (hx : x < 0) : f_X0_canHave o i x M = some 0 := by
  unfold f_X0_canHave
  rw [if_pos hx]
def begS : Sg := (0, fun _ => 0, fun i => i)
theorem okS_beg {c : Cfg} (hc : okC c) : okS c begS := ⟨fun i hi => ⟨Nat.two_pow_pos _, hi⟩, fun i j _ _ e => e⟩
theorem cs_begL {o : Nat} (K : Mem → Option Mem) : ∀ (n j : Nat) (M : Mem), j ≤ 7 → 7 - j < n → (∀ i, i < j → M.1 (o + 4) i = nI 0 ∧ M.1 (o + 5) i = nI i) → ∃ M', f_X0_beginAnew_L2 o K n (nI j) M = K M' ∧ (∀ i, i < 7 → M'.1 (o + 4) i = nI 0 ∧ M'.1 (o + 5) i = nI i) ∧ M'.2 = M.2 ∧ ∀ a, a ≠ o + 4 → a ≠ o + 5 → M'.1 a = M.1 a
  | 0, j, M, _, h, _ => by omega
  | n + 1, j, M, hj, hn, hp => by
    rw [f_X0_beginAnew_L2, show (7 : Int32) = nI 7 from rfl, iteLe (by omega) (by omega)]
    by_cases hjn : 7 ≤ j
    · rw [if_pos hjn]
      exact ⟨M, rfl, fun i hi => hp i (by omega), rfl, fun _ _ _ => rfl⟩
    · rw [if_neg hjn, grd_t (inb_t (by omega) (by omega)), ixn (by omega)]
      simp only [lt]
      rw [grd_t (inb_t (by omega) (by omega)), show nI j + 1 = nI (j + 1) from nI_1 j]
      obtain ⟨M', e1, e2, e3, e4⟩ := cs_begL (o := o) K n (j + 1) (sI (sI M (o + 4) j 0) (o + 5) j (nI j)) (by omega) (by omega) (fun i hi => by
        rw [sI_n _ _ _ _ (by omega), sI_1, sI_1, sI_n _ _ _ _ (by omega)]
        by_cases e : i = j
        · subst e; rw [upd_same, upd_same]; exact ⟨rfl, rfl⟩
        · rw [upd_ne _ _ e, upd_ne _ _ e]; exact hp i (by omega))
      exact ⟨M', e1, e2, e3, fun a h4 h5 => by rw [e4 a h4 h5, sI_n _ _ _ _ h5, sI_n _ _ _ _ h4]⟩
theorem cs_beginAnew {M : Mem} {o : Nat} {c : Cfg} {σ : Sg} (hc : okC c) (h : stC M o c σ) : ∃ M', f_X0_beginAnew o M = some M' ∧ stC M' o c begS ∧ Fr o M M' := by
  have h7 := hc.1
  unfold f_X0_beginAnew
  obtain ⟨fu, hfu, hf2⟩ := FUx
  rw [← hfu]
  simp only [jn, lt]
  obtain ⟨M', e1, e2, e3, e4⟩ := cs_begL (o := o) (fun M_28x => some (sI M_28x o 7 0)) fu 0 M (by omega) (by omega) (fun i hi => by omega)
  refine ⟨sI M' o 7 0, at0 (fun x => f_X0_beginAnew_L2 o (fun M_28x => some (sI M_28x o 7 0)) fu x M) e1, ⟨?_, ?_, fun i hi => ?_⟩, e3, fun a ha => ?_⟩
  · rw [sI_1, upd_ne _ _ (by omega), e4 o (by omega) (by omega)]; exact h.1
  · rw [sI_1, upd_same]; rfl
  · obtain ⟨d1, d2, d3, d4, d5⟩ := h.2.2 i hi
    obtain ⟨g1, g2⟩ := e2 i (by omega)
    rw [sI_n _ _ _ _ (by omega), sI_n _ _ _ _ (by omega), sI_n _ _ _ _ (by omega), sI_n _ _ _ _ (by omega), sI_n _ _ _ _ (by omega), e4 (o + 1) (by omega) (by omega), e4 (o + 2) (by omega) (by omega), e4 (o + 3) (by omega) (by omega)]
    exact ⟨d1, d2, d3, g1, g2⟩
  · rw [sI_n _ _ _ _ (by omega), e4 a (by omega) (by omega)]
theorem cs_hasWL {M : Mem} {c : Cfg} {σ τ : Sg} (h : stC M 22 c σ) (h2 : stC M 15 c τ) (hc : okC c) (hs : okS c σ) (hs2 : okS c τ) : ∀ (n j : Nat), j ≤ c.1 → c.1 - j < n → (∀ i, i < j → σ.2.1 i = τ.2.1 i) → f_X0_hasWordsOf_L2 22 15 M n (nI j) = some (if (∀ i, i < c.1 → σ.2.1 i = τ.2.1 i) then 1 else 0)
  | 0, j, _, h, _ => by omega
  | n + 1, j, hj, hn, hp => by
    have h7 := hc.1
    rw [f_X0_hasWordsOf_L2, h.1, iteLe (by omega) (by omega)]
    by_cases hjn : c.1 ≤ j
    · rw [if_pos hjn, if_pos (fun i hi => hp i (by omega))]
    · have hj2 : j < c.1 := by omega
      have hw := okW hc hs hj2
      have hw2 := okW hc hs2 hj2
      rw [if_neg hjn, grd_t (inb_t (by omega) (by omega)), grd_t (inb_t (by omega) (by omega)), ixn (by omega), (h.2.2 j hj2).2.2.2.1, (h2.2.2 j hj2).2.2.2.1, iteEq (by omega) (by omega)]
      by_cases e : σ.2.1 j = τ.2.1 j
      · rw [if_pos e, show nI j + 1 = nI (j + 1) from nI_1 j]
        exact cs_hasWL h h2 hc hs hs2 n (j + 1) (by omega) (by omega) (fun i hi => by
          by_cases g : i = j
          · rw [g]; exact e
          · exact hp i (by omega))
      · rw [if_neg e, if_neg (fun q => e (q j hj2))]
theorem cs_hasWordsOf {M : Mem} {c : Cfg} {σ τ : Sg} (h : stC M 22 c σ) (h2 : stC M 15 c τ) (hc : okC c) (hs : okS c σ) (hs2 : okS c τ) : f_X0_hasWordsOf 22 15 M = some (if (∀ i, i < c.1 → σ.2.1 i = τ.2.1 i) then 1 else 0) := by
  unfold f_X0_hasWordsOf
  obtain ⟨fu, hfu, hf2⟩ := FUx
  rw [← hfu]
  have h7 := hc.1
  exact at0 (fun x => f_X0_hasWordsOf_L2 22 15 M fu x) (cs_hasWL h h2 hc hs hs2 fu 0 (by omega) (by omega) (fun i hi => by omega))
def bitN (s i : Nat) : Nat := s / 2 ^ i % 2
theorem bitI {s i : Nat} (hs : s < 2147483648) (hi : i < 32) : shr (nI s) (nI i) &&& 1 = nI (bitN s i) := by
  rw [shrN hs hi, andN1 (by have := Nat.div_le_self s (2 ^ i); omega)]
  rfl
theorem bitN_le (s i : Nat) : bitN s i ≤ 1 := by unfold bitN; omega
/-- the words with those of a set gone -/
def gnN (σ : Sg) (s : Nat) : Sg := (σ.1, fun i => if bitN s i = 1 then 0 else σ.2.1 i, σ.2.2)
theorem okS_gn {c : Cfg} {σ : Sg} (hs : okS c σ) (s : Nat) : okS c (gnN σ s) := ⟨fun i hi => ⟨by
  show (if bitN s i = 1 then 0 else σ.2.1 i) < _
  split
  · exact Nat.two_pow_pos _
  · exact (hs.1 i hi).1, (hs.1 i hi).2⟩, hs.2⟩
theorem cs_gnL {o : Nat} {c : Cfg} {σ : Sg} (hc : okC c) {s : Nat} (h128 : s < 128) : ∀ (n j : Nat) (M : Mem), j ≤ c.1 → c.1 - j < n → stC M o c (σ.1, fun i => if i < j ∧ bitN s i = 1 then 0 else σ.2.1 i, σ.2.2) → ∃ M', f_X0_empty_L2 o (nI s) n (nI j) M = some M' ∧ stC M' o c (gnN σ s) ∧ Fr o M M'
  | 0, j, M, _, h, _ => by omega
  | n + 1, j, M, hj, hn, h => by
    have h7 := hc.1
    rw [f_X0_empty_L2, h.1, iteLe (by omega) (by omega)]
    by_cases hjn : c.1 ≤ j
    · rw [if_pos hjn]
      refine ⟨M, rfl, stC_ext h rfl (fun i hi => ?_) (fun _ _ => rfl), Fr.rf⟩
      show (if i < j ∧ bitN s i = 1 then 0 else σ.2.1 i) = (if bitN s i = 1 then 0 else σ.2.1 i)
      by_cases g : bitN s i = 1
      · rw [if_pos ⟨by omega, g⟩, if_pos g]
      · rw [if_neg (fun q => g q.2), if_neg g]
    · have hb := bitN_le s j
      rw [if_neg hjn, bitI (by omega) (by omega), show (1 : Int32) = nI 1 from rfl]
      simp only [jn, lt]
      rw [iteEq (by omega) (by omega), grd_t (inb_t (by omega) (by omega)), ixn (by omega), addN]
      by_cases g : bitN s j = 1
      · rw [if_pos g]
        have h2 := stC_sw h j 0
        obtain ⟨M', e1, e2, e3⟩ := cs_gnL (o := o) (σ := σ) hc h128 n (j + 1) (sI M (o + 4) j (nI 0)) (by omega) (by omega) (stC_ext h2 rfl (fun i hi => by
          show (if i = j then 0 else if i < j ∧ bitN s i = 1 then 0 else σ.2.1 i) = (if i < j + 1 ∧ bitN s i = 1 then 0 else σ.2.1 i)
          by_cases q : i = j
          · rw [if_pos q, q, if_pos ⟨by omega, g⟩]
          · rw [if_neg q]
            by_cases q2 : i < j ∧ bitN s i = 1
            · rw [if_pos q2, if_pos ⟨by omega, q2.2⟩]
            · rw [if_neg q2, if_neg (fun z => q2 ⟨by omega, z.2⟩)]) (fun _ _ => rfl))
        exact ⟨M', e1, e2, (Fr.set (by omega)).tr e3⟩
      · rw [if_neg g]
        exact cs_gnL (o := o) (σ := σ) hc h128 n (j + 1) M (by omega) (by omega) (stC_ext h rfl (fun i hi => by
          show (if i < j ∧ bitN s i = 1 then 0 else σ.2.1 i) = (if i < j + 1 ∧ bitN s i = 1 then 0 else σ.2.1 i)
          by_cases q : i = j
          · rw [q, if_neg (fun z => g z.2), if_neg (fun z => g z.2)]
          · by_cases q2 : i < j ∧ bitN s i = 1
            · rw [if_pos q2, if_pos ⟨by omega, q2.2⟩]
            · rw [if_neg q2, if_neg (fun z => q2 ⟨by omega, z.2⟩)]) (fun _ _ => rfl))
theorem cs_empty {M : Mem} {o : Nat} {c : Cfg} {σ : Sg} (hc : okC c) (h : stC M o c σ) {s : Nat} (h128 : s < 128) : ∃ M', f_X0_empty o (nI s) M = some M' ∧ stC M' o c (gnN σ s) ∧ Fr o M M' := by
  have h7 := hc.1
  unfold f_X0_empty
  obtain ⟨fu, hfu, hf2⟩ := FUx
  rw [← hfu]
  obtain ⟨M', e1, e2, e3⟩ := cs_gnL (o := o) (σ := σ) hc h128 fu 0 M (by omega) (by omega) (stC_ext h rfl (fun i hi => by
    show σ.2.1 i = (if i < 0 ∧ bitN s i = 1 then 0 else σ.2.1 i)
    rw [if_neg (by omega)]) (fun _ _ => rfl))
  exact ⟨M', at0 (fun x => f_X0_empty_L2 o (nI s) fu x M) e1, e2, e3⟩
/-- the words with the ends of a set -/
def edN (σ : Sg) (s : Nat) : Sg := (σ.1, fun i => σ.2.1 i / 2 * 2 + bitN s i, σ.2.2)
theorem edW {w b : Nat} (hw : w < 512) (hb : b ≤ 1) : ((nI w &&& (-2)) ||| nI b) = nI (w / 2 * 2 + b) := by
  have h : ∀ w, w < 512 → ∀ b, b < 2 → ((nI w &&& (-2)) ||| nI b) = nI (w / 2 * 2 + b) := by decide +kernel
  exact h w hw b (by omega)
theorem okS_ed {c : Cfg} {σ : Sg} (hc : okC c) (hs : okS c σ) (s : Nat) : okS c (edN σ s) := ⟨fun i hi => ⟨by
  show σ.2.1 i / 2 * 2 + bitN s i < _
  have h1 := (hs.1 i hi).1
  have h2 := (hc.2 i hi).2.1
  have h3 := bitN_le s i
  have e : 2 ^ c.2.2.1 i = 2 ^ (c.2.2.1 i - 1) * 2 := by rw [← Nat.pow_succ]; congr 1; omega
  omega, (hs.1 i hi).2⟩, hs.2⟩
theorem cs_edL {o : Nat} {c : Cfg} {σ : Sg} (hc : okC c) (hs : okS c σ) {s : Nat} (h128 : s < 128) : ∀ (n j : Nat) (M : Mem), j ≤ c.1 → c.1 - j < n → stC M o c (σ.1, fun i => if i < j then σ.2.1 i / 2 * 2 + bitN s i else σ.2.1 i, σ.2.2) → ∃ M', f_X0_putEnds_L2 o (nI s) n (nI j) M = some M' ∧ stC M' o c (edN σ s) ∧ Fr o M M'
  | 0, j, M, _, h, _ => by omega
  | n + 1, j, M, hj, hn, h => by
    have h7 := hc.1
    rw [f_X0_putEnds_L2, h.1, iteLe (by omega) (by omega)]
    by_cases hjn : c.1 ≤ j
    · rw [if_pos hjn]
      refine ⟨M, rfl, stC_ext h rfl (fun i hi => ?_) (fun _ _ => rfl), Fr.rf⟩
      show (if i < j then σ.2.1 i / 2 * 2 + bitN s i else σ.2.1 i) = _
      rw [if_pos (by omega)]; rfl
    · have hj2 : j < c.1 := by omega
      have hw := okW hc hs hj2
      rw [if_neg hjn, grd_t (inb_t (by omega) (by omega)), grd_t (inb_t (by omega) (by omega)), ixn (by omega), bitI (by omega) (by omega), (h.2.2 j hj2).2.2.2.1]
      simp only [lt]
      rw [if_neg (show ¬ j < j by omega), edW hw (bitN_le s j), show nI j + 1 = nI (j + 1) from nI_1 j]
      have h2 := stC_sw h j (σ.2.1 j / 2 * 2 + bitN s j)
      obtain ⟨M', e1, e2, e3⟩ := cs_edL (o := o) hc hs h128 n (j + 1) (sI M (o + 4) j (nI (σ.2.1 j / 2 * 2 + bitN s j))) (by omega) (by omega) (stC_ext h2 rfl (fun i hi => by
        show (if i = j then _ else if i < j then σ.2.1 i / 2 * 2 + bitN s i else σ.2.1 i) = (if i < j + 1 then σ.2.1 i / 2 * 2 + bitN s i else σ.2.1 i)
        by_cases q : i = j
        · rw [if_pos q, q, if_pos (by omega)]
        · rw [if_neg q]
          by_cases q2 : i < j
          · rw [if_pos q2, if_pos (by omega)]
          · rw [if_neg q2, if_neg (by omega)]) (fun _ _ => rfl))
      exact ⟨M', e1, e2, (Fr.set (by omega)).tr e3⟩
theorem cs_putEnds {M : Mem} {o : Nat} {c : Cfg} {σ : Sg} (hc : okC c) (hs : okS c σ) (h : stC M o c σ) {s : Nat} (h128 : s < 128) : ∃ M', f_X0_putEnds o (nI s) M = some M' ∧ stC M' o c (edN σ s) ∧ Fr o M M' := by
  have h7 := hc.1
  unfold f_X0_putEnds
  obtain ⟨fu, hfu, hf2⟩ := FUx
  rw [← hfu]
  obtain ⟨M', e1, e2, e3⟩ := cs_edL (o := o) hc hs h128 fu 0 M (by omega) (by omega) (stC_ext h rfl (fun i hi => by
    show σ.2.1 i = (if i < 0 then σ.2.1 i / 2 * 2 + bitN s i else σ.2.1 i)
    rw [if_neg (by omega)]) (fun _ _ => rfl))
  exact ⟨M', at0 (fun x => f_X0_putEnds_L2 o (nI s) fu x M) e1, e2, e3⟩
