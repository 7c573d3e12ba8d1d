theorem fb_holes : ∀ (m n : Nat) (f : Nat → Nat), (∀ i, i < n → f i < m) → (∀ i j, i < j → j < n → f i ≠ f j) → n ≤ m := by
  intro m
  induction m with
  | zero =>
    intro n f h1 _
    rcases Nat.eq_zero_or_pos n with h | h
    · omega
    · exact absurd (h1 0 h) (Nat.not_lt_zero _)
  | succ m ih =>
    intro n f h1 h2
    by_cases hx : ∃ i, i < n ∧ f i = m
    · obtain ⟨a, ha, hfa⟩ := hx
      have hg := ih (n - 1) (fun i => if i < a then f i else f (i + 1)) (by
        intro i hi
        by_cases q : i < a
        · simp only [if_pos q]
          have b1 := h1 i (by omega)
          have b2 := h2 i a q ha
          omega
        · simp only [if_neg q]
          have b1 := h1 (i + 1) (by omega)
          have b2 := h2 a (i + 1) (by omega) (by omega)
          omega) (by
        intro i j hij hj
        by_cases q : i < a
        · by_cases r : j < a
          · simp only [if_pos q, if_pos r]
            exact h2 i j hij (by omega)
          · simp only [if_pos q, if_neg r]
            exact h2 i (j + 1) (by omega) (by omega)
        · have r : ¬ j < a := by omega
          simp only [if_neg q, if_neg r]
          exact h2 (i + 1) (j + 1) (by omega) (by omega))
      omega
    · have hg := ih n f (fun i hi => by
        have b1 := h1 i hi
        have b2 : f i ≠ m := fun e => hx ⟨i, hi, e⟩
        omega) h2
      omega
/-- two of them in one place -/
theorem fb_twice {m n : Nat} {f : Nat → Nat} (h : ∀ i, i < n → f i < m) (hm : m < n) : ∃ i j, i < j ∧ j < n ∧ f i = f j := by
  refine Classical.byContradiction fun hx => ?_
  have := fb_holes m n f h (fun i j hij hj e => hx ⟨i, j, hij, hj, e⟩)
  omega
/-- as many as places, none twice: each place is taken -/
theorem fb_onto {n : Nat} {f : Nat → Nat} (h : ∀ i, i < n → f i < n) (h2 : ∀ i j, i < j → j < n → f i ≠ f j) {y : Nat} (hy : y < n) : ∃ i, i < n ∧ f i = y := by
  refine Classical.byContradiction fun hx => ?_
  have hne : ∀ i, i < n → f i ≠ y := fun i hi e => hx ⟨i, hi, e⟩
  have := fb_holes (n - 1) n (fun i => if f i < y then f i else f i - 1) (by
    intro i hi
    have b1 := h i hi
    have b2 := hne i hi
    by_cases q : f i < y
    · simp only [if_pos q]; omega
    · simp only [if_neg q]; omega) (by
    intro i j hij hj
    have b1 := hne i (by omega)
    have b2 := hne j hj
    have b3 := h2 i j hij hj
    by_cases q : f i < y
    · by_cases r : f j < y
      · simp only [if_pos q, if_pos r]; exact b3
      · simp only [if_pos q, if_neg r]; omega
    · by_cases r : f j < y
      · simp only [if_neg q, if_pos r]; omega
      · simp only [if_neg q, if_neg r]; omega)
  omega
/-! ===== how many places have a property ===== -/
/-! one tick -/
def frN (wy : Nat → Nat) (i : Nat) : Nat → Nat
  | 0 => 0
  | k + 1 => if wy k = i then k else frN wy i k
theorem frN_spec (wy : Nat → Nat) (i : Nat) : ∀ m, (∃ k, k < m ∧ wy k = i) → frN wy i m < m ∧ wy (frN wy i m) = i
  | 0, h => by obtain ⟨k, hk, -⟩ := h; omega
  | m + 1, h => by
    unfold frN
    by_cases e : wy m = i
    · rw [if_pos e]; exact ⟨by omega, e⟩
    · rw [if_neg e]
      obtain ⟨k, hk, hw⟩ := h
      have hk2 : k < m := by
        rcases Nat.lt_or_ge k m with q | q
        · exact q
        · exact absurd (by rw [← hw, show m = k by omega]) e
      have := frN_spec wy i m ⟨k, hk2, hw⟩
      exact ⟨by omega, this.2⟩
theorem okFr {c : Cfg} {σ : Sg} (hs : okS c σ) {i : Nat} (hi : i < c.1) : frN σ.2.2 i c.1 < c.1 ∧ σ.2.2 (frN σ.2.2 i c.1) = i := by
  apply frN_spec
  exact fb_onto (fun k hk => (hs.1 k hk).2) (fun a b hab hb e => by have := hs.2 a b (by omega) hb e; omega) hi
def tkW (c : Cfg) (σ : Sg) (i : Nat) : Nat := if rdN (c.2.1 i) σ.1 = true then σ.2.1 i / 2 + snt (c.2.1 i) (c.2.2.2 i) σ.1 (σ.2.1 i) (c.2.2.1 i) (outN c σ (frN σ.2.2 i c.1)) * 2 ^ (c.2.2.1 i - 1) else σ.2.1 i
def tkN (c : Cfg) (σ : Sg) : Sg := (σ.1 + 1, tkW c σ, σ.2.2)
theorem snt_le {as m t w l x : Nat} (h : x ≤ 1) : snt as m t w l x ≤ 1 := by
  unfold snt
  repeat' split
  all_goals omega
theorem half_lt {w l : Nat} (h : w < 2 ^ l) (h2 : 2 ≤ l) : w / 2 < 2 ^ (l - 1) := by
  have e : 2 ^ l = 2 ^ (l - 1) * 2 := by rw [← Nat.pow_succ]; congr 1; omega
  omega
theorem tkW_lt {c : Cfg} {σ : Sg} (hc : okC c) (hs : okS c σ) {i : Nat} (hi : i < c.1) : tkW c σ i < 2 ^ c.2.2.1 i := by
  unfold tkW
  have h1 := (hs.1 i hi).1
  have h2 := (hc.2 i hi).2.1
  split
  · have h3 := half_lt h1 h2
    have h4 : snt (c.2.1 i) (c.2.2.2 i) σ.1 (σ.2.1 i) (c.2.2.1 i) (outN c σ (frN σ.2.2 i c.1)) ≤ 1 := snt_le (outN_le _ _ _)
    have e : 2 ^ c.2.2.1 i = 2 ^ (c.2.2.1 i - 1) * 2 := by rw [← Nat.pow_succ]; congr 1; omega
    have h5 := Nat.mul_le_mul_right (2 ^ (c.2.2.1 i - 1)) h4
    omega
  · exact h1
theorem okS_tk {c : Cfg} {σ : Sg} (hc : okC c) (hs : okS c σ) : okS c (tkN c σ) := ⟨fun i hi => ⟨tkW_lt hc hs hi, (hs.1 i hi).2⟩, hs.2⟩
theorem wordN {w l s : Nat} (hw : w < 2 ^ l) (h2 : 2 ≤ l) (h9 : l ≤ 9) (hs : s ≤ 1) : (shr (nI w) 1 ||| shl (nI s) (nI l - 1)) = nI (w / 2 + s * 2 ^ (l - 1)) := by
  have h3 : 2 ^ l ≤ 2 ^ 9 := Nat.pow_le_pow_right (by decide) h9
  have h4 : 2 ^ (l - 1) ≤ 2 ^ 8 := Nat.pow_le_pow_right (by decide) (by omega)
  have h6 := half_lt hw h2
  have h5 := Nat.mul_le_mul_right (2 ^ (l - 1)) hs
  rw [n1, subN (by omega), shrN (by omega) (by omega), shlN (by omega) (by omega), orN]
  rw [show w / 2 ^ 1 = w / 2 by simp]
  rw [Nat.or_comm, Nat.mul_comm s, ← Nat.two_pow_add_eq_or_of_lt h6, Nat.add_comm]
theorem wordX {w l : Nat} (hw : w < 2 ^ l) (h9 : l ≤ 9) : w < 512 := by
  have h3 : 2 ^ l ≤ 2 ^ 9 := Nat.pow_le_pow_right (by decide) h9
  omega
/-- only the cells of a store from o on have changed -/
def Fr (o : Nat) (M M' : Mem) : Prop := M'.2 = M.2 ∧ ∀ a, (a < o ∨ o + 6 < a) → M'.1 a = M.1 a
theorem Fr.rf {o : Nat} {M : Mem} : Fr o M M := ⟨rfl, fun _ _ => rfl⟩
theorem Fr.tr {o : Nat} {M M1 M2 : Mem} (h1 : Fr o M M1) (h2 : Fr o M1 M2) : Fr o M M2 := ⟨h2.1.trans h1.1, fun a ha => (h2.2 a ha).trans (h1.2 a ha)⟩
theorem Fr.set {o j i : Nat} {v : Int32} {M : Mem} (hj : j ≤ 6) : Fr o M (sI M (o + j) i v) := ⟨rfl, fun a ha => sI_n M (o + j) i v (by omega)⟩
theorem stC_of {M M' : Mem} {o : Nat} {c : Cfg} {σ : Sg} (h : stC M o c σ) (h0 : M'.1 o = M.1 o) (h1 : ∀ j, 1 ≤ j → j ≤ 5 → M'.1 (o + j) = M.1 (o + j)) : stC M' o c σ := by
  refine ⟨by rw [h0]; exact h.1, by rw [h0]; exact h.2.1, fun i hi => ?_⟩
  rw [h1 1 (by omega) (by omega), h1 2 (by omega) (by omega), h1 3 (by omega) (by omega), h1 4 (by omega) (by omega), h1 5 (by omega) (by omega)]
  exact h.2.2 i hi
theorem cs_L2 {o : Nat} {c : Cfg} {σ : Sg} (hc : okC c) (hs : okS c σ) (ht : σ.1 < 1000) (k : Mem → Option Mem) : ∀ (n j : Nat) (M : Mem), j ≤ c.1 → c.1 - j < n → stC M o c σ → (∀ i, i < j → M.1 (o + 6) (σ.2.2 i) = nI (outN c σ i)) →
    ∃ M', f_X0_letPass_L2 o k n (nI j) M = k M' ∧ (∀ a, a ≠ o + 6 → M'.1 a = M.1 a) ∧ M'.2 = M.2 ∧ ∀ i, i < c.1 → M'.1 (o + 6) (σ.2.2 i) = nI (outN c σ i)
  | 0, j, M, _, h, _, _ => by omega
  | n + 1, j, M, hj, hn, h, hp => by
    have h7 := hc.1
    rw [f_X0_letPass_L2, h.1, iteLe (by omega) (by omega)]
    by_cases hjn : c.1 ≤ j
    · rw [if_pos hjn]
      exact ⟨M, rfl, fun _ _ => rfl, rfl, fun i hi => hp i (by omega)⟩
    · rw [if_neg hjn]
      have hj2 : j < c.1 := by omega
      obtain ⟨a1, a2, a3, a4, a5⟩ := h.2.2 j hj2
      have hw := (hs.1 j hj2).2
      rw [grd_t (inb_t (by omega) (by omega)), ixn (by omega), a5, cs_has h hc hw, bR_s]
      simp only [jn]
      rw [if_neg (by decide), cs_comesOut h hc hs ht hj2, bR_s, grd_t (inb_t (by omega) (by omega)), ixn (by omega), n1, addN]
      have hst : stC (sI M (o + 6) (σ.2.2 j) (nI (outN c σ j))) o c σ := stC_of h (sI_n M _ _ _ (by omega)) (fun q q1 q2 => sI_n M _ _ _ (by omega))
      obtain ⟨M', e1, e2, e3, e4⟩ := cs_L2 hc hs ht k n (j + 1) (sI M (o + 6) (σ.2.2 j) (nI (outN c σ j))) (by omega) (by omega) hst (fun i hi => by
        rw [sI_1]
        by_cases e : i = j
        · subst e; exact upd_same _ _ _
        · rw [upd_ne _ _ (fun q => e (hs.2 i j (by omega) hj2 q))]
          exact hp i (by omega))
      exact ⟨M', e1, fun a ha => (e2 a ha).trans (sI_n M _ _ _ ha), e3, e4⟩
def mixS (c : Cfg) (σ : Sg) (j : Nat) : Sg := (σ.1, fun i => if i < j then tkW c σ i else σ.2.1 i, σ.2.2)
theorem okS_mix {c : Cfg} {σ : Sg} (hc : okC c) (hs : okS c σ) (j : Nat) : okS c (mixS c σ j) := ⟨fun i hi => ⟨by
  show (if i < j then tkW c σ i else σ.2.1 i) < _
  split
  · exact tkW_lt hc hs hi
  · exact (hs.1 i hi).1, (hs.1 i hi).2⟩, hs.2⟩
theorem cs_L44 {o : Nat} {c : Cfg} {σ : Sg} (hc : okC c) (hs : okS c σ) (ht : σ.1 < 1000) (k : Mem → Option Mem) : ∀ (n j : Nat) (M : Mem), j ≤ c.1 → c.1 - j < n → stC M o c (mixS c σ j) → (∀ i, i < c.1 → M.1 (o + 6) i = nI (outN c σ (frN σ.2.2 i c.1))) →
    ∃ M', f_X0_letPass_L44 o k n (nI j) M = k M' ∧ stC M' o c (mixS c σ c.1) ∧ (∀ a, a ≠ o + 4 → M'.1 a = M.1 a) ∧ M'.2 = M.2
  | 0, j, M, _, h, _, _ => by omega
  | n + 1, j, M, hj, hn, h, hp => by
    have h7 := hc.1
    rw [f_X0_letPass_L44, h.1, iteLe (by omega) (by omega)]
    by_cases hjn : c.1 ≤ j
    · rw [if_pos hjn]
      have e : j = c.1 := by omega
      subst e
      exact ⟨M, rfl, h, fun _ _ => rfl, rfl⟩
    · rw [if_neg hjn]
      have hj2 : j < c.1 := by omega
      obtain ⟨a1, a2, a3, a4, a5⟩ := h.2.2 j hj2
      obtain ⟨b1, b2, b3, b4⟩ := hc.2 j hj2
      have ew : (mixS c σ j).2.1 j = σ.2.1 j := by show (if j < j then _ else _) = _; rw [if_neg (by omega)]
      have hw := (hs.1 j hj2).1
      rw [cs_isReady h hc ht hj2, bR_s]
      simp only [jn]
      have es : snt (c.2.1 j) (c.2.2.2 j) σ.1 (σ.2.1 j) (c.2.2.1 j) (outN c σ (frN σ.2.2 j c.1)) ≤ 1 := snt_le (outN_le _ _ _)
      by_cases hr : rdN (c.2.1 j) σ.1 = true
      · rw [if_pos (show rdN (c.2.1 j) (mixS c σ j).1 = true from hr), if_neg (by decide), grd_t (inb_t (by omega) (by omega)), grd_t (inb_t (by omega) (by omega)), grd_t (inb_t (by omega) (by omega)), ixn (by omega), a1, hp j hj2, cs_sentAs h hc (okS_mix hc hs j) ht hj2 b1 (outN_le _ _ _), bR_s, grd_t (inb_t (by omega) (by omega)), grd_t (inb_t (by omega) (by omega)), a4, a2, ew]
        rw [show (mixS c σ j).1 = σ.1 from rfl, wordN hw b2 b3 es, n1, addN]
        have p1 : stC (sI M (o + 4) j (nI (σ.2.1 j / 2 + snt (c.2.1 j) (c.2.2.2 j) σ.1 (σ.2.1 j) (c.2.2.1 j) (outN c σ (frN σ.2.2 j c.1)) * 2 ^ (c.2.2.1 j - 1)))) o c (mixS c σ (j + 1)) := by
          refine ⟨by rw [sI_n _ _ _ _ (by omega)]; exact h.1, by rw [sI_n _ _ _ _ (by omega)]; exact h.2.1, fun i hi => ?_⟩
          obtain ⟨d1, d2, d3, d4, d5⟩ := h.2.2 i hi
          refine ⟨by rw [sI_n _ _ _ _ (by omega)]; exact d1, by rw [sI_n _ _ _ _ (by omega)]; exact d2, by rw [sI_n _ _ _ _ (by omega)]; exact d3, ?_, by rw [sI_n _ _ _ _ (by omega)]; exact d5⟩
          rw [sI_1]
          show _ = nI (if i < j + 1 then tkW c σ i else σ.2.1 i)
          by_cases e : i = j
          · subst e
            rw [upd_same, if_pos (by omega)]
            unfold tkW
            rw [if_pos hr]
          · rw [upd_ne _ _ e, d4]
            show nI (if i < j then tkW c σ i else σ.2.1 i) = _
            by_cases g : i < j
            · rw [if_pos g, if_pos (by omega)]
            · rw [if_neg g, if_neg (by omega)]
        obtain ⟨M', e1, e2, e3, e4⟩ := cs_L44 (o := o) hc hs ht k n (j + 1) (sI M (o + 4) j (nI (σ.2.1 j / 2 + snt (c.2.1 j) (c.2.2.2 j) σ.1 (σ.2.1 j) (c.2.2.1 j) (outN c σ (frN σ.2.2 j c.1)) * 2 ^ (c.2.2.1 j - 1)))) (by omega) (by omega) p1 (fun i hi => by
          rw [sI_n _ _ _ _ (by omega)]
          exact hp i hi)
        exact ⟨M', e1, e2, fun a ha => (e3 a ha).trans (sI_n M _ _ _ ha), e4⟩
      · rw [if_neg (show ¬ rdN (c.2.1 j) (mixS c σ j).1 = true from hr), if_pos rfl, n1, addN]
        refine cs_L44 hc hs ht k n (j + 1) M (by omega) (by omega) ⟨h.1, h.2.1, fun i hi => ?_⟩ hp
        obtain ⟨d1, d2, d3, d4, d5⟩ := h.2.2 i hi
        refine ⟨d1, d2, d3, d4.trans ?_, d5⟩
        show nI (if i < j then tkW c σ i else σ.2.1 i) = nI (if i < j + 1 then tkW c σ i else σ.2.1 i)
        by_cases e : i = j
        · subst e
          rw [if_neg (by omega), if_pos (by omega)]
          unfold tkW
          rw [if_neg hr]
        · by_cases g : i < j
          · rw [if_pos g, if_pos (by omega)]
          · rw [if_neg g, if_neg (by omega)]
theorem cs_letPass {o : Nat} {c : Cfg} {σ : Sg} {M : Mem} (hc : okC c) (hs : okS c σ) (ht : σ.1 < 1000) (h : stC M o c σ) : ∃ M', f_X0_letPass o M = some M' ∧ stC M' o c (tkN c σ) ∧ Fr o M M' := by
  have h7 := hc.1
  unfold f_X0_letPass
  obtain ⟨fu, hfu, hf2⟩ := FUx
  rw [← hfu]
  simp only [jn, lt]
  obtain ⟨M1, e1, e2, e3, e4⟩ := cs_L2 hc hs ht (fun M_42x => f_X0_letPass_L44 o (fun M_107x => some (sI M_107x o 7 (M_107x.1 o 7 + 1))) fu 0 M_42x) fu 0 M (by omega) (by omega) h (fun i hi => by omega)
  have h1 : stC M1 o c (mixS c σ 0) := by
    have := stC_of h (e2 o (by omega)) (fun j j1 j2 => e2 (o + j) (by omega))
    refine ⟨this.1, this.2.1, fun i hi => ?_⟩
    obtain ⟨d1, d2, d3, d4, d5⟩ := this.2.2 i hi
    exact ⟨d1, d2, d3, d4, d5⟩
  obtain ⟨M2, g1, g2, g3, g4⟩ := cs_L44 hc hs ht (fun M_107x => some (sI M_107x o 7 (M_107x.1 o 7 + 1))) fu 0 M1 (by omega) (by omega) h1 (fun i hi => by
    have := okFr hs hi
    have q := e4 _ this.1
    rw [this.2] at q
    exact q)
  refine ⟨_, (at0 (fun x => f_X0_letPass_L2 o (fun M_42x => f_X0_letPass_L44 o (fun M_107x => some (sI M_107x o 7 (M_107x.1 o 7 + 1))) fu 0 M_42x) fu x M) e1).trans (at0 (fun x => f_X0_letPass_L44 o (fun M_107x => some (sI M_107x o 7 (M_107x.1 o 7 + 1))) fu x M1) g1), ⟨?_, ?_, fun i hi => ?_⟩, ?_⟩
  · rw [sI_1, upd_ne _ _ (by omega)]; exact g2.1
  · rw [sI_1, upd_same, g2.2.1, n1, addN]; rfl
  · obtain ⟨d1, d2, d3, d4, d5⟩ := g2.2.2 i hi
    rw [sI_n _ _ _ _ (by omega), sI_n _ _ _ _ (by omega), sI_n _ _ _ _ (by omega), sI_n _ _ _ _ (by omega), sI_n _ _ _ _ (by omega)]
    refine ⟨d1, d2, d3, d4.trans ?_, d5⟩
    show nI (if i < c.1 then tkW c σ i else σ.2.1 i) = nI (tkW c σ i)
    rw [if_pos hi]
  · refine ⟨g4.trans e3, fun a ha => ?_⟩
    rw [sI_n _ _ _ _ (by omega), g3 a (by omega), e2 a (by omega)]
def itN (c : Cfg) : Nat → Sg → Sg
  | 0, σ => σ
  | k + 1, σ => itN c k (tkN c σ)
theorem itN_t (c : Cfg) : ∀ (k : Nat) (σ : Sg), (itN c k σ).1 = σ.1 + k
  | 0, σ => rfl
  | k + 1, σ => by rw [itN, itN_t c k]; show σ.1 + 1 + k = _; omega
theorem okS_it {c : Cfg} (hc : okC c) : ∀ (k : Nat) {σ : Sg}, okS c σ → okS c (itN c k σ)
  | 0, σ, h => h
  | k + 1, σ, h => okS_it hc k (okS_tk hc h)
theorem itN_s (c : Cfg) : ∀ (k : Nat) (σ : Sg), itN c (k + 1) σ = tkN c (itN c k σ)
  | 0, σ => rfl
  | k + 1, σ => by rw [itN, itN_s c k, itN]
theorem cs_goOnL {o : Nat} {c : Cfg} (hc : okC c) {m : Nat} (hm : m < 500) : ∀ (n j : Nat) (M : Mem) (σ : Sg), j ≤ m → m - j < n → okS c σ → σ.1 + (m - j) < 1000 → stC M o c σ → ∃ M', f_X0_goOn_L2 o (nI m) n (nI j) M = some M' ∧ stC M' o c (itN c (m - j) σ) ∧ Fr o M M'
  | 0, j, M, σ, _, h, _, _, _ => by omega
  | n + 1, j, M, σ, hj, hn, hs, ht, h => by
    rw [f_X0_goOn_L2, iteLe (by omega) (by omega)]
    by_cases hjn : m ≤ j
    · rw [if_pos hjn, show m - j = 0 by omega]
      exact ⟨M, rfl, h, Fr.rf⟩
    · rw [if_neg hjn]
      obtain ⟨M1, e1, e2, e3⟩ := cs_letPass hc hs (by omega) h
      rw [e1, bR_s, n1, addN]
      obtain ⟨M2, g1, g2, g3⟩ := cs_goOnL hc hm n (j + 1) M1 (tkN c σ) (by omega) (by omega) (okS_tk hc hs) (by show σ.1 + 1 + (m - (j + 1)) < 1000; omega) e2
      refine ⟨M2, g1, ?_, e3.tr g3⟩
      rw [show m - j = (m - (j + 1)) + 1 by omega]
      exact g2
theorem cs_goOn {o : Nat} {c : Cfg} {σ : Sg} {M : Mem} (hc : okC c) (hs : okS c σ) {m : Nat} (hm : m < 500) (ht : σ.1 + m < 1000) (h : stC M o c σ) : ∃ M', f_X0_goOn o (nI m) M = some M' ∧ stC M' o c (itN c m σ) ∧ Fr o M M' := by
  unfold f_X0_goOn
  obtain ⟨fu, hfu, hf2⟩ := FUx
  rw [← hfu]
  obtain ⟨M', e1, e2, e3⟩ := cs_goOnL hc hm fu 0 M σ (by omega) (by omega) hs (by omega) h
  exact ⟨M', at0 (fun x => f_X0_goOn_L2 o (nI m) fu x M) e1, e2, e3⟩
