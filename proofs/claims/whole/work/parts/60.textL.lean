/-! a text is read, place by place -/
theorem jn_e {α β : Type} (f : α → β) (x : α) : jn f x = f x := rfl
theorem lt_e {β : Type} (M : Mem) (f : Mem → β) : lt M f = f M := rfl
section RD
variable {Mc Mm : Mem} {t s : Nat}
theorem c_end (N : Mem) {p n i : Nat} (K : Int32 → Mem → Option (Int32 × Mem)) (hs : s ≤ 60) (hi : s ≤ i) (hi2 : i < 1000) : f_X0_read_L10 22 (10 + t) 60 (nI s) K (n + 1) (nI p) (nI i) N = K (nI p) N := by
  rw [f_X0_read_L10, iteLe (by omega) (by omega), if_pos hi]
/-- a letter -/
theorem c_let (N : Mem) {n i k : Nat} (K : Int32 → Mem → Option (Int32 × Mem)) (hs : s ≤ 60) (hi : i < s) (hk : k ≤ 7) (h6 : N.1 22 6 = nI k) {x : Int32} (hx : N.1 (10 + t) i = x) : f_X0_read_L10 22 (10 + t) 60 (nI s) K (n + 1) 0 (nI i) N = if x = 32 then f_X0_read_L10 22 (10 + t) 60 (nI s) K n 0 (nI (i + 1)) N else if k = 7 then some (nI i, N) else bR (f_X0_kindOf x N) fun r => if r = -1 then some (nI i, sI N 23 k r) else f_X0_read_L10 22 (10 + t) 60 (nI s) K n 1 (nI (i + 1)) (sI N 23 k r) := by
  rw [f_X0_read_L10, iteLe (by omega) (by omega), if_neg (show ¬ s ≤ i by omega), iteLe (by omega) (by omega), if_neg (show ¬ 60 ≤ i by omega), grd_t (inb_t (show i < 60 by omega) (by omega)), ixn (by omega), hx, h6, show nI i + 1 = nI (i + 1) from nI_1 i]
  rw [jn_e, jn_e, if00, show (7 : Int32) = nI 7 from rfl, iteEq (by omega) (by omega)]
  by_cases e : k = 7
  · rw [if_pos e]
    by_cases g : x = 32
    · rw [if_pos g, if_pos g]
    · rw [if_neg g, if_neg g, if_pos e]
  · rw [if_neg e, if_neg e]
    by_cases g : x = 32
    · rw [if_pos g, if_pos g]
    · rw [if_neg g, if_neg g]
      unfold f_X0_takeSign
      rw [if00, h6]
      cases f_X0_kindOf x N with
      | none => rfl
      | some r =>
        rw [bR_s, bR_s, grd_t (inb_t (show k < 7 by omega) (by omega)), ixn (show k < 2147483648 by omega), lt_e]
        by_cases q : r = -1
        · rw [if_pos q, if_pos q, bI_s, if00]
        · rw [if_neg q, if_neg q, bI_s, if10]
          simp only [jn_e, lt_e, if_true, if_false, show ((2 : Int32) = 1) = False from eq_false (by decide), show ((1 : Int32) = 2) = False from eq_false (by decide), show ((0 : Int32) = 2) = False from eq_false (by decide), show ((1 : Int32) = 1) = True from eq_true rfl, show ((2 : Int32) = 2) = True from eq_true rfl]
          rfl
/-- a length -/
theorem c_len (N : Mem) {n i k : Nat} (K : Int32 → Mem → Option (Int32 × Mem)) (hs : s ≤ 60) (hi : i < s) (hk : k < 7) (h6 : N.1 22 6 = nI k) {x : Int32} (hx : N.1 (10 + t) i = x) : f_X0_read_L10 22 (10 + t) 60 (nI s) K (n + 1) 1 (nI i) N = if x < 50 then some (nI i, sI N 24 k (x - 48)) else if 57 < x then some (nI i, sI N 24 k (x - 48)) else f_X0_read_L10 22 (10 + t) 60 (nI s) K n 2 (nI (i + 1)) (sI N 24 k (x - 48)) := by
  rw [f_X0_read_L10, iteLe (by omega) (by omega), if_neg (show ¬ s ≤ i by omega), iteLe (by omega) (by omega), if_neg (show ¬ 60 ≤ i by omega), grd_t (inb_t (show i < 60 by omega) (by omega)), ixn (by omega), hx, h6, show nI i + 1 = nI (i + 1) from nI_1 i]
  rw [jn_e, jn_e, if10, show (7 : Int32) = nI 7 from rfl, iteEq (by omega) (by omega), if_neg (show ¬ k = 7 by omega)]
  unfold f_X0_takeSign
  rw [if10, h6]
  simp only [jn_e, lt_e, if_true, if_false, show ((2 : Int32) = 1) = False from eq_false (by decide), show ((1 : Int32) = 2) = False from eq_false (by decide), show ((0 : Int32) = 2) = False from eq_false (by decide), show ((1 : Int32) = 1) = True from eq_true rfl, show ((2 : Int32) = 2) = True from eq_true rfl]
  rw [grd_t (inb_t (show k < 7 by omega) (by omega)), ixn (show k < 2147483648 by omega)]
  by_cases q : x < 50
  · rw [if_pos q, if_pos q, bI_s, if00]
  · rw [if_neg q, if_neg q]
    by_cases q2 : 57 < x
    · rw [if_pos q2, if_pos q2, bI_s, if00]
    · rw [if_neg q2, if_neg q2, bI_s, if10]
      rfl
/-- a mark -/
theorem c_mrk (N : Mem) {n i k : Nat} (K : Int32 → Mem → Option (Int32 × Mem)) (hs : s ≤ 60) (hi : i < s) (hk : k < 7) (h6 : N.1 22 6 = nI k) {x : Int32} (hx : N.1 (10 + t) i = x) : f_X0_read_L10 22 (10 + t) 60 (nI s) K (n + 1) 2 (nI i) N = if x < 48 then some (nI i, sI N 25 k (x - 48)) else if 57 < x then some (nI i, sI N 25 k (x - 48)) else f_X0_read_L10 22 (10 + t) 60 (nI s) K n 0 (nI (i + 1)) (sI (sI N 25 k (x - 48)) 22 6 (nI (k + 1))) := by
  rw [f_X0_read_L10, iteLe (by omega) (by omega), if_neg (show ¬ s ≤ i by omega), iteLe (by omega) (by omega), if_neg (show ¬ 60 ≤ i by omega), grd_t (inb_t (show i < 60 by omega) (by omega)), ixn (by omega), hx, h6, show nI i + 1 = nI (i + 1) from nI_1 i]
  rw [jn_e, jn_e, if_neg (show ¬ (2 : Int32) = 0 by decide), show (7 : Int32) = nI 7 from rfl, iteEq (by omega) (by omega), if_neg (show ¬ k = 7 by omega)]
  unfold f_X0_takeSign
  rw [if_neg (show ¬ (2 : Int32) = 0 by decide), h6]
  simp only [jn_e, lt_e, if_true, if_false, show ((2 : Int32) = 1) = False from eq_false (by decide), show ((1 : Int32) = 2) = False from eq_false (by decide), show ((0 : Int32) = 2) = False from eq_false (by decide), show ((1 : Int32) = 1) = True from eq_true rfl, show ((2 : Int32) = 2) = True from eq_true rfl]
  rw [grd_t (inb_t (show k < 7 by omega) (by omega)), ixn (show k < 2147483648 by omega)]
  by_cases q : x < 48
  · rw [if_pos q, if_pos q, bI_s, if00]
  · rw [if_neg q, if_neg q]
    by_cases q2 : 57 < x
    · rw [if_pos q2, if_pos q2, bI_s, if00]
    · rw [if_neg q2, if_neg q2, bI_s, if10, sI_n _ _ _ _ (show 22 ≠ 22 + 3 by omega), h6, show nI k + 1 = nI (k + 1) from nI_1 k]
/-- two figures behind a letter -/
theorem m_fig (N : Mem) {f i : Nat} (ht : t < 4) (K1 : Int32 → Int32 → Mem → Option (Int32 × Mem)) (K2 : Option (Int32 × Mem)) (hs : s ≤ 60) (hi : i < s) {x y : Int32} (hx : i + 1 < s → N.1 4 (60 * t + i + 1) = x) (hy : i + 2 < s → N.1 4 (60 * t + i + 2) = y) : f_X2_reading_L76 (nI (60 * t)) (nI s) (nI i) N K1 K2 (f + 3) (nI 1) = if i + 1 = s then K1 (nI i) (nI 1) N else bR (f_X2_in x 50 57 N) fun r => if r = 0 then K1 (nI i) (nI 1) N else if i + 2 = s then K1 (nI i) (nI 2) N else bR (f_X2_in y 48 57 N) fun r => if r = 0 then K1 (nI i) (nI 2) N else K2 := by
  rw [f_X2_reading_L76, show (3 : Int32) = nI 3 from rfl, iteLe (by omega) (by omega), if_neg (show ¬ 3 ≤ 1 by omega), addN, iteEq (by omega) (by omega)]
  by_cases e : i + 1 = s
  · rw [if_pos e, if_pos e]
  · rw [if_neg e, if_neg e, addN, addN, grd_t (inb_t (show 60 * t + i + 1 < 240 by omega) (by omega)), ixn (by omega), hx (by omega), jn_e, if_pos (show nI 1 = 1 from rfl)]
    refine congrArg (bR (f_X2_in x 50 57 N)) (funext fun r => ?_)
    by_cases g : r = 0
    · rw [if_pos g, if_pos g]
    · rw [if_neg g, if_neg g, show nI 1 + 1 = nI 2 from rfl, f_X2_reading_L76, show (3 : Int32) = nI 3 from rfl, iteLe (by omega) (by omega), if_neg (show ¬ 3 ≤ 2 by omega), addN, iteEq (by omega) (by omega)]
      by_cases e2 : i + 2 = s
      · rw [if_pos e2, if_pos e2]
      · rw [if_neg e2, if_neg e2, addN, addN, grd_t (inb_t (show 60 * t + i + 2 < 240 by omega) (by omega)), ixn (by omega), hy (by omega), jn_e, if_neg (show ¬ nI 2 = 1 by decide)]
        refine congrArg (bR (f_X2_in y 48 57 N)) (funext fun r => ?_)
        by_cases g2 : r = 0
        · rw [if_pos g2, if_pos g2]
        · rw [if_neg g2, if_neg g2, show nI 2 + 1 = nI 3 from rfl, f_X2_reading_L76, show (3 : Int32) = nI 3 from rfl, iteLe (by omega) (by omega), if_pos (show 3 ≤ 3 by omega)]
end RD
