/-! fault, store -/
theorem Rd.c {Mc Mm Nc Nm : Mem} (h : Rd Mc Mm Nc Nm 0) {a i : Nat} {v : Int32} (ha : 22 ≤ a) (hb : a ≤ 28) : Rd Mc Mm (sI Nc a i v) Nm 0 := ⟨h.1, fun b hb2 => (sI_n _ _ _ _ (by omega)).trans (h.2.1 b hb2), h.2.2⟩
theorem Rd.m {Mc Mm Nc Nm : Mem} (h : Rd Mc Mm Nc Nm 0) {a i : Nat} {v : Int32} (ha : 14 ≤ a) : Rd Mc Mm Nc (sI Nm a i v) 0 := ⟨h.1, h.2.1, h.2.2.1, fun b b1 b2 => (sI_n _ _ _ _ (by omega)).trans (h.2.2.2.1 b b1 b2), fun j hj => by rw [sI_n _ _ _ _ (by omega)]; exact h.2.2.2.2 j hj⟩
theorem Rd.m0 {Mc Mm Nc Nm : Mem} (h : Rd Mc Mm Nc Nm 0) {v : Int32} : Rd Mc Mm Nc (sI Nm 0 19 v) 0 := ⟨h.1, h.2.1, h.2.2.1, fun b b1 b2 => (sI_n _ _ _ _ (by omega)).trans (h.2.2.2.1 b b1 b2), fun j hj => by rw [sI_1, upd_ne _ _ hj]; exact h.2.2.2.2 j hj⟩
def kC (s : Nat) : Int32 → Mem → Option (Int32 × Mem) := fun v M => if v = 0 then (if M.1 22 6 < 2 then some (nI s, M) else some (-9, M)) else some (nI s, M)
def kM (s : Nat) : Mem → Option (Int32 × Mem) := fun M => if 2 ≤ M.1 0 19 then some (-9, M) else some (nI s, M)
def kF : Int32 → Int32 → Mem → Option (Int32 × Mem) := fun a b M => some (a + b, M)
theorem rd_bad {Mc Mm Nc Nm : Mem} (h : Rd Mc Mm Nc Nm 0) {i : Nat} (hi : i < 1000) : RdQ Mc Mm (some (nI i, Nc)) (some (nI i, Nm)) := ⟨_, _, _, rfl, rfl, h, fun q => absurd q (ne9 (by omega))⟩
theorem rd_L {Mc Mm : Mem} {c : Cfg} {ds : Nat → Nat} {d t s : Nat} (h : SimX c ds d Mc Mm) (ht : t < 4) (hs : s ≤ 60) : ∀ (q i k n m : Nat) (Nc Nm : Mem), s - i ≤ q → i ≤ s → k ≤ 7 → s - i < n → s - i < m → Rd Mc Mm Nc Nm 0 → RdK Nc Nm k → RdQ Mc Mm (f_X0_read_L10 22 (10 + t) 60 (nI s) (kC s) n 0 (nI i) Nc) (f_X2_reading_L20 (nI (60 * t)) (nI s) kF (kM s) m (nI i) Nm) := by
  intro q
  induction q with
  | zero =>
    intro i k n m Nc Nm hq hi hk hn hm hR hK
    obtain ⟨n, rfl⟩ : ∃ n', n = n' + 1 := ⟨n - 1, by omega⟩
    obtain ⟨m, rfl⟩ : ∃ n', m = n' + 1 := ⟨m - 1, by omega⟩
    rw [show f_X0_read_L10 22 (10 + t) 60 (nI s) (kC s) (n + 1) 0 (nI i) Nc = kC s (nI 0) Nc from c_end (p := 0) Nc (kC s) hs (by omega) (by omega), f_X2_reading_L20, iteLe (by omega) (by omega), if_pos (show s ≤ i by omega)]
    unfold kC kM
    rw [if_pos (show nI 0 = 0 from rfl), hK.1, hK.2.1, show (2 : Int32) = nI 2 from rfl, iteLt (by omega) (by omega), iteLe (by omega) (by omega)]
    by_cases e : k < 2
    · rw [if_pos e, if_neg (by omega)]
      exact rd_bad hR (by omega)
    · rw [if_neg e, if_pos (by omega)]
      exact ⟨_, _, _, rfl, rfl, hR, fun _ => ⟨k, by omega, hk, hK⟩⟩
  | succ q ih =>
    intro i k n m Nc Nm hq hi hk hn hm hR hK
    by_cases e : s ≤ i
    · exact ih i k n m Nc Nm (by omega) hi hk hn hm hR hK
    · obtain ⟨n, rfl⟩ : ∃ n', n = n' + 1 := ⟨n - 1, by omega⟩
      obtain ⟨m, rfl⟩ : ∃ n', m = n' + 1 := ⟨m - 1, by omega⟩
      obtain ⟨s1, s2, s3⟩ := h.2.2.2.1 t ht
      have tx : ∀ j, j < s → Nc.1 (10 + t) j = Mc.1 (10 + t) j ∧ Nm.1 4 (60 * t + j) = Mc.1 (10 + t) j := fun j hj => ⟨by rw [hR.2.1 _ (by omega)], by rw [hR.2.2.2.1 4 (by omega) (by omega), s3 j (by omega)]⟩
      rw [c_let Nc (kC s) hs (show i < s by omega) hk hK.1 (tx i (by omega)).1, f_X2_reading_L20, iteLe (by omega) (by omega), if_neg e, addN, grd_t (inb_t (show 60 * t + i < 240 by omega) (by omega)), ixn (by omega), (tx i (by omega)).2, hK.2.1, show nI i + 1 = nI (i + 1) from nI_1 i]
      by_cases g : Mc.1 (10 + t) i = 32
      · rw [if_pos g, if_pos g]
        exact ih (i + 1) k n m Nc Nm (by omega) (by omega) hk (by omega) (by omega) hR hK
      · rw [if_neg g, if_neg g, show (7 : Int32) = nI 7 from rfl, iteEq (by omega) (by omega)]
        by_cases g7 : k = 7
        · rw [if_pos g7, if_pos g7]
          exact rd_bad hR (by omega)
        · rw [if_neg g7, if_neg g7, grd_t (inb_t (show 60 * t + i < 240 by omega) (by omega))]
          rcases kd_or (Mc.1 (10 + t) i) Nc Nm with ⟨κ, hκ, k1, k2⟩ | ⟨k1, k2⟩
          · rw [k1, k2, bR_s, bR_s, if_neg (nI_nm (by omega)), if_pos (nI_pos' (by omega))]
            obtain ⟨fu, hfu, hf2⟩ := FUx
            rw [← hfu, jn_e, grd_t (inb_t (show 60 * t + i < 240 by omega) (by omega)), bR_s, grd_t (inb_t (show k < 7 by omega) (by omega)), ixn (show k < 2147483648 by omega), lt_e]
            obtain ⟨f, rfl⟩ : ∃ f, fu = f + 3 := ⟨fu - 3, by omega⟩
            rw [show (1 : Int32) = nI 1 from rfl, m_fig Nm ht kF _ hs (show i < s by omega) (x := Mc.1 (10 + t) (i + 1)) (y := Mc.1 (10 + t) (i + 2)) (fun z => by rw [show 60 * t + i + 1 = 60 * t + (i + 1) by omega]; exact (tx (i + 1) z).2) (fun z => by rw [show 60 * t + i + 2 = 60 * t + (i + 2) by omega]; exact (tx (i + 2) z).2), ← show (1 : Int32) = nI 1 from rfl]
            have hn2 : 1 ≤ n := by omega
            obtain ⟨n, rfl⟩ : ∃ n', n = n' + 1 := ⟨n - 1, by omega⟩
            by_cases e1 : i + 1 = s
            · rw [if_pos e1, show f_X0_read_L10 22 (10 + t) 60 (nI s) (kC s) (n + 1) 1 (nI (i + 1)) (sI Nc 23 k (nI κ)) = kC s (nI 1) (sI Nc 23 k (nI κ)) from c_end (p := 1) _ (kC s) hs (by omega) (by omega)]
              unfold kC kF
              rw [if_neg (show ¬ nI 1 = 0 by decide), show nI i + 1 = nI (i + 1) from nI_1 i, e1]
              exact rd_bad (hR.c (by omega) (by omega)) (by omega)
            · rw [if_neg e1, c_len (sI Nc 23 k (nI κ)) (kC s) hs (show i + 1 < s by omega) (show k < 7 by omega) (by rw [sI_n _ _ _ _ (by omega)]; exact hK.1) (show (sI Nc 23 k (nI κ)).1 (10 + t) (i + 1) = Mc.1 (10 + t) (i + 1) by rw [sI_n _ _ _ _ (by omega)]; exact (tx (i + 1) (by omega)).1)]
              rcases fig_or (Mc.1 (10 + t) (i + 1)) 50 (by omega) (by omega) Nm with ⟨l, l1, l2, l3, l4, l5, l6⟩ | ⟨l4, l6⟩
              · rw [show f_X2_in (Mc.1 (10 + t) (i + 1)) 50 57 Nm = some 1 from l6, bR_s, if10, if_neg (show ¬ Mc.1 (10 + t) (i + 1) < 50 from l4), if_neg l5, l3]
                by_cases e2 : i + 2 = s
                · rw [if_pos e2]
                  obtain ⟨n, rfl⟩ : ∃ n', n = n' + 1 := ⟨n - 1, by omega⟩
                  rw [show f_X0_read_L10 22 (10 + t) 60 (nI s) (kC s) (n + 1) 2 (nI (i + 1 + 1)) (sI (sI Nc 23 k (nI κ)) 24 k (nI l)) = kC s (nI 2) (sI (sI Nc 23 k (nI κ)) 24 k (nI l)) from c_end (p := 2) _ (kC s) hs (by omega) (by omega)]
                  unfold kC kF
                  rw [if_neg (show ¬ nI 2 = 0 by decide), addN, e2]
                  exact rd_bad ((hR.c (by omega) (by omega)).c (by omega) (by omega)) (by omega)
                · rw [if_neg e2]
                  obtain ⟨n, rfl⟩ : ∃ n', n = n' + 1 := ⟨n - 1, by omega⟩
                  rw [c_mrk (sI (sI Nc 23 k (nI κ)) 24 k (nI l)) (kC s) hs (show i + 1 + 1 < s by omega) (show k < 7 by omega) (by rw [sI_n _ _ _ _ (by omega), sI_n _ _ _ _ (by omega)]; exact hK.1) (show (sI (sI Nc 23 k (nI κ)) 24 k (nI l)).1 (10 + t) (i + 1 + 1) = Mc.1 (10 + t) (i + 2) by rw [sI_n _ _ _ _ (by omega), sI_n _ _ _ _ (by omega)]; exact (tx (i + 2) (by omega)).1)]
                  rcases fig_or (Mc.1 (10 + t) (i + 2)) 48 (by omega) (by omega) Nm with ⟨μ, u1, u2, u3, u4, u5, u6⟩ | ⟨u4, u6⟩
                  · rw [show f_X2_in (Mc.1 (10 + t) (i + 2)) 48 57 Nm = some 1 from u6, bR_s, if10, if_neg (show ¬ Mc.1 (10 + t) (i + 2) < 48 from u4), if_neg u5, u3, show nI (60 * t + i) + 1 = nI (60 * t + i + 1) from nI_1 _, show nI (60 * t + i) + 2 = nI (60 * t + i + 2) from addN _ 2, grd_t (inb_t (show 60 * t + i + 1 < 240 by omega) (by omega)), ixn (show 60 * t + i + 1 < 2147483648 by omega), sI_n _ _ _ _ (show 0 ≠ 14 by omega), sI_n _ _ _ _ (show 4 ≠ 14 by omega), hK.2.1, grd_t (inb_t (show k < 7 by omega) (by omega)), lt_e, ixn (show k < 2147483648 by omega), grd_t (inb_t (show 60 * t + i + 2 < 240 by omega) (by omega)), ixn (show 60 * t + i + 2 < 2147483648 by omega), sI_n _ _ _ _ (show 0 ≠ 15 by omega), sI_n _ _ _ _ (show 4 ≠ 15 by omega), sI_n _ _ _ _ (show 0 ≠ 14 by omega), sI_n _ _ _ _ (show 4 ≠ 14 by omega), hK.2.1, grd_t (inb_t (show k < 7 by omega) (by omega)), lt_e, lt_e, ixn (show k < 2147483648 by omega), sI_n _ _ _ _ (show 0 ≠ 16 by omega), sI_n _ _ _ _ (show 0 ≠ 15 by omega), sI_n _ _ _ _ (show 0 ≠ 14 by omega), hK.2.1, show nI k + 1 = nI (k + 1) from nI_1 k, show nI i + 3 = nI (i + 3) from addN i 3, show 60 * t + i + 1 = 60 * t + (i + 1) by omega, show 60 * t + i + 2 = 60 * t + (i + 2) by omega, (tx (i + 1) (by omega)).2, (tx (i + 2) (by omega)).2, u3, l3]
                    refine ih (i + 3) (k + 1) n m _ _ (by omega) (by omega) (by omega) (by omega) (by omega) ((((((hR.c (by omega) (by omega)).c (by omega) (by omega)).c (by omega) (by omega)).c (by omega) (by omega)).m (by omega) |>.m (by omega) |>.m (by omega)).m0) ⟨?_, ?_, fun j hj => ?_⟩
                    · rw [sI_1, upd_same]
                    · rw [sI_1, upd_same]
                    · rw [sI_n _ _ _ _ (show 23 ≠ 22 by omega), sI_n _ _ _ _ (show 24 ≠ 22 by omega), sI_n _ _ _ _ (show 25 ≠ 22 by omega), sI_n _ _ _ _ (show 14 ≠ 0 by omega), sI_n _ _ _ _ (show 15 ≠ 0 by omega), sI_n _ _ _ _ (show 16 ≠ 0 by omega), sI_n _ _ _ _ (show 23 ≠ 25 by omega), sI_n _ _ _ _ (show 24 ≠ 25 by omega), sI_1, sI_n _ _ _ _ (show 23 ≠ 24 by omega), sI_1, sI_1, sI_n _ _ _ _ (show 25 ≠ 24 by omega), sI_n _ _ _ _ (show 25 ≠ 23 by omega), sI_n _ _ _ _ (show 24 ≠ 23 by omega), sI_n _ _ _ _ (show 14 ≠ 16 by omega), sI_n _ _ _ _ (show 14 ≠ 15 by omega), sI_1, sI_n _ _ _ _ (show 15 ≠ 16 by omega), sI_1, sI_n _ _ _ _ (show 15 ≠ 14 by omega), sI_1, sI_n _ _ _ _ (show 16 ≠ 15 by omega), sI_n _ _ _ _ (show 16 ≠ 14 by omega)]
                      by_cases ej : j = k
                      · rw [ej]
                        simp only [upd_same]
                        exact ⟨κ, l, μ, hκ, by omega, l2, u2, rfl, rfl, rfl, rfl, rfl, rfl⟩
                      · simp only [upd_ne _ _ ej]
                        exact hK.2.2 j (by omega)
                  · rw [show f_X2_in (Mc.1 (10 + t) (i + 2)) 48 57 Nm = some 0 from u6, bR_s, if00]
                    unfold kF
                    rw [addN]
                    have R2 := rd_bad (i := i + 2) (((hR.c (a := 23) (i := k) (v := nI κ) (by omega) (by omega)).c (a := 24) (i := k) (v := nI l) (by omega) (by omega)).c (a := 25) (i := k) (v := Mc.1 (10 + t) (i + 2) - 48) (by omega) (by omega)) (by omega)
                    by_cases w : Mc.1 (10 + t) (i + 2) < 48
                    · rw [if_pos w]; exact R2
                    · rw [if_neg w, if_pos (u4.resolve_left w)]; exact R2
              · rw [show f_X2_in (Mc.1 (10 + t) (i + 1)) 50 57 Nm = some 0 from l6, bR_s, if00]
                unfold kF
                rw [show nI i + 1 = nI (i + 1) from nI_1 i]
                have R2 := rd_bad (i := i + 1) ((hR.c (a := 23) (i := k) (v := nI κ) (by omega) (by omega)).c (a := 24) (i := k) (v := Mc.1 (10 + t) (i + 1) - 48) (by omega) (by omega)) (by omega)
                by_cases w : Mc.1 (10 + t) (i + 1) < 50
                · rw [if_pos w]; exact R2
                · rw [if_neg w, if_pos (l4.resolve_left w)]; exact R2
          · rw [k1, k2, bR_s, bR_s, if_pos (show (-1 : Int32) = -1 from rfl), if_neg (show ¬ (0 : Int32) ≤ -1 by decide)]
            exact rd_bad (hR.c (by omega) (by omega)) (by omega)
