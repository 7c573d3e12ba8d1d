/-! the digest -/
theorem ms_tube {Mc Mm : Mem} {c : Cfg} {ds : Nat → Nat} {d : Nat} (h : SimX c ds d Mc Mm) {i v : Nat} (hi : i < c.1) (hv : v ≤ 6) : f_X2_tube (nI i) (nI v) Mm = some (1, sI Mm 0 14 (nI (fcN c (rpN c ds d) i v))) := by
  obtain ⟨hc, h40, a3, a4, a5, a6, a7, a8, a9⟩ := id h.1
  have h7 := hc.1
  have ht := h.t
  unfold f_X2_tube
  obtain ⟨b1, b2, b3, b4⟩ := hc.2 i hi
  obtain ⟨s1, s2, s3, s4, s5⟩ := a7.2.2 i hi
  have g1 : f_X2_in (nI v) 0 6 Mm = some 1 := (inY (nI_pos (by omega)) (show ¬ nI 6 < nI v from nI_nlt hv (by omega))).1
  rw [ms_isTube a7 hc hi, bR_s, if10, g1, bR_s, if10]
  simp only [jn, show (1 : Int32) + nI i = nI (1 + i) from addN 1 i, show (8 : Int32) + nI i = nI (8 + i) from addN 8 i, grd_t (inb_t (show 1 + i < 15 by omega) (show 15 < 2147483648 by omega)), grd_t (inb_t (show 8 + i < 15 by omega) (show 15 < 2147483648 by omega)), ixn (show 1 + i < 2147483648 by omega), ixn (show 8 + i < 2147483648 by omega), grd_t (inb_t (show i < 7 by omega) (show 7 < 2147483648 by omega)), ixn (show i < 2147483648 by omega), s1, s2, s3, s4, s5, ms_isReady a7 hc (show (rpN c ds d).1 < 1000 by omega) hi, ms_sentNow a7 hc h.okS (show (rpN c ds d).1 < 1000 by omega) hi b1, bR_s]
  unfold fcN
  rcases (show v = 0 ∨ v = 1 ∨ v = 2 ∨ v = 3 ∨ v = 4 ∨ v = 5 ∨ v = 6 by omega) with rfl | rfl | rfl | rfl | rfl | rfl | rfl
  · rfl
  · rfl
  · rfl
  · rfl
  · rfl
  · by_cases g : rdN (c.2.1 i) (rpN c ds d).1 = true
    · simp only [g, if_true]; rfl
    · simp only [g]; rfl
  · rfl
theorem ms_tubeOf {Mc Mm : Mem} {c : Cfg} {ds : Nat → Nat} {d : Nat} (h : SimX c ds d Mc Mm) {i v : Nat} (hi : i < c.1) (hv : v ≤ 6) : f_X2_tubeOf (nI i) (nI v) Mm = some (nI (fcN c (rpN c ds d) i v), Mm) := by
  unfold f_X2_tubeOf
  rw [ms_tube h hi hv, bI_s]
  simp only [lt]
  rw [sI_1, upd_same]
  refine congrArg some (Prod.ext rfl (Prod.ext (funext fun a => ?_) rfl))
  by_cases e : a = 0
  · rw [e]
    refine funext fun x => ?_
    show (sI (sI Mm 0 14 _) 0 14 (Mm.1 0 14)).1 0 x = _
    rw [sI_1, sI_1]
    by_cases g : x = 14
    · rw [g, upd_same]
    · rw [upd_ne _ _ g, upd_ne _ _ g]
  · show (sI (sI Mm 0 14 _) 0 14 (Mm.1 0 14)).1 a = _
    rw [sI_n _ _ _ _ e, sI_n _ _ _ _ e]
def BD (Mm : Mem) (A : Option Int64) (B : Option (Int64 × Mem)) : Prop := ∃ r : Int64, A = some r ∧ B = some (r, Mm)
section DG
variable {Mc Mm : Mem} {c : Cfg} {ds : Nat → Nat} {d : Nat}
theorem dg_cnt (h : SimX c ds d Mc Mm) (K1 : Int64 → Option Int64) (K2 : Int64 → Option (Int64 × Mem)) (hK : ∀ a, BD Mm (K1 a) (K2 a)) : ∀ (n j : Nat) (a : Int64), j ≤ 11 → 11 - j < n → BD Mm (f_X1_digest_L6 Mc K1 n a (nI j)) (f_X2_digest_L6 Mm K2 n a (nI j))
  | 0, j, a, _, h => by omega
  | n + 1, j, a, hj, hn => by
    rw [f_X1_digest_L6, f_X2_digest_L6, show (11 : Int32) = nI 11 from rfl, iteLe (by omega) (by omega), iteLe (by omega) (by omega)]
    by_cases e : 11 ≤ j
    · rw [if_pos e, if_pos e]; exact hK a
    · obtain ⟨r, q1, q2⟩ := tt_cnt h (show j ≤ 10 by omega)
      rw [if_neg e, if_neg e, q1, q2, bR_s, bR_s, show nI j + 1 = nI (j + 1) from nI_1 j]
      exact dg_cnt h K1 K2 hK n (j + 1) _ (by omega) (by omega)
theorem dg_f2 (h : SimX c ds d Mc Mm) {i : Nat} (hi : i < c.1) (K1 : Int64 → Option Int64) (K2 : Int64 → Mem → Option (Int64 × Mem)) (hK : ∀ a, BD Mm (K1 a) (K2 a Mm)) : ∀ (n j : Nat) (a : Int64), j ≤ 7 → 7 - j < n → BD Mm (f_X1_digest_L47 (nI i) Mc K1 n a (nI j)) (f_X2_digest_L44 (nI i) K2 n a (nI j) Mm)
  | 0, j, a, _, h => by omega
  | n + 1, j, a, hj, hn => by
    have ht := h.t
    rw [f_X1_digest_L47, f_X2_digest_L44, show (7 : Int32) = nI 7 from rfl, iteLe (by omega) (by omega), iteLe (by omega) (by omega)]
    by_cases e : 7 ≤ j
    · rw [if_pos e, if_pos e]; exact hK a
    · rw [if_neg e, if_neg e, cs_fact h.1.2.2.2.1 h.1.1 h.okS (by omega) hi (show j ≤ 6 by omega), ms_tubeOf h hi (show j ≤ 6 by omega), bR_s, bI_s, show nI j + 1 = nI (j + 1) from nI_1 j]
      exact dg_f2 h hi K1 K2 hK n (j + 1) _ (by omega) (by omega)
theorem dg_f1 (h : SimX c ds d Mc Mm) (K1 : Int64 → Option Int64) (K2 : Int64 → Mem → Option (Int64 × Mem)) (hK : ∀ a, BD Mm (K1 a) (K2 a Mm)) : ∀ (n j : Nat) (a : Int64), j ≤ c.1 → c.1 - j < n → BD Mm (f_X1_digest_L33 Mc K1 n a (nI j)) (f_X2_digest_L33 K2 n a (nI j) Mm)
  | 0, j, a, _, h => by omega
  | n + 1, j, a, hj, hn => by
    have h7 := h.1.1.1
    obtain ⟨fu, hfu, hf2⟩ := FUx
    rw [f_X1_digest_L33, f_X2_digest_L33, h.1.2.2.2.1.1, h.1.2.2.2.2.2.2.1.1, iteLe (by omega) (by omega), iteLe (by omega) (by omega), ← hfu]
    by_cases e : c.1 ≤ j
    · rw [if_pos e, if_pos e]; exact hK a
    · rw [if_neg e, if_neg e]
      simp only [jn]
      rw [show nI j + 1 = nI (j + 1) from nI_1 j]
      exact dg_f2 h (show j < c.1 by omega) _ _ (fun a => dg_f1 h K1 K2 hK n (j + 1) a (by omega) (by omega)) fu 0 a (by omega) (by omega)
theorem dg_k (h : SimX c ds d Mc Mm) (K1 : Int64 → Option Int64) (K2 : Int64 → Option (Int64 × Mem)) (hK : ∀ a, BD Mm (K1 a) (K2 a)) : ∀ (n j : Nat) (a : Int64), j ≤ 3 → 3 - j < n → BD Mm (f_X1_digest_L86 Mc K1 n a (nI j)) (f_X2_digest_L80 Mm K2 n a (nI j))
  | 0, j, a, _, h => by omega
  | n + 1, j, a, hj, hn => by
    rw [f_X1_digest_L86, f_X2_digest_L80, show (3 : Int32) = nI 3 from rfl, iteLe (by omega) (by omega), iteLe (by omega) (by omega)]
    by_cases e : 3 ≤ j
    · rw [if_pos e, if_pos e]; exact hK a
    · rw [if_neg e, if_neg e, grd_t (inb_t (show j < 3 by omega) (by omega)), grd_t (inb_t (show j < 3 by omega) (by omega)), ixn (by omega), show nI j + 1 = nI (j + 1) from nI_1 j, show (616 : Int32) * nI j = nI (616 * j) from mulN 616 j]
      simp only [jn]
      rw [grd_t (inb_t (show 616 * j < 1848 by omega) (by omega)), ixn (by omega)]
      rcases h.2.1 j (by omega) with ⟨q1, q2⟩ | ⟨e, ks, h1, h2, h3, h4, h5, h6, h7, h8⟩
      · rw [q1, q2, if00]
        exact dg_k h K1 K2 hK n (j + 1) _ (by omega) (by omega)
      · rw [h3, h5, if10, h6]
        exact dg_k h K1 K2 hK n (j + 1) _ (by omega) (by omega)
theorem dg_r2 (h : SimX c ds d Mc Mm) {r m : Nat} (hr : r < 6) (hm : m ≤ 40) (hs : Mc.1 8 r = nI m) (K1 : Int64 → Option Int64) (K2 : Int64 → Option (Int64 × Mem)) (hK : ∀ a, BD Mm (K1 a) (K2 a)) : ∀ (n j : Nat) (a : Int64), j ≤ m → m - j < n → BD Mm (f_X1_digest_L136 (nI r) Mc K1 n a (nI j)) (f_X2_digest_L147 (nI r) Mm K2 n a (nI j))
  | 0, j, a, _, h => by omega
  | n + 1, j, a, hj, hn => by
    obtain ⟨s1, s2, s3⟩ := h.2.2.1 r hr
    rw [f_X1_digest_L136, f_X2_digest_L147, show (40 : Int32) * nI r = nI (40 * r) from mulN 40 r, addN]
    simp only [grd_t (inb_t (show r < 6 by omega) (show 6 < 2147483648 by omega)), ixn (show r < 2147483648 by omega)]
    rw [← s1, hs, iteLe (by omega) (by omega), iteLe (by omega) (by omega)]
    by_cases e : m ≤ j
    · rw [if_pos e, if_pos e]; exact hK a
    · rw [if_neg e, if_neg e, grd_t (inb_t (show j < 40 by omega) (by omega)), grd_t (inb_t (show 40 * r + j < 240 by omega) (by omega)), ixn (show j < 2147483648 by omega), ixn (show 40 * r + j < 2147483648 by omega), ← s3 j (by omega), show nI j + 1 = nI (j + 1) from nI_1 j]
      exact dg_r2 h hr hm hs K1 K2 hK n (j + 1) _ (by omega) (by omega)
theorem dg_r1 (h : SimX c ds d Mc Mm) (K1 : Int64 → Option Int64) (K2 : Int64 → Option (Int64 × Mem)) (hK : ∀ a, BD Mm (K1 a) (K2 a)) : ∀ (n j : Nat) (a : Int64), j ≤ 6 → 6 - j < n → BD Mm (f_X1_digest_L113 Mc K1 n a (nI j)) (f_X2_digest_L124 Mm K2 n a (nI j))
  | 0, j, a, _, h => by omega
  | n + 1, j, a, hj, hn => by
    obtain ⟨fu, hfu, hf2⟩ := FUx
    rw [f_X1_digest_L113, f_X2_digest_L124, show (6 : Int32) = nI 6 from rfl, iteLe (by omega) (by omega), iteLe (by omega) (by omega), ← hfu]
    by_cases e : 6 ≤ j
    · rw [if_pos e, if_pos e]; exact hK a
    · obtain ⟨s1, s2, s3⟩ := h.2.2.1 j (by omega)
      rw [if_neg e, if_neg e, grd_t (inb_t (show j < 6 by omega) (by omega)), grd_t (inb_t (show j < 6 by omega) (by omega)), ixn (show j < 2147483648 by omega)]
      simp only [jn]
      rw [← s1, show nI j + 1 = nI (j + 1) from nI_1 j]
      have ih := fun a => dg_r1 h K1 K2 hK n (j + 1) a (by omega) (by omega)
      rcases s2 with s2 | ⟨m, hm, s2⟩
      · obtain ⟨fv, rfl⟩ : ∃ fv, fu = fv + 1 := ⟨fu - 1, by omega⟩
        rw [f_X1_digest_L136, f_X2_digest_L147]
        simp only [grd_t (inb_t (show j < 6 by omega) (show 6 < 2147483648 by omega)), ixn (show j < 2147483648 by omega)]
        rw [← s1, s2, if_pos (show (-1 : Int32) ≤ 0 by decide), if_pos (show (-1 : Int32) ≤ 0 by decide)]
        exact ih _
      · exact dg_r2 h (show j < 6 by omega) hm s2 _ _ ih fu 0 _ (by omega) (by omega)
theorem dg_t2 (h : SimX c ds d Mc Mm) {r m : Nat} (hr : r < 4) (hm : m ≤ 60) (hs : Mc.1 14 r = nI m) (K1 : Int64 → Option Int64) (K2 : Int64 → Option (Int64 × Mem)) (hK : ∀ a, BD Mm (K1 a) (K2 a)) : ∀ (n j : Nat) (a : Int64), j ≤ m → m - j < n → BD Mm (f_X1_digest_L200 (nI r) Mc K1 n a (nI j)) (f_X2_digest_L214 (nI r) Mm K2 n a (nI j))
  | 0, j, a, _, h => by omega
  | n + 1, j, a, hj, hn => by
    obtain ⟨s1, s2, s3⟩ := h.2.2.2.1 r hr
    rw [f_X1_digest_L200, f_X2_digest_L214, show (60 : Int32) * nI r = nI (60 * r) from mulN 60 r, addN]
    simp only [grd_t (inb_t (show r < 4 by omega) (show 4 < 2147483648 by omega)), ixn (show r < 2147483648 by omega)]
    rw [← s1, hs, iteLe (by omega) (by omega), iteLe (by omega) (by omega)]
    by_cases e : m ≤ j
    · rw [if_pos e, if_pos e]; exact hK a
    · rw [if_neg e, if_neg e, grd_t (inb_t (show j < 60 by omega) (by omega)), grd_t (inb_t (show 60 * r + j < 240 by omega) (by omega)), ixn (show j < 2147483648 by omega), ixn (show 60 * r + j < 2147483648 by omega), ← s3 j (by omega), show nI j + 1 = nI (j + 1) from nI_1 j]
      exact dg_t2 h hr hm hs K1 K2 hK n (j + 1) _ (by omega) (by omega)
theorem dg_t1 (h : SimX c ds d Mc Mm) : ∀ (n j : Nat) (a : Int64), j ≤ 4 → 4 - j < n → BD Mm (f_X1_digest_L178 Mc n a (nI j)) (f_X2_digest_L192 Mm n a (nI j))
  | 0, j, a, _, h => by omega
  | n + 1, j, a, hj, hn => by
    obtain ⟨fu, hfu, hf2⟩ := FUx
    rw [f_X1_digest_L178, f_X2_digest_L192, show (4 : Int32) = nI 4 from rfl, iteLe (by omega) (by omega), iteLe (by omega) (by omega), ← hfu]
    by_cases e : 4 ≤ j
    · rw [if_pos e, if_pos e]; exact ⟨a, rfl, rfl⟩
    · obtain ⟨s1, s2, s3⟩ := h.2.2.2.1 j (by omega)
      rw [if_neg e, if_neg e, grd_t (inb_t (show j < 4 by omega) (by omega)), grd_t (inb_t (show j < 4 by omega) (by omega)), ixn (show j < 2147483648 by omega)]
      simp only [jn]
      rw [← s1, show nI j + 1 = nI (j + 1) from nI_1 j]
      have ih := fun a => dg_t1 h n (j + 1) a (by omega) (by omega)
      rcases s2 with s2 | ⟨m, hm, s2⟩
      · obtain ⟨fv, rfl⟩ : ∃ fv, fu = fv + 1 := ⟨fu - 1, by omega⟩
        rw [f_X1_digest_L200, f_X2_digest_L214]
        simp only [grd_t (inb_t (show j < 4 by omega) (show 4 < 2147483648 by omega)), ixn (show j < 2147483648 by omega)]
        rw [← s1, s2, if_pos (show (-1 : Int32) ≤ 0 by decide), if_pos (show (-1 : Int32) ≤ 0 by decide)]
        exact ih _
      · exact dg_t2 h (show j < 4 by omega) hm s2 _ _ ih fu 0 _ (by omega) (by omega)
theorem dg_all (h : SimX c ds d Mc Mm) : BD Mm (f_X1_digest Mc) (f_X2_digest Mm) := by
  have h7 := h.1.1.1
  unfold f_X1_digest f_X2_digest
  obtain ⟨fu, hfu, hf2⟩ := FUx
  rw [← hfu]
  simp only [jn]
  refine dg_cnt h _ _ (fun a => ?_) fu 0 17 (by omega) (by omega)
  refine dg_f1 h _ _ (fun a => ?_) fu 0 a (by omega) (by omega)
  refine dg_k h _ _ (fun a => ?_) fu 0 a (by omega) (by omega)
  refine dg_r1 h _ _ (fun a => ?_) fu 0 a (by omega) (by omega)
  exact dg_t1 h fu 0 a (by omega) (by omega)
end DG
theorem tt_digest {Mc Mm : Mem} (h0 : Sim Mc Mm) : ∃ r, f_X1_digest Mc = some r ∧ f_X2_digest Mm = some (r, Mm) := by
  obtain ⟨c, ds, d, h⟩ := id h0
  exact dg_all h
