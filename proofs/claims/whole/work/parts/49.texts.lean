/-! texts -/
theorem c_txL {r n : Nat} (hr : r < 4) (hn : n ≤ 60) (K : Mem → Option (Int32 × Mem)) : ∀ (f j : Nat) (M : Mem), j ≤ n → n - j < f → ∃ M', f_X1_text_L27 (nI r) (nI n) K f (nI j) M = K M' ∧ (∀ a, a ≠ 10 + r → M'.1 a = M.1 a) ∧ M'.2 = M.2 ∧ ∀ x, M'.1 (10 + r) x = if j ≤ x ∧ x < n then 32 else M.1 (10 + r) x
  | 0, j, M, _, h => by omega
  | f + 1, j, M, hj, hf => by
    rw [f_X1_text_L27, iteLe (by omega) (by omega)]
    by_cases e : n ≤ j
    · rw [if_pos e]
      exact ⟨M, rfl, fun _ _ => rfl, rfl, fun x => by rw [if_neg (by omega)]⟩
    · rw [if_neg e, grd_t (inb_t (by omega) (by omega)), grd_t (inb_t (by omega) (by omega)), ixn (by omega), ixn (by omega), show nI j + 1 = nI (j + 1) from nI_1 j]
      obtain ⟨M', e1, e2, e3, e4⟩ := c_txL hr hn K f (j + 1) (sI M (10 + r) j (vp_nar .byte 32)) (by omega) (by omega)
      refine ⟨M', e1, fun a ha => (e2 a ha).trans (sI_n _ _ _ _ ha), e3, fun x => ?_⟩
      rw [e4, sI_1]
      by_cases g : x = j
      · subst g; rw [if_neg (by omega), upd_same, if_pos (by omega)]; decide
      · rw [upd_ne _ _ g]
        by_cases g2 : j + 1 ≤ x ∧ x < n
        · rw [if_pos g2, if_pos (by omega)]
        · rw [if_neg g2, if_neg (by omega)]
theorem m_txL {r n : Nat} (hr : r < 4) (hn : n ≤ 60) : ∀ (f j : Nat) (M : Mem), j ≤ n → n - j < f → ∃ M', f_X2_text_L34 (nI r) (nI n) f (nI j) M = some (nI n, M') ∧ (∀ a, a ≠ 4 → M'.1 a = M.1 a) ∧ M'.2 = M.2 ∧ ∀ x, M'.1 4 x = if 60 * r + j ≤ x ∧ x < 60 * r + n then 32 else M.1 4 x
  | 0, j, M, _, h => by omega
  | f + 1, j, M, hj, hf => by
    rw [f_X2_text_L34, iteLe (by omega) (by omega)]
    by_cases e : n ≤ j
    · rw [if_pos e]
      exact ⟨M, rfl, fun _ _ => rfl, rfl, fun x => by rw [if_neg (by omega)]⟩
    · rw [if_neg e, show (60 : Int32) * nI r = nI (60 * r) from mulN 60 r, addN, grd_t (inb_t (by omega) (by omega)), ixn (by omega), show nI j + 1 = nI (j + 1) from nI_1 j]
      obtain ⟨M', e1, e2, e3, e4⟩ := m_txL hr hn f (j + 1) (sI M 4 (60 * r + j) 32) (by omega) (by omega)
      refine ⟨M', e1, fun a ha => (e2 a ha).trans (sI_n _ _ _ _ ha), e3, fun x => ?_⟩
      rw [e4, sI_1]
      by_cases g : x = 60 * r + j
      · subst g; rw [if_neg (by omega), upd_same, if_pos (by omega)]
      · rw [upd_ne _ _ g]
        by_cases g2 : 60 * r + (j + 1) ≤ x ∧ x < 60 * r + n
        · rw [if_pos g2, if_pos (by omega)]
        · rw [if_neg g2, if_neg (by omega)]
theorem tt_text {Mc Mm : Mem} (h0 : Sim Mc Mm) (x y : Int32) : Both (f_X1_text x y Mc) (f_X2_text x y Mm) := by
  obtain ⟨c, ds, d, h⟩ := id h0
  unfold f_X1_text f_X2_text
  obtain ⟨fu, hfu, hf2⟩ := FUx
  rw [← hfu]
  rcases isText_or x Mc Mm with ⟨r, hr, rfl, e1, e2⟩ | ⟨e1, e2⟩
  · rw [e1, e2, bR_s, bR_s, if10, if10]
    rw [show (60 : Int32) = nI 60 from rfl]
    rcases int_3 y 60 with hy | ⟨n, hn, rfl⟩ | ⟨n, hn, hn2, rfl⟩
    · rw [if_pos (show y ≤ nI 60 from neg_le hy 60 (by omega)), if_neg (neg_nle hy), if_pos (show y ≤ nI 60 from neg_le hy 60 (by omega)), if_neg (neg_nle hy)]
      exact both_ref h (f := 5) (by omega) (by omega)
    · rw [if_pos (show nI n ≤ nI 60 from nI_le hn (by omega)), if_pos (nI_pos' (by omega)), if_pos (show nI n ≤ nI 60 from nI_le hn (by omega)), if_pos (nI_pos' (by omega))]
      simp only [jn, lt]
      rw [grd_t (inb_t (show r < 4 by omega) (by omega)), ixn (by omega)]
      obtain ⟨M1, g1, g2, g3, g4⟩ := c_txL hr hn (fun M_48x => grd (inb (nI r) 4) (some (nI n, sI M_48x 14 r (nI n)))) fu 0 Mc (by omega) (by omega)
      obtain ⟨M2, k1, k2, k3, k4⟩ := m_txL hr hn fu 0 (sI Mm 3 r (nI n)) (by omega) (by omega)
      refine ⟨nI n, sI M1 14 r (nI n), M2, (at0 (fun x => f_X1_text_L27 (nI r) (nI n) (fun M_48x => grd (inb (nI r) 4) (some (nI n, sI M_48x 14 r (nI n)))) fu x Mc) g1).trans (grd_t (inb_t (by omega) (by omega))), at0 (fun x => f_X2_text_L34 (nI r) (nI n) fu x (sI Mm 3 r (nI n))) k1, c, ds, d, ?_⟩
      refine h.texts g3 (fun a ha => by rw [sI_n _ _ _ _ (by omega), g2 a (by omega)]) k3 (fun a ha hb => by rw [k2 a hb, sI_n _ _ _ _ ha]) (fun q hq => ?_)
      obtain ⟨s1, s2, s3⟩ := h.2.2.2.1 q hq
      rw [sI_1, k2 3 (by omega), sI_1, g2 14 (by omega)]
      by_cases e : q = r
      · subst e
        rw [upd_same, upd_same]
        refine ⟨rfl, Or.inr ⟨n, hn, rfl⟩, fun i hi => ?_⟩
        rw [sI_n _ _ _ _ (by omega), g4, k4, sI_n _ _ _ _ (by omega)]
        by_cases g : i < n
        · rw [if_pos (by omega), if_pos (by omega)]
        · rw [if_neg (by omega), if_neg (by omega)]; exact s3 i hi
      · rw [upd_ne _ _ e, upd_ne _ _ e]
        refine ⟨s1, s2, fun i hi => ?_⟩
        rw [sI_n _ _ _ _ (by omega), g2 (10 + q) (by omega), k4, if_neg (by omega), sI_n _ _ _ _ (by omega)]
        exact s3 i hi
    · rw [if_neg (show ¬ nI n ≤ nI 60 from nI_ge hn (by omega)), if_neg (show ¬ nI n ≤ nI 60 from nI_ge hn (by omega))]
      exact both_bad h0 _
  · rw [e1, e2, bR_s, bR_s, if00, if00]
    exact both_bad h0 _
theorem byte_cut (v : Int32) : vp_nar .byte v.toInt8.toInt32 = shr (shl v 24) 24 := by
  have e1 : vp_nar .byte v.toInt8.toInt32 = v.toInt8.toInt32 := pk_vb v
  rw [e1]
  unfold shr shl
  apply Int32.toInt_inj.mp
  have a1 := pk_shl v ((24 : Int32) &&& 31) 24 (by decide)
  have a2 := pk_shr (v <<< ((24 : Int32) &&& 31)) ((24 : Int32) &&& 31) 24 (by decide)
  rw [a2]
  have b1 : (v <<< ((24 : Int32) &&& 31)).toInt = ((v.toBitVec.toNat * 2 ^ 24 % 2 ^ 32 : Nat) : Int).bmod (2 ^ 32) := by
    rw [← a1, ← Int32.toInt_toBitVec, BitVec.toInt_eq_toNat_bmod]
  have b2 : v.toInt8.toInt32.toInt = ((v.toBitVec.toNat : Nat) : Int).bmod (2 ^ 8) := by
    rw [Int8.toInt_toInt32, Int32.toInt_toInt8, ← Int32.toInt_toBitVec, BitVec.toInt_eq_toNat_bmod, Int.bmod_bmod_of_dvd (by decide)]
  rw [b1, b2]
  generalize v.toBitVec.toNat = n
  have hm : n * 2 ^ 24 % 2 ^ 32 = (n % 256) * 2 ^ 24 := by rw [show (2 : Nat) ^ 32 = 256 * 2 ^ 24 by decide, Nat.mul_mod_mul_right]
  have hb : ((n : Nat) : Int).bmod (2 ^ 8) = ((n % 256 : Nat) : Int).bmod (2 ^ 8) := by rw [Int.natCast_emod]; exact (Int.emod_bmod (n : Int) 256).symm
  have hd : ∀ r, r < 256 → (((r * 2 ^ 24 : Nat) : Int).bmod (2 ^ 32)) >>> 24 = ((r : Nat) : Int).bmod (2 ^ 8) := by decide +kernel
  rw [hm, hb]
  exact (hd _ (Nat.mod_lt _ (by decide))).symm
theorem tt_put {Mc Mm : Mem} (h0 : Sim Mc Mm) (x y v : Int32) : Both (f_X1_put x y v Mc) (f_X2_put x y v Mm) := by
  obtain ⟨c, ds, d, h⟩ := id h0
  unfold f_X1_put f_X2_put f_X1_lookForPlace
  rcases isText_or x Mc Mm with ⟨r, hr, rfl, e1, e2⟩ | ⟨e1, e2⟩
  · obtain ⟨s1, s2, s3⟩ := h.2.2.2.1 r hr
    rw [e1, e2, bR_s, bR_s, if10, if10]
    simp only [lt, grd_t (inb_t (show r < 4 by omega) (show 4 < 2147483648 by omega)), ixn (show r < 2147483648 by omega), ← s1]
    rcases s2 with s2 | ⟨n, hn, s2⟩
    · rw [s2, if_pos (show (-1 : Int32) = -1 from rfl), if_neg (show ¬ (0 : Int32) ≤ -1 by decide), bR_s, if10]
      exact both_ref h (f := 1) (by omega) (by omega)
    · rw [s2, if_neg (ne_m1 (by omega)), if_pos (nI_pos' (by omega))]
      by_cases hy : y < 0
      · rw [if_pos hy, (inNo (Or.inl hy)).1, bR_s, bR_s, if00, if_neg (show ¬ (2 : Int32) = 0 by decide)]
        exact both_ref h (f := 2) (by omega) (by omega)
      · obtain ⟨i, hi, rfl⟩ := nI_of hy
        rw [if_neg hy, iteLt (by omega) (by omega)]
        by_cases e : i < n
        · rw [if_pos e, show nI n - 1 = nI (n - 1) from subN (b := 1) (by omega), (inY hy (nI_nlt (by omega) (by omega))).1, bR_s, bR_s, if00, if10]
          rw [grd_t (inb_t (show i < 60 by omega) (by omega)), grd_t (inb_t (show i < 60 by omega) (by omega)), ixn (by omega), show (60 : Int32) * nI r = nI (60 * r) from mulN 60 r, addN, grd_t (inb_t (by omega) (by omega)), grd_t (inb_t (by omega) (by omega)), ixn (by omega), s3 i (by omega), byte_cut]
          refine both_bad ⟨c, ds, d, h.texts (Mc' := sI Mc (10 + r) i (shr (shl v 24) 24)) (Mm' := sI Mm 4 (60 * r + i) (shr (shl v 24) 24)) rfl (fun a ha => sI_n _ _ _ _ (by omega)) rfl (fun a _ hb => sI_n _ _ _ _ hb) (fun q hq => ?_)⟩ _
          obtain ⟨z1, z2, z3⟩ := h.2.2.2.1 q hq
          rw [sI_n _ _ _ _ (by omega), sI_n _ _ _ _ (by omega)]
          refine ⟨z1, z2, fun j hj => ?_⟩
          by_cases e : q = r
          · subst e
            rw [sI_1, sI_1]
            by_cases g : j = i
            · subst g; rw [upd_same, upd_same]
            · rw [upd_ne _ _ g, upd_ne _ _ (by omega)]; exact z3 j hj
          · rw [sI_n _ _ _ _ (by omega), sI_1, upd_ne _ _ (by omega)]; exact z3 j hj
        · have q : f_X2_in (nI i) 0 (nI n - 1) Mm = some 0 := by
            refine (inNo (Or.inr ?_)).1
            by_cases z : n = 0
            · subst z
              exact Int32.lt_of_lt_of_le (by decide) (nI_pos' hi)
            · rw [n1, subN (by omega)]
              exact nI_lt (by omega) hi
          rw [if_neg e, q, bR_s, bR_s, if00, if_neg (show ¬ (2 : Int32) = 0 by decide)]
          exact both_ref h (f := 2) (by omega) (by omega)
  · rw [e1, e2, bR_s, bR_s, if00, if00]
    exact both_bad h0 _
