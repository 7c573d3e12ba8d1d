/-! undone, kept, gone on from -/
theorem cs_againL {c : Cfg} (hc : okC c) {ks : Nat → Nat} {e : Nat} (he : e ≤ 40) (hk : ∀ j, j < e → okD c (ks j)) : ∀ (n j : Nat) (M : Mem), j ≤ e → e - j < n → stC M 15 c (rpN c ks j) → M.1 0 7 = nI e → (∀ i, i < e → M.1 29 i = nI (ks i)) → ∃ M', f_X1_doAgain_L9 n (nI j) M = some M' ∧ stC M' 15 c (rpN c ks e) ∧ Fr 15 M M'
  | 0, j, M, _, h, _, _, _ => by omega
  | n + 1, j, M, hj, hn, h, h7, hd => by
    rw [f_X1_doAgain_L9, h7, iteLe (by omega) (by omega)]
    by_cases g : e ≤ j
    · rw [if_pos g]
      have q : j = e := by omega
      subst q
      exact ⟨M, rfl, h, Fr.rf⟩
    · rw [if_neg g, grd_t (inb_t (by omega) (by omega)), ixn (by omega), hd j (by omega)]
      obtain ⟨M1, k1, k2, k3⟩ := cs_perform h hc (okS_rp hc (fun i hi => hk i (by omega))) (by have := rpN_t c ks j; omega) (hk j (by omega))
      rw [k1, bR_s, show nI j + 1 = nI (j + 1) from nI_1 j]
      obtain ⟨M2, p1, p2, p3⟩ := cs_againL hc he hk n (j + 1) M1 (by omega) (by omega) k2 (by rw [k3.2 0 (by omega)]; exact h7) (fun i hi => by rw [k3.2 29 (by omega)]; exact hd i hi)
      exact ⟨M2, p1, p2, k3.tr p3⟩
theorem cs_doAgain {M : Mem} {c : Cfg} {σ : Sg} (hc : okC c) {ks : Nat → Nat} {e : Nat} (he : e ≤ 40) (hk : ∀ j, j < e → okD c (ks j)) (h : stC M 15 c σ) (h7 : M.1 0 7 = nI e) (hd : ∀ i, i < e → M.1 29 i = nI (ks i)) : ∃ M', f_X1_doAgain M = some M' ∧ stC M' 15 c (rpN c ks e) ∧ Fr 15 M M' := by
  unfold f_X1_doAgain
  obtain ⟨fu, hfu, hf2⟩ := FUx
  rw [← hfu]
  obtain ⟨M1, k1, k2, k3⟩ := cs_beginAnew hc h
  rw [k1, bR_s]
  obtain ⟨M2, p1, p2, p3⟩ := cs_againL hc he hk fu 0 M1 (by omega) (by omega) k2 (by rw [k3.2 0 (by omega)]; exact h7) (fun i hi => by rw [k3.2 29 (by omega)]; exact hd i hi)
  exact ⟨M2, at0 (fun x => f_X1_doAgain_L9 fu x M1) p1, p2, k3.tr p3⟩
theorem blk_stM {M : Mem} {c : Cfg} {σ : Sg} {f : Nat → Int32} {b : Nat} (h : blk f b c σ) (h4 : M.1 0 4 = nI c.1) (hcf : ∀ i, i < c.1 → M.1 5 i = nI (c.2.1 i) ∧ M.1 6 i = nI (c.2.2.1 i) ∧ M.1 7 i = nI (c.2.2.2 i)) (hc : okC c) (h8 : ∀ x, x < 15 → M.1 8 x = f (b + x)) : stM M 8 c σ := by
  have h7 := hc.1
  refine ⟨h4, by rw [h8 0 (by omega)]; exact h.1, fun i hi => ?_⟩
  obtain ⟨q1, q2, q3⟩ := hcf i hi
  refine ⟨q1, q2, q3, ?_, ?_⟩
  · rw [h8 (1 + i) (by omega), ← Nat.add_assoc]; exact (h.2 i hi).1
  · rw [h8 (8 + i) (by omega), ← Nat.add_assoc]; exact (h.2 i hi).2
theorem stM_blk {M : Mem} {c : Cfg} {σ : Sg} (h : stM M 8 c σ) (hc : okC c) {f : Nat → Int32} {b : Nat} (hf : ∀ x, x < 15 → f (b + x) = M.1 8 x) : blk f b c σ := by
  have h7 := hc.1
  refine ⟨(hf 0 (by omega)).trans h.2.1, fun i hi => ⟨?_, ?_⟩⟩
  · rw [show b + 1 + i = b + (1 + i) by omega, hf (1 + i) (by omega)]; exact (h.2.2 i hi).2.2.2.1
  · rw [show b + 8 + i = b + (8 + i) by omega, hf (8 + i) (by omega)]; exact (h.2.2 i hi).2.2.2.2
theorem blk_mv {c : Cfg} {σ : Sg} (hc : okC c) {f g : Nat → Int32} {b b2 : Nat} (h : blk f b c σ) (hf : ∀ x, x < 15 → g (b2 + x) = f (b + x)) : blk g b2 c σ := by
  have h7 := hc.1
  refine ⟨(hf 0 (by omega)).trans h.1, fun i hi => ⟨?_, ?_⟩⟩
  · rw [show b2 + 1 + i = b2 + (1 + i) by omega, hf (1 + i) (by omega), ← Nat.add_assoc]; exact (h.2 i hi).1
  · rw [show b2 + 8 + i = b2 + (8 + i) by omega, hf (8 + i) (by omega), ← Nat.add_assoc]; exact (h.2 i hi).2
theorem tt_undo {Mc Mm : Mem} (h0 : Sim Mc Mm) (x : Int32) : Both (f_X1_undo x Mc) (f_X2_undo x Mm) := by
  obtain ⟨c, ds, d, h⟩ := id h0
  obtain ⟨⟨hc, h40, a3, a4, a5, a6, a7, a8, a9⟩, b2, b3, b4, b5, b6⟩ := id h
  have h7 := hc.1
  unfold f_X1_undo f_X2_undo
  rw [a5, a8]
  rcases in_row (x := x) (M := Mc) (m := d) (by omega) with ⟨n, hn, rfl, g1, g2⟩ | ⟨g1, g2⟩
  · rw [g2, show f_X2_in (nI n) 0 (nI d) Mm = some 1 from g1, bR_s, bR_s, if10, if10]
    simp only [jn, lt]
    rw [subN hn]
    obtain ⟨Mc', k1, k2, k3⟩ := cs_doAgain (M := sI Mc 0 7 (nI n)) hc (ks := ds) (e := n) (by omega) (fun j hj => a3 j (by omega)) (stC_of a4 (sI_n _ _ _ _ (by omega)) (fun j j1 j2 => sI_n _ _ _ _ (by omega))) (by rw [sI_1, upd_same]) (fun i hi => by rw [sI_n _ _ _ _ (by omega)]; exact a6 i (by omega))
    rw [k1, bR_s]
    have fin : ∀ M1 : Mem, stM M1 8 c (rpN c ds n) → M1.2 = Mm.2 → (∀ a, a ≠ 8 → M1.1 a = Mm.1 a) → Both (some (nI (d - n), Mc')) (some (nI (d - n), sI M1 0 11 (nI n))) := by
      intro M1 s1 s2 s3
      have w : ∀ {j : Nat}, j ≠ 11 → (sI M1 0 11 (nI n)).1 0 j = Mm.1 0 j := fun hj => by rw [sI_1, upd_ne _ _ hj, s3 0 (by omega)]
      have ww : ∀ {a : Nat}, a ≠ 0 → a ≠ 8 → (sI M1 0 11 (nI n)).1 a = Mm.1 a := fun q1 q2 => by rw [sI_n _ _ _ _ q1, s3 _ q2]
      have u : ∀ {j : Nat}, j ≠ 7 → Mc'.1 0 j = Mc.1 0 j := fun hj => by rw [k3.2 0 (by omega), sI_1, upd_ne _ _ hj]
      have uu : ∀ {a : Nat}, a ≠ 0 → (a < 15 ∨ 21 < a) → Mc'.1 a = Mc.1 a := fun q1 q2 => by rw [k3.2 _ (by omega), sI_n _ _ _ _ q1]
      refine both_bad ⟨c, ds, n, ⟨hc, by omega, fun j hj => a3 j (by omega), k2, by rw [k3.2 0 (by omega), sI_1, upd_same], fun j hj => by rw [uu (by omega) (by omega)]; exact a6 j (by omega), ⟨by rw [w (by omega)]; exact a7.1, by rw [sI_n _ _ _ _ (by omega)]; exact s1.2.1, fun i hi => ?_⟩, by rw [sI_1, upd_same], fun j hj => by rw [ww (by omega) (by omega)]; exact a9 j (by omega)⟩, b2.cg (fun a q1 q2 => uu (by omega) (by omega)) (ww (by omega) (by omega)) (ww (by omega) (by omega)), b3.cg (fun a q1 q2 => uu (by omega) (by omega)) (ww (by omega) (by omega)) (ww (by omega) (by omega)), b4.cg (fun a q1 q2 => uu (by omega) (by omega)) (ww (by omega) (by omega)) (ww (by omega) (by omega)), b5.cg (uu (by omega) (by omega)) (u (by omega)) (ww (by omega) (by omega)) (w (by omega)), b6.cg (u (by omega)) k3.1 (w (by omega)) s2⟩ _
      rw [sI_n _ _ _ _ (by omega), sI_n _ _ _ _ (by omega), sI_n _ _ _ _ (by omega), sI_n _ _ _ _ (by omega)]
      exact s1.2.2 i hi
    rw [show (0 : Int32) = nI 0 from rfl, iteLe (by omega) (by omega)]
    by_cases e : d - n ≤ 0
    · rw [if_pos e]
      have q : n = d := by omega
      exact fin Mm (by rw [q]; exact a7) rfl (fun _ _ => rfl)
    · rw [if_neg e, show (15 : Int32) * nI n = nI (15 * n) from mulN 15 n]
      obtain ⟨M2, r1, r2, r3, r4⟩ := ms_bring (k0 := 10) (k2 := 8) (by omega) (n0 := 600) (n2 := 15) (i := 15 * n) (j := 0) (n := 15) (by omega) (by omega) (by omega) (by omega) Mm
      rw [show f_X2_bring 10 600 8 15 (nI (15 * n)) (nI 0) 15 Mm = some M2 from r1, bR_s]
      refine fin M2 (blk_stM (a9 n (by omega)) (by rw [r2 0 (by omega)]; exact a7.1) (fun i hi => ?_) hc (fun x hx => by rw [r4, if_pos (by omega), Nat.sub_zero])) r3 r2
      obtain ⟨q1, q2, q3, -, -⟩ := a7.2.2 i hi
      rw [r2 5 (by omega), r2 6 (by omega), r2 7 (by omega)]
      exact ⟨q1, q2, q3⟩
  · rw [g2, show f_X2_in x 0 (nI d) Mm = some 0 from g1, bR_s, bR_s, if00, if00]
    exact both_bad h0 _
theorem keep_or (x : Int32) (Mc Mm : Mem) : (∃ i, i < 3 ∧ x = nI i ∧ f_X1_isPlaceToKeep x Mc = some 1 ∧ f_X2_in x 0 2 Mm = some 1) ∨ (f_X1_isPlaceToKeep x Mc = some 0 ∧ f_X2_in x 0 2 Mm = some 0) := by
  unfold f_X1_isPlaceToKeep
  rcases in_row (x := x) (M := Mc) (m := 2) (by omega) with ⟨i, hi, rfl, h1, h2⟩ | ⟨h1, h2⟩
  · left
    refine ⟨i, by omega, rfl, ?_, h1⟩
    rw [show f_X1_isWithin (nI i) 0 2 Mc = some 1 from h2]; rfl
  · right
    refine ⟨?_, h1⟩
    rw [show f_X1_isWithin x 0 2 Mc = some 0 from h2]; rfl
theorem cpk40 : cpk 0 0 40 40 40 = true := by decide
theorem cpy40 (f g : Nat → Int32) {x : Nat} (h : x < 40) : va_cpy f g (ix 0) (ix 0) (ix 40) x = f x := by
  show (if 0 ≤ x ∧ x < 0 + 40 then f (0 + (x - 0)) else g x) = f x
  rw [if_pos (by omega)]; congr 1; omega
theorem nb1 : vp_nar .boolean 1 = 1 := by decide
theorem tt_keep {Mc Mm : Mem} (h0 : Sim Mc Mm) (x : Int32) : Both (f_X1_keep x Mc) (f_X2_keep x Mm) := by
  obtain ⟨c, ds, d, h⟩ := id h0
  obtain ⟨⟨hc, h40, a3, a4, a5, a6, a7, a8, a9⟩, b2, b3, b4, b5, b6⟩ := id h
  have h7 := hc.1
  unfold f_X1_keep f_X2_keep
  rcases keep_or x Mc Mm with ⟨k, hk, rfl, e1, e2⟩ | ⟨e1, e2⟩
  · rw [e1, e2, bR_s, bR_s, if10, if10, a4.1, a7.1]
    by_cases en : c.1 = 0
    · rw [if_pos (show nI c.1 = 0 by rw [en]; rfl), if_pos (show nI c.1 = 0 by rw [en]; rfl)]
      exact both_bad h0 _
    · rw [if_neg (nI_ne0 (by omega) (by omega)), if_neg (nI_ne0 (by omega) (by omega))]
      simp only [lt, nb1, grd_t cpk40, grd_t (inb_t (show k < 3 by omega) (show 3 < 2147483648 by omega)), ixn (show k < 2147483648 by omega), show (616 : Int32) * nI k = nI (616 * k) from mulN 616 k, grd_t (inb_t (show 616 * k < 1848 by omega) (show 1848 < 2147483648 by omega)), ixn (show 616 * k < 2147483648 by omega)]
      rw [show nI (616 * k) + 1 = nI (616 * k + 1) from nI_1 _, show nI (616 * k + 1) + 15 = nI (616 * k + 1 + 15) from addN _ 15]
      generalize hA : sI (sI Mm 12 k 1) 11 (616 * k) ((sI Mm 12 k 1).1 0 11) = MA
      obtain ⟨M2, r1, r2, r3, r4⟩ := ms_bring (k0 := 8) (k2 := 11) (by omega) (n0 := 15) (n2 := 1848) (i := 0) (j := 616 * k + 1) (n := 15) (by omega) (by omega) (by omega) (by omega) MA
      obtain ⟨M3, t1, t2, t3, t4⟩ := ms_bring (k0 := 10) (k2 := 11) (by omega) (n0 := 600) (n2 := 1848) (i := 0) (j := 616 * k + 1 + 15) (n := 600) (by omega) (by omega) (by omega) (by omega) M2
      rw [show f_X2_bring 8 15 11 1848 0 (nI (616 * k + 1)) 15 MA = some M2 from r1, bR_s, show f_X2_bring 10 600 11 1848 0 (nI (616 * k + 1 + 15)) 600 M2 = some M3 from t1, bR_s]
      have mm : ∀ a, a ≠ 11 → a ≠ 12 → M3.1 a = Mm.1 a := fun a q1 q2 => by rw [t2 a q1, r2 a q1, ← hA, sI_n _ _ _ _ q1, sI_n _ _ _ _ q2]
      have m12 : M3.1 12 = upd (Mm.1 12) k 1 := by rw [t2 12 (by omega), r2 12 (by omega), ← hA, sI_n _ _ _ _ (by omega), sI_1]
      have mA : ∀ y, MA.1 11 y = if y = 616 * k then nI d else Mm.1 11 y := fun y => by
        rw [← hA, sI_1, sI_n _ _ _ _ (by omega), sI_n _ _ _ _ (by omega), a8]
        unfold upd
        rfl
      have m11 : ∀ y, M3.1 11 y = if 616 * k + 16 ≤ y ∧ y < 616 * k + 616 then Mm.1 10 (y - (616 * k + 16)) else if 616 * k + 1 ≤ y ∧ y < 616 * k + 16 then Mm.1 8 (y - (616 * k + 1)) else if y = 616 * k then nI d else Mm.1 11 y := fun y => by
        rw [t4, r4, mA, r2 10 (by omega), ← hA, sI_n _ _ _ _ (show (10 : Nat) ≠ 11 by omega), sI_n _ _ _ _ (show (10 : Nat) ≠ 12 by omega), sI_n _ _ _ _ (show (8 : Nat) ≠ 11 by omega), sI_n _ _ _ _ (show (8 : Nat) ≠ 12 by omega)]
        by_cases g : 616 * k + 16 ≤ y ∧ y < 616 * k + 616
        · rw [if_pos (by omega), if_pos g]; exact congrArg (Mm.1 10) (by omega)
        · rw [if_neg (by omega), if_neg g]
          by_cases g2 : 616 * k + 1 ≤ y ∧ y < 616 * k + 16
          · rw [if_pos (by omega), if_pos g2]; exact congrArg (Mm.1 8) (by omega)
          · rw [if_neg (by omega), if_neg g2]
      generalize hB : sA Mc (31 + k) (va_cpy (Mc.1 29) (Mc.1 (31 + k)) (ix 0) (ix 0) (ix 40)) = MB
      have cb : ∀ a, a ≠ 31 + k → MB.1 a = Mc.1 a := fun a q => by rw [← hB, sA_n _ _ _ q]
      have cb2 : MB.2 = Mc.2 := by rw [← hB]; rfl
      have cbk : MB.1 (31 + k) = va_cpy (Mc.1 29) (Mc.1 (31 + k)) (ix 0) (ix 0) (ix 40) := by rw [← hB, sA_1]
      rw [cb 0 (by omega), a5, sI_n _ _ _ _ (by omega), cb 0 (by omega), a5, mm 0 (by omega) (by omega), a8]
      have cc : ∀ a, a ≠ 34 → a ≠ 31 + k → (sI MB 34 k (nI d)).1 a = Mc.1 a := fun a q1 q2 => by rw [sI_n _ _ _ _ q1, cb a q2]
      refine both_bad ⟨c, ds, d, SSt.cg h.1 (by rw [cc 0 (by omega) (by omega)]) (fun a q1 q2 => cc a (by omega) (by omega)) (cc 29 (by omega) (by omega)) (by rw [mm 0 (by omega) (by omega)]) (by rw [mm 0 (by omega) (by omega)]) (fun a q1 q2 => mm a (by omega) (by omega)) (mm 10 (by omega) (by omega)), fun q hq => ?_, b3.cg (fun a q1 q2 => cc a (by omega) (by omega)) (mm 1 (by omega) (by omega)) (mm 2 (by omega) (by omega)), b4.cg (fun a q1 q2 => cc a (by omega) (by omega)) (mm 3 (by omega) (by omega)) (mm 4 (by omega) (by omega)), b5.cg (cc 42 (by omega) (by omega)) (by rw [cc 0 (by omega) (by omega)]) (mm 13 (by omega) (by omega)) (by rw [mm 0 (by omega) (by omega)]), b6.cg (by rw [cc 0 (by omega) (by omega)]) cb2 (by rw [mm 0 (by omega) (by omega)]) (by rw [t3, r3, ← hA]; rfl)⟩ _
      by_cases g : q = k
      · subst g
        right
        refine ⟨d, ds, h40, a3, by rw [sI_1, upd_same], fun j hj => ?_, by rw [m12, upd_same], ?_, ?_, fun j hj => ?_⟩
        · rw [sI_n _ _ _ _ (by omega), cbk, cpy40 _ _ (by omega)]; exact a6 j hj
        · rw [m11, if_neg (by omega), if_neg (by omega), if_pos rfl]
        · exact stM_blk a7 hc (fun y hy => by rw [m11, if_neg (by omega), if_pos (by omega)]; exact congrArg (Mm.1 8) (by omega))
        · exact blk_mv hc (a9 j hj) (fun y hy => by rw [m11, if_pos (by omega)]; exact congrArg (Mm.1 10) (by omega))
      · have e11 : ∀ y, 616 * q ≤ y → y < 616 * q + 616 → M3.1 11 y = Mm.1 11 y := fun y y1 y2 => by
          have : q < k ∨ k < q := by omega
          rw [m11, if_neg (by omega), if_neg (by omega), if_neg (by omega)]
        rw [sI_1, upd_ne _ _ g, cb 34 (by omega), sI_n _ _ _ _ (by omega), cb (31 + q) (by omega), m12, upd_ne _ _ g]
        rcases b2 q hq with z | ⟨e, ks, z1, z2, z3, z4, z5, z6, z7, z8⟩
        · exact Or.inl z
        · right
          refine ⟨e, ks, z1, z2, z3, z4, z5, by rw [e11 _ (by omega) (by omega)]; exact z6, blk_mv hc z7 (fun y hy => e11 _ (by omega) (by omega)), fun j hj => blk_mv hc (z8 j hj) (fun y hy => e11 _ (by omega) (by omega))⟩
  · rw [e1, e2, bR_s, bR_s, if00, if00]
    exact both_bad h0 _
theorem tt_on {Mc Mm : Mem} (h0 : Sim Mc Mm) (x : Int32) : Both (f_X1_on x Mc) (f_X2_on x Mm) := by
  obtain ⟨c, ds, d, h⟩ := id h0
  obtain ⟨⟨hc, h40, a3, a4, a5, a6, a7, a8, a9⟩, b2, b3, b4, b5, b6⟩ := id h
  have h7 := hc.1
  unfold f_X1_on f_X2_on
  rcases keep_or x Mc Mm with ⟨k, hk, rfl, e1, e2⟩ | ⟨e1, e2⟩
  · rw [e1, e2, bR_s, bR_s, if10, if10]
    simp only [lt, grd_t cpk40, grd_t (inb_t (show k < 3 by omega) (show 3 < 2147483648 by omega)), ixn (show k < 2147483648 by omega), show (616 : Int32) * nI k = nI (616 * k) from mulN 616 k, grd_t (inb_t (show 616 * k < 1848 by omega) (show 1848 < 2147483648 by omega)), ixn (show 616 * k < 2147483648 by omega)]
    rcases b2 k hk with ⟨z1, z2⟩ | ⟨e, ks, z1, z2, z3, z4, z5, z6, z7, z8⟩
    · rw [z1, z2, if_pos (show (-1 : Int32) = -1 from rfl), if00]
      exact both_ref h (f := 1) (by omega) (by omega)
    · rw [z3, z5, if_neg (ne_m1 (by omega)), if10]
      rw [show nI (616 * k) + 1 = nI (616 * k + 1) from nI_1 _, show nI (616 * k + 1) + 15 = nI (616 * k + 1 + 15) from addN _ 15, z6]
      generalize hA : sI Mm 0 11 (nI e) = MA
      obtain ⟨M2, r1, r2, r3, r4⟩ := ms_bring (k0 := 11) (k2 := 8) (by omega) (n0 := 1848) (n2 := 15) (i := 616 * k + 1) (j := 0) (n := 15) (by omega) (by omega) (by omega) (by omega) MA
      obtain ⟨M3, t1, t2, t3, t4⟩ := ms_bring (k0 := 11) (k2 := 10) (by omega) (n0 := 1848) (n2 := 600) (i := 616 * k + 1 + 15) (j := 0) (n := 600) (by omega) (by omega) (by omega) (by omega) M2
      rw [show f_X2_bring 11 1848 8 15 (nI (616 * k + 1)) 0 15 MA = some M2 from r1, bR_s, show f_X2_bring 11 1848 10 600 (nI (616 * k + 1 + 15)) 0 600 M2 = some M3 from t1, bR_s]
      have mm : ∀ a, a ≠ 0 → a ≠ 8 → a ≠ 10 → M3.1 a = Mm.1 a := fun a q1 q2 q3 => by rw [t2 a q3, r2 a q2, ← hA, sI_n _ _ _ _ q1]
      have m0 : ∀ j, j ≠ 11 → M3.1 0 j = Mm.1 0 j := fun j hj => by rw [t2 0 (by omega), r2 0 (by omega), ← hA, sI_1, upd_ne _ _ hj]
      have m011 : M3.1 0 11 = nI e := by rw [t2 0 (by omega), r2 0 (by omega), ← hA, sI_1, upd_same]
      have mA11 : MA.1 11 = Mm.1 11 := by rw [← hA, sI_n _ _ _ _ (by omega)]
      have m8 : ∀ y, y < 15 → M3.1 8 y = Mm.1 11 (616 * k + 1 + y) := fun y hy => by rw [t2 8 (by omega), r4, if_pos (by omega), mA11, Nat.sub_zero]
      have m10 : ∀ y, y < 600 → M3.1 10 y = Mm.1 11 (616 * k + 16 + y) := fun y hy => by rw [t4, if_pos (by omega), r2 11 (by omega), mA11, Nat.sub_zero]
      generalize hB : sA Mc 29 (va_cpy (Mc.1 (31 + k)) (Mc.1 29) (ix 0) (ix 0) (ix 40)) = MB
      have cb : ∀ a, a ≠ 29 → MB.1 a = Mc.1 a := fun a q => by rw [← hB, sA_n _ _ _ q]
      have cb2 : MB.2 = Mc.2 := by rw [← hB]; rfl
      have cbk : MB.1 29 = va_cpy (Mc.1 (31 + k)) (Mc.1 29) (ix 0) (ix 0) (ix 40) := by rw [← hB, sA_1]
      rw [cb 34 (by omega), z3]
      obtain ⟨Mc', k1, k2, k3⟩ := cs_doAgain (M := sI MB 0 7 (nI e)) hc z1 z2 (stC_of a4 (by rw [sI_n _ _ _ _ (by omega), cb 15 (by omega)]) (fun j j1 j2 => by rw [sI_n _ _ _ _ (by omega), cb (15 + j) (by omega)])) (by rw [sI_1, upd_same]) (fun i hi => by rw [sI_n _ _ _ _ (by omega), cbk, cpy40 _ _ (by omega)]; exact z4 i hi)
      rw [k1, bR_s, m011, k3.2 0 (by omega), sI_1, upd_same]
      have u : ∀ {j : Nat}, j ≠ 7 → Mc'.1 0 j = Mc.1 0 j := fun hj => by rw [k3.2 0 (by omega), sI_1, upd_ne _ _ hj, cb 0 (by omega)]
      have uu : ∀ {a : Nat}, a ≠ 0 → a ≠ 29 → (a < 15 ∨ 21 < a) → Mc'.1 a = Mc.1 a := fun q1 q3 q2 => by rw [k3.2 _ (by omega), sI_n _ _ _ _ q1, cb _ q3]
      refine both_bad ⟨c, ks, e, ⟨hc, z1, z2, k2, by rw [k3.2 0 (by omega), sI_1, upd_same], fun j hj => by rw [k3.2 29 (by omega), sI_n _ _ _ _ (by omega), cbk, cpy40 _ _ (by omega)]; exact z4 j hj, blk_stM z7 (by rw [m0 4 (by omega)]; exact a7.1) (fun i hi => ?_) hc m8, m011, fun j hj => blk_mv hc (z8 j hj) (fun y hy => by rw [m10 _ (by omega)]; exact congrArg (Mm.1 11) (by omega))⟩, b2.cg (fun a q1 q2 => uu (by omega) (by omega) (by omega)) (mm 11 (by omega) (by omega) (by omega)) (mm 12 (by omega) (by omega) (by omega)), b3.cg (fun a q1 q2 => uu (by omega) (by omega) (by omega)) (mm 1 (by omega) (by omega) (by omega)) (mm 2 (by omega) (by omega) (by omega)), b4.cg (fun a q1 q2 => uu (by omega) (by omega) (by omega)) (mm 3 (by omega) (by omega) (by omega)) (mm 4 (by omega) (by omega) (by omega)), b5.cg (uu (by omega) (by omega) (by omega)) (u (by omega)) (mm 13 (by omega) (by omega) (by omega)) (m0 17 (by omega)), b6.cg (u (by omega)) (k3.1.trans cb2) (m0 14 (by omega)) (by rw [t3, r3, ← hA]; rfl)⟩ _
      obtain ⟨q1, q2, q3, -, -⟩ := a7.2.2 i hi
      rw [mm 5 (by omega) (by omega) (by omega), mm 6 (by omega) (by omega) (by omega), mm 7 (by omega) (by omega) (by omega)]
      exact ⟨q1, q2, q3⟩
  · rw [e1, e2, bR_s, bR_s, if00, if00]
    exact both_bad h0 _
theorem tt_tube {Mc Mm : Mem} (h0 : Sim Mc Mm) (x y : Int32) : Both (f_X1_tube x y Mc) (f_X2_tube x y Mm) := by
  obtain ⟨c, ds, d, h⟩ := id h0
  obtain ⟨hc, h40, a3, a4, a5, a6, a7, a8, a9⟩ := id h.1
  have h7 := hc.1
  have ht := h.t
  unfold f_X1_tube f_X2_tube
  rcases has_or h x with ⟨i, hi, rfl, e1, e2⟩ | ⟨e1, e2⟩
  · obtain ⟨b1, b2, b3, b4⟩ := hc.2 i hi
    obtain ⟨s1, s2, s3, s4, s5⟩ := a7.2.2 i hi
    rw [e1, e2, bR_s, bR_s, if10, if10]
    rcases in_row (x := y) (M := Mc) (m := 6) (by omega) with ⟨v, hv, rfl, g1, g2⟩ | ⟨g1, g2⟩
    · rw [show f_X1_isWithin (nI v) 0 6 Mc = some 1 from g2, show f_X2_in (nI v) 0 6 Mm = some 1 from g1, bR_s, bR_s, if10, if10, cs_fact a4 hc h.okS (by omega) hi hv, bR_s]
      simp only [jn, show (1 : Int32) + nI i = nI (1 + i) from addN 1 i, show (8 : Int32) + nI i = nI (8 + i) from addN 8 i, grd_t (inb_t (show 1 + i < 15 by omega) (show 15 < 2147483648 by omega)), grd_t (inb_t (show 8 + i < 15 by omega) (show 15 < 2147483648 by omega)), ixn (show 1 + i < 2147483648 by omega), ixn (show 8 + i < 2147483648 by omega), grd_t (inb_t (show i < 7 by omega) (show 7 < 2147483648 by omega)), ixn (show i < 2147483648 by omega), s1, s2, s3, s4, s5, ms_isReady a7 hc (show (rpN c ds d).1 < 1000 by omega) hi, ms_sentNow a7 hc h.okS (show (rpN c ds d).1 < 1000 by omega) hi b1, bR_s]
      rw [show (0 : Int32) = nI 0 from rfl, show (2 : Int32) = nI 2 from rfl, show (3 : Int32) = nI 3 from rfl, show (4 : Int32) = nI 4 from rfl, show (5 : Int32) = nI 5 from rfl]
      have key : ∀ z : Int32, z = nI (fcN c (rpN c ds d) i v) → Both (lt (sI Mc 0 13 (nI (fcN c (rpN c ds d) i v))) fun M => some (1, M)) (bI (f_X2_tells z 1 Mm) fun r M => some (r, M)) := fun z hz => by rw [hz]; exact both_told h _ _
      unfold fcN at key ⊢
      rcases (show v = 0 ∨ v = 1 ∨ v = 2 ∨ v = 3 ∨ v = 4 ∨ v = 5 ∨ v = 6 by omega) with rfl | rfl | rfl | rfl | rfl | rfl | rfl
      · exact key _ rfl
      · exact key _ rfl
      · exact key _ rfl
      · exact key _ rfl
      · exact key _ rfl
      · by_cases g : rdN (c.2.1 i) (rpN c ds d).1 = true
        · simp only [g, if_true] at key ⊢
          exact key _ rfl
        · simp only [g] at key ⊢
          exact key _ rfl
      · exact key _ rfl
    · rw [show f_X1_isWithin y 0 6 Mc = some 0 from g2, show f_X2_in y 0 6 Mm = some 0 from g1, bR_s, bR_s, if00, if00]
      exact both_bad h0 _
  · rw [e1, e2, bR_s, bR_s, if00, if00]
    exact both_bad h0 _
