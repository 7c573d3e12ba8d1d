theorem Rd.sim {Mc Mm Nc Nm : Mem} {c : Cfg} {ds : Nat → Nat} {d : Nat} (h : SimX c ds d Mc Mm) (hR : Rd Mc Mm Nc Nm 0) : SimX c ds d Nc Nm :=
  h.scr hR.1 (fun a ha => hR.2.1 a (by omega)) hR.2.2.1 (fun a ha => hR.2.2.2.1 a (by omega) (by omega)) hR.2.2.2.2
theorem rd_all {Mc Mm : Mem} {c : Cfg} {ds : Nat → Nat} {d t s : Nat} (h : SimX c ds d Mc Mm) (ht : t < 4) (hs : s ≤ 60) (hsz : Mc.1 14 t = nI s) : RdQ Mc Mm (f_X0_read 22 (10 + t) 60 (nI s) Mc) (f_X2_reading (nI t) Mm) := by
  obtain ⟨s1, s2, s3⟩ := h.2.2.2.1 t ht
  unfold f_X0_read f_X2_reading
  obtain ⟨fu, hfu, hf2⟩ := FUx
  rw [← hfu, grd_t (inb_t ht (by omega)), lt_e, lt_e, jn_e, jn_e, jn_e, ixn (by omega), ← s1, hsz, show (60 : Int32) * nI t = nI (60 * t) from mulN 60 t]
  have r0 : Rd Mc Mm Mc Mm 0 := ⟨rfl, fun _ _ => rfl, rfl, fun _ _ _ => rfl, fun _ _ => rfl⟩
  exact rd_L h ht hs 60 0 0 fu fu _ _ (by omega) (by omega) (by omega) (by omega) (by omega) ((r0.c (by omega) (by omega)).m0) ⟨by rw [sI_1, upd_same]; rfl, by rw [sI_1, upd_same]; rfl, fun j hj => by omega⟩
theorem tt_fault {Mc Mm : Mem} (h0 : Sim Mc Mm) (x : Int32) : Both (f_X1_fault x Mc) (f_X2_fault x Mm) := by
  obtain ⟨c, ds, d, h⟩ := id h0
  unfold f_X1_fault f_X2_fault
  rcases isText_or x Mc Mm with ⟨t, ht, rfl, e1, e2⟩ | ⟨e1, e2⟩
  · rw [e1, e2, bR_s, bR_s, if10, if10]
    obtain ⟨s1, s2, s3⟩ := h.2.2.2.1 t ht
    simp only [grd_t (inb_t (show t < 4 by omega) (show 4 < 2147483648 by omega)), ixn (show t < 2147483648 by omega)]
    rw [← s1]
    rcases s2 with s2 | ⟨s, hs, s2⟩
    · rw [s2, if_pos (show (-1 : Int32) = -1 from rfl), if_neg (show ¬ (0 : Int32) ≤ -1 by decide)]
      exact both_ref h (f := 1) (by omega) (by omega)
    · rw [s2, if_neg (nI_nm (by omega)), if_pos (nI_pos' (by omega))]
      obtain ⟨r, P1, P2, q1, q2, q3, -⟩ := rd_all h ht hs s2
      rw [q1, q2, bI_s, bI_s]
      exact ⟨_, _, _, rfl, rfl, c, ds, d, q3.sim h⟩
  · rw [e1, e2, bR_s, bR_s, if00, if00]
    exact both_bad h0 _
theorem c_kpL (K : Mem → Option (Int32 × Mem)) : ∀ (f j : Nat) (M : Mem), j ≤ 3 → 3 - j < f → (∀ i, i < j → M.1 34 i = -1) → ∃ M', f_X1_store_L77 K f (nI j) M = K M' ∧ (∀ a, a ≠ 34 → M'.1 a = M.1 a) ∧ M'.2 = M.2 ∧ ∀ i, i < 3 → M'.1 34 i = -1
  | 0, j, M, _, h, _ => by omega
  | f + 1, j, M, hj, hf, hM => by
    rw [f_X1_store_L77, show (3 : Int32) = nI 3 from rfl, iteLe (by omega) (by omega)]
    by_cases e : 3 ≤ j
    · rw [if_pos e]
      exact ⟨M, rfl, fun _ _ => rfl, rfl, fun i hi => hM i (by omega)⟩
    · rw [if_neg e, grd_t (inb_t (by omega) (by omega)), ixn (by omega), lt_e, show nI j + 1 = nI (j + 1) from nI_1 j]
      obtain ⟨M', q1, q2, q3, q4⟩ := c_kpL K f (j + 1) (sI M 34 j (-1)) (by omega) (by omega) (fun i hi => by
        rw [sI_1]
        by_cases g : i = j
        · rw [g, upd_same]
        · rw [upd_ne _ _ g]; exact hM i (by omega))
      exact ⟨M', q1, fun a ha => (q2 a ha).trans (sI_n _ _ _ _ ha), q3, q4⟩
theorem nb0 : vp_nar .boolean 0 = 0 := by decide
theorem m_kpL (K : Mem → Option (Int32 × Mem)) : ∀ (f j : Nat) (M : Mem), j ≤ 3 → 3 - j < f → (∀ i, i < j → M.1 12 i = 0) → ∃ M', f_X2_store_L131 K f (nI j) M = K M' ∧ (∀ a, a ≠ 12 → M'.1 a = M.1 a) ∧ M'.2 = M.2 ∧ ∀ i, i < 3 → M'.1 12 i = 0
  | 0, j, M, _, h, _ => by omega
  | f + 1, j, M, hj, hf, hM => by
    rw [f_X2_store_L131, show (3 : Int32) = nI 3 from rfl, iteLe (by omega) (by omega)]
    by_cases e : 3 ≤ j
    · rw [if_pos e]
      exact ⟨M, rfl, fun _ _ => rfl, rfl, fun i hi => hM i (by omega)⟩
    · rw [if_neg e, grd_t (inb_t (by omega) (by omega)), ixn (by omega), lt_e, show nI j + 1 = nI (j + 1) from nI_1 j, nb0]
      obtain ⟨M', q1, q2, q3, q4⟩ := m_kpL K f (j + 1) (sI M 12 j 0) (by omega) (by omega) (fun i hi => by
        rw [sI_1]
        by_cases g : i = j
        · rw [g, upd_same]
        · rw [upd_ne _ _ g]; exact hM i (by omega))
      exact ⟨M', q1, fun a ha => (q2 a ha).trans (sI_n _ _ _ _ ha), q3, q4⟩
theorem m_stL (K : Mem → Option (Int32 × Mem)) : ∀ (f j : Nat) (M : Mem), j ≤ 15 → 15 - j < f → (∀ i, i < j → M.1 8 i = nI (if i < 8 then 0 else i - 8)) → ∃ M', f_X2_store_L92 K f (nI j) M = K M' ∧ (∀ a, a ≠ 8 → M'.1 a = M.1 a) ∧ M'.2 = M.2 ∧ ∀ i, i < 15 → M'.1 8 i = nI (if i < 8 then 0 else i - 8)
  | 0, j, M, _, h, _ => by omega
  | f + 1, j, M, hj, hf, hM => by
    rw [f_X2_store_L92, show (15 : Int32) = nI 15 from rfl, iteLe (by omega) (by omega)]
    by_cases e : 15 ≤ j
    · rw [if_pos e]
      exact ⟨M, rfl, fun _ _ => rfl, rfl, fun i hi => hM i (by omega)⟩
    · have go : ∀ v, v = nI (if j < 8 then 0 else j - 8) → ∃ M', (grd (inb (nI j) 15) (lt (sI M 8 (ix (nI j)) v) fun M117 => f_X2_store_L92 K f (nI j + 1) M117)) = K M' ∧ (∀ a, a ≠ 8 → M'.1 a = M.1 a) ∧ M'.2 = M.2 ∧ ∀ i, i < 15 → M'.1 8 i = nI (if i < 8 then 0 else i - 8) := by
        intro v hv
        rw [grd_t (inb_t (by omega) (by omega)), ixn (by omega), lt_e, show nI j + 1 = nI (j + 1) from nI_1 j]
        obtain ⟨M', q1, q2, q3, q4⟩ := m_stL K f (j + 1) (sI M 8 j v) (by omega) (by omega) (fun i hi => by
          rw [sI_1]
          by_cases g : i = j
          · rw [g, upd_same, hv]
          · rw [upd_ne _ _ g]; exact hM i (by omega))
        exact ⟨M', q1, fun a ha => (q2 a ha).trans (sI_n _ _ _ _ ha), q3, q4⟩
      rw [if_neg e, jn_e, show (8 : Int32) = nI 8 from rfl, iteLe (by omega) (by omega)]
      by_cases g : 8 ≤ j
      · rw [if_pos g, subN g]
        exact go _ (by rw [if_neg (by omega)])
      · rw [if_neg g]
        exact go _ (by rw [if_pos (by omega)]; rfl)
theorem tt_store {Mc Mm : Mem} (h0 : Sim Mc Mm) (x : Int32) : Both (f_X1_store x Mc) (f_X2_store x Mm) := by
  obtain ⟨c0, ds, d, h⟩ := id h0
  unfold f_X1_store f_X2_store
  obtain ⟨fu, hfu, hf2⟩ := FUx
  rw [← hfu]
  rcases isText_or x Mc Mm with ⟨t, ht, rfl, e1, e2⟩ | ⟨e1, e2⟩
  · rw [e1, e2, bR_s, bR_s, if10, if10]
    obtain ⟨s1, s2, s3⟩ := h.2.2.2.1 t ht
    simp only [grd_t (inb_t (show t < 4 by omega) (show 4 < 2147483648 by omega)), ixn (show t < 2147483648 by omega)]
    rw [← s1]
    rcases s2 with s2 | ⟨s, hs, s2⟩
    · rw [s2, if_pos (show (-1 : Int32) = -1 from rfl), if_neg (show ¬ (0 : Int32) ≤ -1 by decide)]
      exact both_ref h (f := 1) (by omega) (by omega)
    · rw [s2, if_neg (nI_nm (by omega)), if_pos (nI_pos' (by omega))]
      obtain ⟨r, P1, P2, q1, q2, q3, q4⟩ := rd_all h ht hs s2
      rw [q1, q2, bI_s, bI_s]
      by_cases g : r = -9
      · obtain ⟨k, hk2, hk7, k1, k2, k3⟩ := q4 g
        rw [if_pos g, if_pos g]
        have hS := q3.sim h
        obtain ⟨w, hw⟩ : ∃ w : Nat → Nat, ∀ i, P1.1 26 i = nI (w i) := ⟨fun i => Classical.choose (nI_all (P1.1 26 i)), fun i => Classical.choose_spec (nI_all (P1.1 26 i))⟩
        obtain ⟨y, hy⟩ : ∃ y : Nat → Nat, ∀ i, P1.1 27 i = nI (y i) := ⟨fun i => Classical.choose (nI_all (P1.1 27 i)), fun i => Classical.choose_spec (nI_all (P1.1 27 i))⟩
        obtain ⟨tm, htm⟩ := nI_all (P1.1 22 7)
        have kx : ∀ j, j < k → ix (P1.1 23 j) ≤ 5 ∧ 2 ≤ ix (P1.1 24 j) ∧ ix (P1.1 24 j) ≤ 9 ∧ ix (P1.1 25 j) ≤ 9 ∧ P1.1 23 j = nI (ix (P1.1 23 j)) ∧ P1.1 24 j = nI (ix (P1.1 24 j)) ∧ P1.1 25 j = nI (ix (P1.1 25 j)) ∧ P2.1 14 j = P1.1 23 j ∧ P2.1 15 j = P1.1 24 j ∧ P2.1 16 j = P1.1 25 j := by
          intro j hj
          obtain ⟨κ, l, μ, b1, b2, b3, b4, b5, b6, b7, b8, b9, b10⟩ := k3 j hj
          rw [b5, b6, b7, b8, b9, b10, ixn (by omega), ixn (by omega), ixn (by omega)]
          exact ⟨b1, b2, b3, b4, rfl, rfl, rfl, rfl, rfl, rfl⟩
        obtain ⟨c, hcd⟩ : ∃ c : Cfg, c = (k, fun j => ix (P1.1 23 j), fun j => ix (P1.1 24 j), fun j => ix (P1.1 25 j)) := ⟨_, rfl⟩
        have hc : okC c := by
          rw [hcd]
          exact ⟨hk7, fun j hj => ⟨(kx j hj).1, (kx j hj).2.1, (kx j hj).2.2.1, (kx j hj).2.2.2.1⟩⟩
        have hst : stC P1 22 c (tm, w, y) := by
          rw [hcd]
          refine ⟨k1, htm, fun j hj => ?_⟩
          obtain ⟨-, -, -, -, b5, b6, b7, -⟩ := kx j hj
          exact ⟨b5, b6, b7, hw j, hy j⟩
        obtain ⟨A1, u1, u2, u3⟩ := cs_beginAnew hc hst
        obtain ⟨A2, v1, v2, v3⟩ := cs_take (Or.inr ⟨rfl, rfl⟩) hc u2
        rw [u1, bR_s, v1, bR_s, lt_e, jn_e]
        obtain ⟨A3, w1, w2, w3, w4⟩ := c_kpL (fun M_95x => some (M_95x.1 15 6, M_95x)) fu 0 (sI A2 0 7 0) (by omega) (by omega) (fun i hi => by omega)
        rw [show f_X1_store_L77 (fun M_95x => some (M_95x.1 15 6, M_95x)) fu 0 (sI A2 0 7 0) = some (A3.1 15 6, A3) from w1]
        rw [lt_e, k2]
        obtain ⟨B1, m1, m2, m3, m4⟩ := ms_bring (k0 := 14) (k2 := 5) (by omega) (n0 := 7) (n2 := 7) (i := 0) (j := 0) (n := 7) (by omega) (by omega) (by omega) (by omega) (sI P2 0 4 (nI k))
        obtain ⟨B2, n1, n2, n3, n4⟩ := ms_bring (k0 := 15) (k2 := 6) (by omega) (n0 := 7) (n2 := 7) (i := 0) (j := 0) (n := 7) (by omega) (by omega) (by omega) (by omega) B1
        obtain ⟨B3, o1, o2, o3, o4⟩ := ms_bring (k0 := 16) (k2 := 7) (by omega) (n0 := 7) (n2 := 7) (i := 0) (j := 0) (n := 7) (by omega) (by omega) (by omega) (by omega) B2
        rw [show f_X2_bring 14 7 5 7 0 0 7 (sI P2 0 4 (nI k)) = some B1 from m1, bR_s, show f_X2_bring 15 7 6 7 0 0 7 B1 = some B2 from n1, bR_s, show f_X2_bring 16 7 7 7 0 0 7 B2 = some B3 from o1, bR_s, jn_e]
        obtain ⟨B4, p1, p2, p3, p4⟩ := m_stL (fun M_124x => lt (sI M_124x 0 11 0) fun M126 => jn (fun k149 => f_X2_store_L131 k149 fu 0 M126) fun M_149x => some (M_149x.1 0 4, M_149x)) fu 0 B3 (by omega) (by omega) (fun i hi => by omega)
        rw [show f_X2_store_L92 (fun M_124x => lt (sI M_124x 0 11 0) fun M126 => jn (fun k149 => f_X2_store_L131 k149 fu 0 M126) fun M_149x => some (M_149x.1 0 4, M_149x)) fu 0 B3 = _ from p1, lt_e, jn_e]
        obtain ⟨B5, z1, z2, z3, z4⟩ := m_kpL (fun M_149x => some (M_149x.1 0 4, M_149x)) fu 0 (sI B4 0 11 0) (by omega) (by omega) (fun i hi => by omega)
        rw [show f_X2_store_L131 (fun M_149x => some (M_149x.1 0 4, M_149x)) fu 0 (sI B4 0 11 0) = some (B5.1 0 4, B5) from z1]
        have cF : ∀ a, a ≠ 0 → a ≠ 34 → (a < 15 ∨ 28 < a) → A3.1 a = P1.1 a := fun a a0 a34 ha => by rw [w2 a a34, sI_n _ _ _ _ a0, v3.2 a (by omega), u3.2 a (by omega)]
        have c0' : ∀ j, j ≠ 7 → A3.1 0 j = P1.1 0 j := fun j hj => by rw [w2 0 (by omega), sI_1, upd_ne _ _ hj, v3.2 0 (by omega), u3.2 0 (by omega)]
        have c15 : ∀ a, 15 ≤ a → a ≤ 21 → A3.1 a = A2.1 a := fun a a1 a2 => by rw [w2 a (by omega), sI_n _ _ _ _ (by omega)]
        have mF : ∀ a, a ≠ 0 → a ≠ 5 → a ≠ 6 → a ≠ 7 → a ≠ 8 → a ≠ 12 → B5.1 a = P2.1 a := fun a a0 a5 a6 a7 a8 a12 => by rw [z2 a a12, sI_n _ _ _ _ a0, p2 a a8, o2 a a7, n2 a a6, m2 a a5, sI_n _ _ _ _ a0]
        have m0' : ∀ j, j ≠ 11 → B5.1 0 j = (sI P2 0 4 (nI k)).1 0 j := fun j hj => by rw [z2 0 (by omega), sI_1, upd_ne _ _ hj, p2 0 (by omega), o2 0 (by omega), n2 0 (by omega), m2 0 (by omega)]
        have m0x : ∀ j, j ≠ 11 → j ≠ 4 → B5.1 0 j = P2.1 0 j := fun j hj h4 => by rw [m0' j hj, sI_1, upd_ne _ _ h4]
        have k4 : B5.1 0 4 = nI k := by rw [m0' 4 (by omega), sI_1, upd_same]
        have hA : stC A3 15 c begS := stC_of v2 (c15 15 (by omega) (by omega)) (fun j j1 j2 => c15 (15 + j) (by omega) (by omega))
        have hck : c.1 = k := by rw [hcd]
        obtain ⟨a1, a2, a3, a4, a5, a6⟩ := hS
        refine ⟨nI k, A3, B5, ?_, ?_, c, fun _ => 0, 0, ⟨hc, by omega, fun j hj => by omega, hA, ?_, fun j hj => by omega, ⟨?_, ?_, fun i hi => ?_⟩, ?_, fun j hj => by omega⟩, fun i hi => Or.inl ⟨w4 i hi, z4 i hi⟩, a3.cg (fun a q1 q2 => cF a (by omega) (by omega) (by omega)) (mF 1 (by omega) (by omega) (by omega) (by omega) (by omega) (by omega)) (mF 2 (by omega) (by omega) (by omega) (by omega) (by omega) (by omega)), a4.cg (fun a q1 q2 => cF a (by omega) (by omega) (by omega)) (mF 3 (by omega) (by omega) (by omega) (by omega) (by omega) (by omega)) (mF 4 (by omega) (by omega) (by omega) (by omega) (by omega) (by omega)), a5.cg (cF 42 (by omega) (by omega) (by omega)) (c0' 12 (by omega)) (mF 13 (by omega) (by omega) (by omega) (by omega) (by omega) (by omega)) (m0x 17 (by omega) (by omega)), a6.cg (c0' 13 (by omega)) ?_ (m0x 14 (by omega) (by omega)) ?_⟩
        · rw [hA.1, hck]
        · rw [k4]
        · rw [w2 0 (by omega), sI_1, upd_same]; rfl
        · rw [hck]; exact k4
        · rw [z2 8 (by omega), sI_n _ _ _ _ (by omega), p4 0 (by omega)]; rfl
        · have hik : i < k := by rw [← hck]; exact hi
          obtain ⟨-, -, -, -, b5, b6, b7, b8, b9, b10⟩ := kx i hik
          have f5 : B5.1 5 i = P1.1 23 i := by
            rw [z2 5 (by omega), sI_n _ _ _ _ (by omega), p2 5 (by omega), o2 5 (by omega), n2 5 (by omega), m4, if_pos (by omega), sI_n _ _ _ _ (by omega), show 0 + (i - 0) = i by omega, b8]
          have f6 : B5.1 6 i = P1.1 24 i := by
            rw [z2 6 (by omega), sI_n _ _ _ _ (by omega), p2 6 (by omega), o2 6 (by omega), n4, if_pos (by omega), m2 15 (by omega), sI_n _ _ _ _ (by omega), show 0 + (i - 0) = i by omega, b9]
          have f7 : B5.1 7 i = P1.1 25 i := by
            rw [z2 7 (by omega), sI_n _ _ _ _ (by omega), p2 7 (by omega), o4, if_pos (by omega), n2 16 (by omega), m2 16 (by omega), sI_n _ _ _ _ (by omega), show 0 + (i - 0) = i by omega, b10]
          rw [f5, f6, f7, hcd]
          refine ⟨b5, b6, b7, ?_, ?_⟩
          · rw [z2 8 (by omega), sI_n _ _ _ _ (by omega), p4 (1 + i) (by omega), if_pos (by omega)]; rfl
          · rw [z2 8 (by omega), sI_n _ _ _ _ (by omega), p4 (8 + i) (by omega), if_neg (by omega), show 8 + i - 8 = i by omega]; rfl
        · rw [z2 0 (by omega), sI_1, upd_same]; rfl
        · rw [w3, sI_2, v3.1, u3.1]
        · rw [z3, sI_2, p3, o3, n3, m3, sI_2]
      · rw [if_neg g, if_neg g]
        exact both_bad ⟨c0, ds, d, q3.sim h⟩ _
  · rw [e1, e2, bR_s, bR_s, if00, if00]
    exact both_bad h0 _
