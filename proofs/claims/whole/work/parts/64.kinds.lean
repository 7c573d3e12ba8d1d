/-! of which kind a tube is -/
def cfK (c : Cfg) (i k : Nat) : Cfg := (c.1, fun x => if x = i then k else c.2.1 x, c.2.2.1, c.2.2.2)
theorem okC_K {c : Cfg} (hc : okC c) {i k : Nat} (hk : k ≤ 5) : okC (cfK c i k) := by
  refine ⟨hc.1, fun x hx => ?_⟩
  obtain ⟨a1, a2, a3, a4⟩ := hc.2 x hx
  refine ⟨?_, a2, a3, a4⟩
  show (if x = i then k else c.2.1 x) ≤ 5
  split
  · exact hk
  · exact a1
theorem okS_K {c : Cfg} {σ : Sg} (h : okS c σ) (i k : Nat) : okS (cfK c i k) σ := h
theorem stC_K {M : Mem} {o : Nat} {c : Cfg} {σ : Sg} (h : stC M o c σ) (i k : Nat) : stC (sI M (o + 1) i (nI k)) o (cfK c i k) σ := by
  refine ⟨by rw [sI_n _ _ _ _ (by omega)]; exact h.1, by rw [sI_n _ _ _ _ (by omega)]; exact h.2.1, fun x hx => ?_⟩
  obtain ⟨d1, d2, d3, d4, d5⟩ := h.2.2 x hx
  refine ⟨?_, by rw [sI_n _ _ _ _ (by omega)]; exact d2, by rw [sI_n _ _ _ _ (by omega)]; exact d3, by rw [sI_n _ _ _ _ (by omega)]; exact d4, by rw [sI_n _ _ _ _ (by omega)]; exact d5⟩
  rw [sI_1]
  show _ = nI (if x = i then k else c.2.1 x)
  by_cases e : x = i
  · rw [if_pos e, e, upd_same]
  · rw [if_neg e, upd_ne _ _ e]; exact d1
def kI (c : Cfg) (i : Nat) (R : Nat → Int32) (s : Nat) (σ : Sg) : Nat → Nat
  | 0 => 0
  | k + 1 => kI c i R s σ k + if hdB (cfK c i k) i R s 60 0 σ = true then 2 ^ k else 0
theorem kI_lt (c : Cfg) (i : Nat) (R : Nat → Int32) (s : Nat) (σ : Sg) : ∀ k, kI c i R s σ k < 2 ^ k
  | 0 => by rw [kI]; exact Nat.one_pos
  | k + 1 => by
    have h := kI_lt c i R s σ k
    rw [kI, Nat.pow_succ]
    split <;> omega
theorem kI_c {c : Cfg} {i s : Nat} {σ : Sg} {R S : Nat → Int32} (h : ∀ j, j < s → R j = S j) : ∀ k, kI c i R s σ k = kI c i S s σ k
  | 0 => rfl
  | k + 1 => by rw [kI, kI, kI_c h k, hdB_c h]
theorem or_bit : ∀ k, k < 6 → ∀ m, m < 64 → m < 2 ^ k → nI m ||| shl 1 (nI k) = nI (m + 2 ^ k) := by decide +kernel
theorem or_0 : ∀ m, m < 64 → nI m ||| 0 = nI m := by decide +kernel
theorem c_kiL {c : Cfg} {ds : Nat → Nat} {d i r s : Nat} {Mc Mm : Mem} (h0 : SimX c ds d Mc Mm) (hi : i < c.1) (hr : r < 6) (hs : s ≤ 40) (h8 : Mc.1 8 r = nI s) : ∀ (n k : Nat) (M : Mem), k ≤ 6 → 6 - k < n → Fr 22 Mc M → ∃ M', f_X1_kindsHeard_L5 (nI i) (nI r) n (nI (kI c i (Mc.1 (2 + r)) s (rpN c ds d) k)) (nI k) M = some (nI (kI c i (Mc.1 (2 + r)) s (rpN c ds d) 6), M') ∧ Fr 22 Mc M'
  | 0, k, M, _, h, _ => by omega
  | n + 1, k, M, hk, hn, hF => by
    have hc := h0.1.1
    have h7 := hc.1
    have ht := h0.t
    rw [f_X1_kindsHeard_L5, show (6 : Int32) = nI 6 from rfl, iteLe (by omega) (by omega)]
    by_cases e : 6 ≤ k
    · rw [if_pos e, show k = 6 by omega]
      exact ⟨M, rfl, hF⟩
    · have h15 : stC M 15 c (rpN c ds d) := stC_of h0.1.2.2.2.1 (hF.2 15 (by omega)) (fun j j1 j2 => hF.2 (15 + j) (by omega))
      obtain ⟨P, p1, p2, p3⟩ := cs_take (Or.inl ⟨rfl, rfl⟩) hc h15
      have q2 := stC_K p2 i k
      have hF2 : Fr 22 Mc (sI P (22 + 1) i (nI k)) := (hF.tr p3).tr (Fr.set (o := 22) (j := 1) (by omega))
      obtain ⟨Q, u1, u2⟩ := cs_isHeard (r := r) (s := s) (okC_K hc (show k ≤ 5 by omega)) hi hr hs q2 (okS_K h0.okS i k) (by omega) (by rw [hF2.2 8 (by omega)]; exact h8)
      rw [hF2.2 (2 + r) (by omega)] at u1
      rw [if_neg e, p1, bR_s, grd_t (inb_t (show i < 7 by omega) (by omega)), ixn (by omega), lt_e, u1, bI_s, jn_e, show nI k + 1 = nI (k + 1) from nI_1 k]
      have ih := c_kiL h0 hi hr hs h8 n (k + 1) Q (by omega) (by omega) (hF2.tr u2)
      rw [kI] at ih
      have hl := kI_lt c i (Mc.1 (2 + r)) s (rpN c ds d) k
      have hp : 2 ^ k ≤ 2 ^ 5 := Nat.pow_le_pow_right (by decide) (by omega)
      by_cases g : hdB (cfK c i k) i (Mc.1 (2 + r)) s 60 0 (rpN c ds d) = true
      · rw [if_pos g] at ih
        rw [if_pos g, if10, or_bit k (by omega) _ (by omega) hl]
        exact ih
      · rw [if_neg g, Nat.add_zero] at ih
        rw [if_neg g, if00]
        exact ih
theorem c_kinds {c : Cfg} {ds : Nat → Nat} {d i r s : Nat} {Mc Mm : Mem} (h0 : SimX c ds d Mc Mm) (hi : i < c.1) (hr : r < 6) (hs : s ≤ 40) (h8 : Mc.1 8 r = nI s) : ∃ M', f_X1_kindsHeard (nI i) (nI r) Mc = some (nI (kI c i (Mc.1 (2 + r)) s (rpN c ds d) 6), M') ∧ Fr 22 Mc M' := by
  unfold f_X1_kindsHeard
  obtain ⟨fu, hfu, hf2⟩ := FUx
  rw [← hfu]
  exact c_kiL h0 hi hr hs h8 fu 0 Mc (by omega) (by omega) Fr.rf
/-- but for the kind of a tube all is as it was -/
def MKn (i : Nat) (Mm N : Mem) : Prop := N.2 = Mm.2 ∧ (∀ a, a ≠ 5 → a ≠ 9 → a ≠ 17 → a ≠ 18 → N.1 a = Mm.1 a) ∧ ∀ x, x ≠ i → N.1 5 x = Mm.1 5 x
theorem MKn.rf {i : Nat} {M : Mem} : MKn i M M := ⟨rfl, fun _ _ _ _ _ => rfl, fun _ _ => rfl⟩
theorem MKn.fr {i : Nat} {Mm N P : Mem} (h : MKn i Mm N) (g : FrM 9 N P) : MKn i Mm P := ⟨g.1.trans h.1, fun a a5 a9 a17 a18 => (g.2 a a9 a17).trans (h.2.1 a a5 a9 a17 a18), fun x hx => by rw [g.2 5 (by omega) (by omega)]; exact h.2.2 x hx⟩
theorem MKn.k {i : Nat} {Mm N : Mem} (h : MKn i Mm N) (v : Int32) : MKn i Mm (sI N 5 i v) := ⟨h.1, fun a a5 a9 a17 a18 => (sI_n _ _ _ _ a5).trans (h.2.1 a a5 a9 a17 a18), fun x hx => by rw [sI_1, upd_ne _ _ hx]; exact h.2.2 x hx⟩
theorem MKn.b {i : Nat} {Mm N : Mem} (h : MKn i Mm N) : (∀ a, a ≠ 9 → a ≠ 17 → a ≠ 18 → (sI N 5 i (Mm.1 5 i)).1 a = Mm.1 a) ∧ (sI N 5 i (Mm.1 5 i)).2 = Mm.2 := by
  refine ⟨fun a a9 a17 a18 => ?_, h.1⟩
  by_cases e : a = 5
  · rw [e, sI_1]
    refine funext fun x => ?_
    by_cases g : x = i
    · rw [g, upd_same]
    · rw [upd_ne _ _ g]; exact h.2.2 x g
  · rw [sI_n _ _ _ _ e]; exact h.2.1 a e a9 a17 a18
theorem MKn.st {i k : Nat} {Mm N : Mem} {c : Cfg} {σ : Sg} (h : MKn i Mm N) (h8 : stM Mm 8 c σ) : stM (sI N 5 i (nI k)) 8 (cfK c i k) σ := by
  have e : ∀ a, a ≠ 5 → a ≠ 9 → a ≠ 17 → a ≠ 18 → (sI N 5 i (nI k)).1 a = Mm.1 a := fun a a5 a9 a17 a18 => by rw [sI_n _ _ _ _ a5]; exact h.2.1 a a5 a9 a17 a18
  refine ⟨by rw [e 0 (by omega) (by omega) (by omega) (by omega)]; exact h8.1, by rw [e 8 (by omega) (by omega) (by omega) (by omega)]; exact h8.2.1, fun x hx => ?_⟩
  obtain ⟨d1, d2, d3, d4, d5⟩ := h8.2.2 x hx
  rw [e 6 (by omega) (by omega) (by omega) (by omega), e 7 (by omega) (by omega) (by omega) (by omega), e 8 (by omega) (by omega) (by omega) (by omega)]
  refine ⟨?_, d2, d3, d4, d5⟩
  rw [sI_1]
  show _ = nI (if x = i then k else c.2.1 x)
  by_cases g : x = i
  · rw [if_pos g, g, upd_same]
  · rw [if_neg g, upd_ne _ _ g, h.2.2 x g]; exact d1
theorem m_kiL {c : Cfg} {ds : Nat → Nat} {d i r s : Nat} {Mc Mm : Mem} (h0 : SimX c ds d Mc Mm) (hi : i < c.1) (hr : r < 6) (hs : s ≤ 40) (h8 : Mc.1 8 r = nI s) (z : Int32) (K : Int32 → Mem → Option (Int32 × Mem)) : ∀ (n k : Nat) (M : Mem), k ≤ 6 → 6 - k < n → MKn i Mm M → ∃ M', f_X2_kindsOf_L13 (nI i) (nI r) z K n (nI (kI c i (Mc.1 (2 + r)) s (rpN c ds d) k)) (nI k) M = K (nI (kI c i (Mc.1 (2 + r)) s (rpN c ds d) 6)) M' ∧ MKn i Mm M'
  | 0, k, M, _, h, _ => by omega
  | n + 1, k, M, hk, hn, hF => by
    have hc := h0.1.1
    have h7 := hc.1
    have ht := h0.t
    rw [f_X2_kindsOf_L13, show (6 : Int32) = nI 6 from rfl, iteLe (by omega) (by omega)]
    by_cases e : 6 ≤ k
    · rw [if_pos e, show k = 6 by omega]
      exact ⟨M, rfl, hF⟩
    · obtain ⟨s1, s2, s3⟩ := h0.2.2.1 r hr
      have hck := okC_K (i := i) hc (show k ≤ 5 by omega)
      have p2 := hF.st (k := k) h0.1.2.2.2.2.2.2.1
      obtain ⟨P, p1, p3, p4⟩ := ms_asItIs hck p2
      have hP : MKn i Mm P := (hF.k (nI k)).fr p4
      obtain ⟨Q, u1, u2⟩ := ms_isHeard (r := r) (s := s) (R := Mc.1 (2 + r)) hck hi hr hs p3 (okS_K h0.okS i k) (by omega) (by rw [hP.2.1 1 (by omega) (by omega) (by omega) (by omega), ← s1]; exact h8) (fun x hx => by rw [hP.2.1 2 (by omega) (by omega) (by omega) (by omega)]; exact (s3 x (by omega)).symm)
      rw [if_neg e, grd_t (inb_t (show i < 7 by omega) (by omega)), ixn (by omega), lt_e, p1, bR_s, u1, bI_s, jn_e, show nI k + 1 = nI (k + 1) from nI_1 k]
      have ih := m_kiL h0 hi hr hs h8 z K n (k + 1) Q (by omega) (by omega) (hP.fr u2)
      rw [kI] at ih
      have hl := kI_lt c i (Mc.1 (2 + r)) s (rpN c ds d) k
      have hp : 2 ^ k ≤ 2 ^ 5 := Nat.pow_le_pow_right (by decide) (by omega)
      by_cases g : hdB (cfK c i k) i (Mc.1 (2 + r)) s 60 0 (rpN c ds d) = true
      · rw [if_pos g, ← or_bit k (by omega) _ (by omega) hl] at ih
        rw [if_pos g, if10]
        exact ih
      · rw [if_neg g, Nat.add_zero, ← or_0 (kI c i (Mc.1 (2 + r)) s (rpN c ds d) k) (by omega)] at ih
        rw [if_neg g, if00]
        exact ih
theorem m_kinds {c : Cfg} {ds : Nat → Nat} {d i r s : Nat} {Mc Mm : Mem} (h0 : SimX c ds d Mc Mm) (hi : i < c.1) (hr : r < 6) (hs : s ≤ 40) (h8 : Mc.1 8 r = nI s) : ∃ M', f_X2_kindsOf (nI i) (nI r) Mm = some (nI (kI c i (Mc.1 (2 + r)) s (rpN c ds d) 6), M') ∧ (∀ a, a ≠ 9 → a ≠ 17 → a ≠ 18 → M'.1 a = Mm.1 a) ∧ M'.2 = Mm.2 := by
  have h7 := h0.1.1.1
  unfold f_X2_kindsOf
  obtain ⟨fu, hfu, hf2⟩ := FUx
  rw [← hfu, grd_t (inb_t (show i < 7 by omega) (by omega)), jn_e, ixn (by omega)]
  obtain ⟨M', q1, q2⟩ := m_kiL h0 hi hr hs h8 (Mm.1 5 i) (fun v M => grd (inb (nI i) 7) (lt (sI M 5 i (Mm.1 5 i)) fun M66 => some (v, M66))) fu 0 Mm (by omega) (by omega) MKn.rf
  rw [show f_X2_kindsOf_L13 (nI i) (nI r) (Mm.1 5 i) (fun v M => grd (inb (nI i) 7) (lt (sI M 5 i (Mm.1 5 i)) fun M66 => some (v, M66))) fu 0 0 Mm = _ from q1, grd_t (inb_t (show i < 7 by omega) (by omega)), lt_e]
  exact ⟨_, rfl, q2.b⟩
/-- both sides have found the kinds -/
theorem b_kinds {c : Cfg} {ds : Nat → Nat} {d i r s : Nat} {Mc Mm : Mem} (h0 : SimX c ds d Mc Mm) (hi : i < c.1) (hr : r < 6) (hs : s ≤ 40) (h8 : Mc.1 8 r = nI s) : ∃ m P1 P2, m < 64 ∧ f_X1_kindsHeard (nI i) (nI r) Mc = some (nI m, P1) ∧ f_X2_kindsOf (nI i) (nI r) Mm = some (nI m, P2) ∧ SimX c ds d P1 P2 := by
  obtain ⟨P1, p1, p2⟩ := c_kinds h0 hi hr hs h8
  obtain ⟨P2, q1, q2, q3⟩ := m_kinds h0 hi hr hs h8
  exact ⟨_, P1, P2, kI_lt _ _ _ _ _ 6, p1, q1, h0.scr p2.1 (fun a ha => p2.2 a (by omega)) q3 (fun a ha => q2 a (by omega) (by omega) (by omega)) (fun j _ => by rw [q2 0 (by omega) (by omega) (by omega)])⟩
theorem tt_kinds {Mc Mm : Mem} (h0 : Sim Mc Mm) (x y : Int32) : Both (f_X1_kinds x y Mc) (f_X2_kinds x y Mm) := by
  obtain ⟨c, ds, d, h⟩ := id h0
  unfold f_X1_kinds f_X2_kinds
  rcases has_or h x with ⟨i, hi, rfl, e1, e2⟩ | ⟨e1, e2⟩
  · rw [e1, e2, bR_s, bR_s, if10, if10]
    rcases isRow_or y Mc Mm with ⟨r, hr, rfl, e3, e4⟩ | ⟨e3, e4⟩
    · rw [e3, e4, bR_s, bR_s, if10, if10]
      rcases lk_or h hr with ⟨s, hs, g1, g2, g3⟩ | ⟨f, f1, f5, g2, g3⟩
      · rw [g2, g3, bR_s, bR_s, if00, if00]
        obtain ⟨m, P1, P2, hm, q1, q2, q3⟩ := b_kinds h hi hr (show s ≤ 40 by omega) g1
        rw [q1, q2, bI_s, bI_s]
        exact both_bad ⟨c, ds, d, q3⟩ _
      · rw [g2, g3, bR_s, bR_s, if_neg (nI_ne0 (by omega) (by omega)), if_neg (nI_ne0 (by omega) (by omega))]
        exact both_ref h f1 f5
    · rw [e3, e4, bR_s, bR_s, if00, if00]
      exact both_bad h0 _
  · rw [e1, e2, bR_s, bR_s, if00, if00]
    exact both_bad h0 _
