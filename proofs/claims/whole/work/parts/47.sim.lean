/-! how class and reference stand to one another -/
def blk (f : Nat → Int32) (b : Nat) (c : Cfg) (σ : Sg) : Prop := f b = nI σ.1 ∧ ∀ i, i < c.1 → f (b + 1 + i) = nI (σ.2.1 i) ∧ f (b + 8 + i) = nI (σ.2.2 i)
def dA (q : Nat) : Nat := q / 4096
def dI (q : Nat) : Nat := q / 512 % 8
def dV (q : Nat) : Nat := q % 512
def okD (c : Cfg) (q : Nat) : Prop := q < 20480 ∧ (dA q = 1 → dI q < c.1 ∧ dV q < c.2.2.1 (dI q)) ∧ (dA q = 2 → dI q < c.1 ∧ dV q < c.1) ∧ (dA q = 3 → dI q < c.1 ∧ dV q < 2 ^ c.2.2.1 (dI q))
def pfN (c : Cfg) (q : Nat) (σ : Sg) : Sg := if dA q = 0 then tkN c σ else if dA q = 1 then swN σ (dI q) (σ.2.1 (dI q) ^^^ 2 ^ dV q) else if dA q = 2 then wayN σ (dI q) (dV q) else if dA q = 3 then swN σ (dI q) (dV q) else σ
def rpN (c : Cfg) (ds : Nat → Nat) : Nat → Sg
  | 0 => begS
  | j + 1 => pfN c (ds j) (rpN c ds j)
theorem rpN_cong {c : Cfg} {ds es : Nat → Nat} : ∀ {d : Nat}, (∀ j, j < d → ds j = es j) → rpN c ds d = rpN c es d
  | 0, _ => rfl
  | d + 1, h => by rw [rpN, rpN, rpN_cong (fun j hj => h j (by omega)), h d (by omega)]
theorem okS_pf {c : Cfg} (hc : okC c) {q : Nat} (hq : okD c q) {σ : Sg} (hs : okS c σ) : okS c (pfN c q σ) := by
  unfold pfN
  by_cases h0 : dA q = 0
  · rw [if_pos h0]; exact okS_tk hc hs
  · rw [if_neg h0]
    by_cases h1 : dA q = 1
    · rw [if_pos h1]
      exact okS_sw hs (xor_lt (hs.1 _ (hq.2.1 h1).1).1 (hq.2.1 h1).2)
    · rw [if_neg h1]
      by_cases h2 : dA q = 2
      · rw [if_pos h2]; exact okS_way hs (hq.2.2.1 h2).1 (hq.2.2.1 h2).2
      · rw [if_neg h2]
        by_cases h3 : dA q = 3
        · rw [if_pos h3]; exact okS_sw hs (hq.2.2.2 h3).2
        · rw [if_neg h3]; exact hs
theorem okS_rp {c : Cfg} (hc : okC c) {ds : Nat → Nat} : ∀ {d : Nat}, (∀ j, j < d → okD c (ds j)) → okS c (rpN c ds d)
  | 0, _ => okS_beg hc
  | d + 1, h => okS_pf hc (h d (by omega)) (okS_rp hc (fun j hj => h j (by omega)))
theorem pfN_t (c : Cfg) (q : Nat) (σ : Sg) : (pfN c q σ).1 ≤ σ.1 + 1 := by
  unfold pfN
  repeat' split
  all_goals first | exact Nat.le_refl _ | exact Nat.le_succ _
theorem rpN_t (c : Cfg) (ds : Nat → Nat) : ∀ d, (rpN c ds d).1 ≤ d
  | 0 => Nat.le_refl _
  | d + 1 => by
    have h1 := pfN_t c (ds d) (rpN c ds d)
    have h2 := rpN_t c ds d
    rw [rpN]; omega
def SSt (Mc Mm : Mem) (c : Cfg) (ds : Nat → Nat) (d : Nat) : Prop := okC c ∧ d ≤ 40 ∧ (∀ j, j < d → okD c (ds j)) ∧ stC Mc 15 c (rpN c ds d) ∧ Mc.1 0 7 = nI d ∧ (∀ j, j < d → Mc.1 29 j = nI (ds j)) ∧ stM Mm 8 c (rpN c ds d) ∧ Mm.1 0 11 = nI d ∧ ∀ j, j < d → blk (Mm.1 10) (15 * j) c (rpN c ds j)
def SKp (Mc Mm : Mem) (c : Cfg) : Prop := ∀ k, k < 3 → (Mc.1 34 k = -1 ∧ Mm.1 12 k = 0) ∨ ∃ (e : Nat) (ks : Nat → Nat), e ≤ 40 ∧ (∀ j, j < e → okD c (ks j)) ∧ Mc.1 34 k = nI e ∧ (∀ j, j < e → Mc.1 (31 + k) j = nI (ks j)) ∧ Mm.1 12 k = 1 ∧ Mm.1 11 (616 * k) = nI e ∧ blk (Mm.1 11) (616 * k + 1) c (rpN c ks e) ∧ ∀ j, j < e → blk (Mm.1 11) (616 * k + 16 + 15 * j) c (rpN c ks j)
def SRw (Mc Mm : Mem) : Prop := ∀ r, r < 6 → Mc.1 8 r = Mm.1 1 r ∧ (Mc.1 8 r = -1 ∨ ∃ n, n ≤ 40 ∧ Mc.1 8 r = nI n) ∧ ∀ i, i < 40 → Mc.1 (2 + r) i = Mm.1 2 (40 * r + i)
def STx (Mc Mm : Mem) : Prop := ∀ t, t < 4 → Mc.1 14 t = Mm.1 3 t ∧ (Mc.1 14 t = -1 ∨ ∃ n, n ≤ 60 ∧ Mc.1 14 t = nI n) ∧ ∀ i, i < 60 → Mc.1 (10 + t) i = Mm.1 4 (60 * t + i)
def SFd (Mc Mm : Mem) : Prop := (∀ f, 1 ≤ f → f ≤ 5 → Mc.1 42 f = Mm.1 13 f) ∧ Mc.1 0 12 = Mm.1 0 17
def STo (Mc Mm : Mem) : Prop := Mc.1 0 13 = Mm.1 0 14 ∧ Mc.2 0 14 = Mm.2 0 15 ∧ Mc.2 0 15 = Mm.2 0 16
def SimX (c : Cfg) (ds : Nat → Nat) (d : Nat) (Mc Mm : Mem) : Prop := SSt Mc Mm c ds d ∧ SKp Mc Mm c ∧ SRw Mc Mm ∧ STx Mc Mm ∧ SFd Mc Mm ∧ STo Mc Mm
def Sim (Mc Mm : Mem) : Prop := ∃ (c : Cfg) (ds : Nat → Nat) (d : Nat), SimX c ds d Mc Mm
def Both {α : Type} (A B : Option (α × Mem)) : Prop := ∃ (r : α) (Mc Mm : Mem), A = some (r, Mc) ∧ B = some (r, Mm) ∧ Sim Mc Mm
section CG
variable {Mc Mm Mc' Mm' : Mem} {c : Cfg} {ds : Nat → Nat} {d : Nat}
theorem SSt.cg (h : SSt Mc Mm c ds d) (h7 : Mc'.1 0 7 = Mc.1 0 7) (hc : ∀ a, 15 ≤ a → a ≤ 20 → Mc'.1 a = Mc.1 a) (h29 : Mc'.1 29 = Mc.1 29) (m4 : Mm'.1 0 4 = Mm.1 0 4) (m11 : Mm'.1 0 11 = Mm.1 0 11) (hm : ∀ a, 5 ≤ a → a ≤ 8 → Mm'.1 a = Mm.1 a) (m10 : Mm'.1 10 = Mm.1 10) : SSt Mc' Mm' c ds d := by
  obtain ⟨a1, a2, a3, a4, a5, a6, a7, a8, a9⟩ := h
  refine ⟨a1, a2, a3, stC_of a4 (hc 15 (by omega) (by omega)) (fun j j1 j2 => hc (15 + j) (by omega) (by omega)), h7.trans a5, fun j hj => by rw [h29]; exact a6 j hj, ⟨m4.trans a7.1, by rw [hm 8 (by omega) (by omega)]; exact a7.2.1, fun i hi => ?_⟩, m11.trans a8, fun j hj => by rw [m10]; exact a9 j hj⟩
  rw [hm 5 (by omega) (by omega), hm 6 (by omega) (by omega), hm 7 (by omega) (by omega), hm 8 (by omega) (by omega)]
  exact a7.2.2 i hi
theorem SKp.cg (h : SKp Mc Mm c) (hc : ∀ a, 31 ≤ a → a ≤ 34 → Mc'.1 a = Mc.1 a) (m11 : Mm'.1 11 = Mm.1 11) (m12 : Mm'.1 12 = Mm.1 12) : SKp Mc' Mm' c := by
  intro k hk
  rw [hc 34 (by omega) (by omega), hc (31 + k) (by omega) (by omega), m11, m12]
  exact h k hk
theorem SRw.cg (h : SRw Mc Mm) (hc : ∀ a, 2 ≤ a → a ≤ 8 → Mc'.1 a = Mc.1 a) (m1 : Mm'.1 1 = Mm.1 1) (m2 : Mm'.1 2 = Mm.1 2) : SRw Mc' Mm' := by
  intro r hr
  rw [hc 8 (by omega) (by omega), hc (2 + r) (by omega) (by omega), m1, m2]
  exact h r hr
theorem STx.cg (h : STx Mc Mm) (hc : ∀ a, 10 ≤ a → a ≤ 14 → Mc'.1 a = Mc.1 a) (m3 : Mm'.1 3 = Mm.1 3) (m4 : Mm'.1 4 = Mm.1 4) : STx Mc' Mm' := by
  intro r hr
  rw [hc 14 (by omega) (by omega), hc (10 + r) (by omega) (by omega), m3, m4]
  exact h r hr
theorem SFd.cg (h : SFd Mc Mm) (h42 : Mc'.1 42 = Mc.1 42) (h12 : Mc'.1 0 12 = Mc.1 0 12) (m13 : Mm'.1 13 = Mm.1 13) (m17 : Mm'.1 0 17 = Mm.1 0 17) : SFd Mc' Mm' := by
  unfold SFd
  rw [h42, h12, m13, m17]; exact h
theorem STo.cg (h : STo Mc Mm) (h13 : Mc'.1 0 13 = Mc.1 0 13) (h2 : Mc'.2 = Mc.2) (m14 : Mm'.1 0 14 = Mm.1 0 14) (m2 : Mm'.2 = Mm.2) : STo Mc' Mm' := by
  unfold STo
  rw [h13, h2, m14, m2]; exact h
/-- what only tries aside leaves all as it was -/
theorem SimX.scr (h : SimX c ds d Mc Mm) (c2 : Mc'.2 = Mc.2) (hc : ∀ a, (a < 22 ∨ (28 < a ∧ a < 36) ∨ 41 < a) → Mc'.1 a = Mc.1 a) (m2 : Mm'.2 = Mm.2) (hm : ∀ a, ((1 ≤ a ∧ a ≤ 8) ∨ (10 ≤ a ∧ a ≤ 13)) → Mm'.1 a = Mm.1 a) (hm0 : ∀ j, j ≠ 19 → Mm'.1 0 j = Mm.1 0 j) : SimX c ds d Mc' Mm' := by
  obtain ⟨a1, a2, a3, a4, a5, a6⟩ := h
  have e0 := hc 0 (by omega)
  exact ⟨a1.cg (by rw [e0]) (fun a q1 q2 => hc a (by omega)) (hc 29 (by omega)) (hm0 4 (by omega)) (hm0 11 (by omega)) (fun a q1 q2 => hm a (by omega)) (hm 10 (by omega)), a2.cg (fun a q1 q2 => hc a (by omega)) (hm 11 (by omega)) (hm 12 (by omega)), a3.cg (fun a q1 q2 => hc a (by omega)) (hm 1 (by omega)) (hm 2 (by omega)), a4.cg (fun a q1 q2 => hc a (by omega)) (hm 3 (by omega)) (hm 4 (by omega)), a5.cg (hc 42 (by omega)) (by rw [e0]) (hm 13 (by omega)) (hm0 17 (by omega)), a6.cg (by rw [e0]) c2 (hm0 14 (by omega)) m2⟩
theorem SimX.told (h : SimX c ds d Mc Mm) (v : Int32) : SimX c ds d (sI Mc 0 13 v) (sI Mm 0 14 v) := by
  obtain ⟨a1, a2, a3, a4, a5, a6⟩ := h
  have u : ∀ {j : Nat}, j ≠ 13 → (sI Mc 0 13 v).1 0 j = Mc.1 0 j := fun hj => by rw [sI_1, upd_ne _ _ hj]
  have w : ∀ {j : Nat}, j ≠ 14 → (sI Mm 0 14 v).1 0 j = Mm.1 0 j := fun hj => by rw [sI_1, upd_ne _ _ hj]
  refine ⟨a1.cg (u (by omega)) (fun a q1 q2 => sI_n _ _ _ _ (by omega)) (sI_n _ _ _ _ (by omega)) (w (by omega)) (w (by omega)) (fun a q1 q2 => sI_n _ _ _ _ (by omega)) (sI_n _ _ _ _ (by omega)), a2.cg (fun a q1 q2 => sI_n _ _ _ _ (by omega)) (sI_n _ _ _ _ (by omega)) (sI_n _ _ _ _ (by omega)), a3.cg (fun a q1 q2 => sI_n _ _ _ _ (by omega)) (sI_n _ _ _ _ (by omega)) (sI_n _ _ _ _ (by omega)), a4.cg (fun a q1 q2 => sI_n _ _ _ _ (by omega)) (sI_n _ _ _ _ (by omega)) (sI_n _ _ _ _ (by omega)), a5.cg (sI_n _ _ _ _ (by omega)) (u (by omega)) (sI_n _ _ _ _ (by omega)) (w (by omega)), ?_, a6.2.1, a6.2.2⟩
  rw [sI_1, sI_1, upd_same, upd_same]
theorem SimX.refuse (h : SimX c ds d Mc Mm) {f : Nat} (h1 : 1 ≤ f) (h5 : f ≤ 5) : ∃ Mc' Mm', f_X1_refuse (nI f) Mc = some (-3, Mc') ∧ f_X2_found (nI f) Mm = some (-3, Mm') ∧ SimX c ds d Mc' Mm' := by
  obtain ⟨a1, a2, a3, a4, a5, a6⟩ := h
  unfold f_X1_refuse f_X2_found
  rw [(inY (v := nI f) (a := 1) (b := 5) (show ¬ nI f < nI 1 from nI_nlt h1 (by omega)) (show ¬ nI 5 < nI f from nI_nlt h5 (by omega))).2, bR_s, if_neg (by decide)]
  simp only [lt]
  rw [grd_t (inb_t (by omega) (by omega)), grd_t (inb_t (by omega) (by omega)), grd_t (inb_t (by omega) (by omega)), grd_t (inb_t (by omega) (by omega)), ixn (by omega)]
  refine ⟨_, _, rfl, rfl, ?_⟩
  have u : ∀ {j : Nat} {v : Int32}, j ≠ 12 → (sI (sI Mc 0 12 (nI f)) 42 f v).1 0 j = Mc.1 0 j := fun hj => by rw [sI_n _ _ _ _ (by omega), sI_1, upd_ne _ _ hj]
  have w : ∀ {j : Nat} {v : Int32}, j ≠ 17 → (sI (sI Mm 0 17 (nI f)) 13 f v).1 0 j = Mm.1 0 j := fun hj => by rw [sI_n _ _ _ _ (by omega), sI_1, upd_ne _ _ hj]
  have uu : ∀ {a : Nat} {v : Int32}, a ≠ 0 → a ≠ 42 → (sI (sI Mc 0 12 (nI f)) 42 f v).1 a = Mc.1 a := fun q1 q2 => by rw [sI_n _ _ _ _ q2, sI_n _ _ _ _ q1]
  have ww : ∀ {a : Nat} {v : Int32}, a ≠ 0 → a ≠ 13 → (sI (sI Mm 0 17 (nI f)) 13 f v).1 a = Mm.1 a := fun q1 q2 => by rw [sI_n _ _ _ _ q2, sI_n _ _ _ _ q1]
  refine ⟨a1.cg (u (by omega)) (fun a q1 q2 => uu (by omega) (by omega)) (uu (by omega) (by omega)) (w (by omega)) (w (by omega)) (fun a q1 q2 => ww (by omega) (by omega)) (ww (by omega) (by omega)), a2.cg (fun a q1 q2 => uu (by omega) (by omega)) (ww (by omega) (by omega)) (ww (by omega) (by omega)), a3.cg (fun a q1 q2 => uu (by omega) (by omega)) (ww (by omega) (by omega)) (ww (by omega) (by omega)), a4.cg (fun a q1 q2 => uu (by omega) (by omega)) (ww (by omega) (by omega)) (ww (by omega) (by omega)), ⟨fun g g1 g5 => ?_, ?_⟩, a6.cg (u (by omega)) rfl (w (by omega)) rfl⟩
  · rw [sI_1, sI_1, sI_n _ _ _ _ (by omega), sI_n _ _ _ _ (by omega)]
    by_cases e : g = f
    · subst e; rw [upd_same, upd_same, a5.1 g g1 g5]
    · rw [upd_ne _ _ e, upd_ne _ _ e]; exact a5.1 g g1 g5
  · rw [sI_n _ _ _ _ (by omega), sI_1, upd_same, sI_n _ _ _ _ (by omega), sI_1, upd_same]
theorem SimX.okS (h : SimX c ds d Mc Mm) : okS c (rpN c ds d) := okS_rp h.1.1 h.1.2.2.1
theorem SimX.t (h : SimX c ds d Mc Mm) : (rpN c ds d).1 ≤ 40 := by
  have h1 := rpN_t c ds d
  have h2 := h.1.2.1
  omega
end CG
/-- a number that is one of a row's, or not -/
theorem row_or (x : Int32) (n : Nat) (hn : n < 2147483648) : (∃ i, i < n ∧ x = nI i) ∨ ¬ ∃ i, i < n ∧ x = nI i := Classical.em _
theorem in_row {x : Int32} {M : Mem} {m : Nat} (hm : m < 2147483648) : (∃ i, i ≤ m ∧ x = nI i ∧ f_X2_in x 0 (nI m) M = some 1 ∧ f_X1_isWithin x 0 (nI m) M = some 1) ∨ (f_X2_in x 0 (nI m) M = some 0 ∧ f_X1_isWithin x 0 (nI m) M = some 0) := by
  by_cases h0 : x < 0
  · exact Or.inr (inNo (Or.inl h0))
  · obtain ⟨j, hj, rfl⟩ := nI_of h0
    by_cases e : j ≤ m
    · exact Or.inl ⟨j, e, rfl, inY h0 (nI_nlt e hm)⟩
    · exact Or.inr (inNo (Or.inr (nI_lt (by omega) hj)))
theorem isRow_or (x : Int32) (Mc Mm : Mem) : (∃ i, i < 6 ∧ x = nI i ∧ f_X1_isRow x Mc = some 1 ∧ f_X2_isRow x Mm = some 1) ∨ (f_X1_isRow x Mc = some 0 ∧ f_X2_isRow x Mm = some 0) := by
  unfold f_X1_isRow f_X2_isRow
  rcases in_row (x := x) (M := Mc) (m := 5) (by omega) with ⟨i, hi, rfl, h1, h2⟩ | ⟨h1, h2⟩
  · left
    have q := (inY (v := nI i) (a := 0) (b := 5) (M := Mm) (nI_pos (by omega)) (show ¬ nI 5 < nI i from nI_nlt (show i ≤ 5 by omega) (by omega))).1
    refine ⟨i, by omega, rfl, ?_, ?_⟩
    · rw [show f_X1_isWithin (nI i) 0 5 Mc = some 1 from h2]; rfl
    · rw [q]; rfl
  · right
    refine ⟨?_, ?_⟩
    · rw [show f_X1_isWithin x 0 5 Mc = some 0 from h2]; rfl
    · rw [show f_X2_in x 0 5 Mm = some 0 from h1]; rfl
theorem isText_or (x : Int32) (Mc Mm : Mem) : (∃ i, i < 4 ∧ x = nI i ∧ f_X1_isText x Mc = some 1 ∧ f_X2_isText x Mm = some 1) ∨ (f_X1_isText x Mc = some 0 ∧ f_X2_isText x Mm = some 0) := by
  unfold f_X1_isText f_X2_isText
  rcases in_row (x := x) (M := Mc) (m := 3) (by omega) with ⟨i, hi, rfl, h1, h2⟩ | ⟨h1, h2⟩
  · left
    have q := (inY (v := nI i) (a := 0) (b := 3) (M := Mm) (nI_pos (by omega)) (show ¬ nI 3 < nI i from nI_nlt (show i ≤ 3 by omega) (by omega))).1
    refine ⟨i, by omega, rfl, ?_, ?_⟩
    · rw [show f_X1_isWithin (nI i) 0 3 Mc = some 1 from h2]; rfl
    · rw [q]; rfl
  · right
    refine ⟨?_, ?_⟩
    · rw [show f_X1_isWithin x 0 3 Mc = some 0 from h2]; rfl
    · rw [show f_X2_in x 0 3 Mm = some 0 from h1]; rfl
